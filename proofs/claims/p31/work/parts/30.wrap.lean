theorem ml_L_9 : Cond.methodLink RL 9 yX5_plug ∈ gw := gwm (i := 410) (by decide +kernel) (by decide +kernel)
theorem kc_X5_plug : Cond.code yX5_plug cX5_plug 5 (some .int) ∈ gw := gwm (i := 413) (by decide +kernel) (by decide +kernel)
theorem ii_X5_plug : Cond.instanceMethod yX5_plug ∈ gw := gwm (i := 411) (by decide +kernel) (by decide +kernel)
theorem is_X5_plug : Cond.selects RX5 yX5_plug yX5_plug ∈ gw := gwm (i := 412) (by decide +kernel) (by decide +kernel)
theorem ml_L_21 : Cond.methodLink RL 21 yX5_pull ∈ gw := gwm (i := 445) (by decide +kernel) (by decide +kernel)
theorem kc_X5_pull : Cond.code yX5_pull cX5_pull 3 (some .int) ∈ gw := gwm (i := 448) (by decide +kernel) (by decide +kernel)
theorem ii_X5_pull : Cond.instanceMethod yX5_pull ∈ gw := gwm (i := 446) (by decide +kernel) (by decide +kernel)
theorem is_X5_pull : Cond.selects RX5 yX5_pull yX5_pull ∈ gw := gwm (i := 447) (by decide +kernel) (by decide +kernel)
theorem ml_L_25 : Cond.methodLink RL 25 yX5_fail ∈ gw := gwm (i := 482) (by decide +kernel) (by decide +kernel)
theorem kc_X5_fail : Cond.code yX5_fail cX5_fail 3 (some .int) ∈ gw := gwm (i := 485) (by decide +kernel) (by decide +kernel)
theorem ii_X5_fail : Cond.instanceMethod yX5_fail ∈ gw := gwm (i := 483) (by decide +kernel) (by decide +kernel)
theorem is_X5_fail : Cond.selects RX5 yX5_fail yX5_fail ∈ gw := gwm (i := 484) (by decide +kernel) (by decide +kernel)
theorem ml_L_28 : Cond.methodLink RL 28 yX5_start ∈ gw := gwm (i := 507) (by decide +kernel) (by decide +kernel)
theorem kc_X5_start : Cond.code yX5_start cX5_start 1 (some .int) ∈ gw := gwm (i := 510) (by decide +kernel) (by decide +kernel)
theorem ii_X5_start : Cond.instanceMethod yX5_start ∈ gw := gwm (i := 508) (by decide +kernel) (by decide +kernel)
theorem is_X5_start : Cond.selects RX5 yX5_start yX5_start ∈ gw := gwm (i := 509) (by decide +kernel) (by decide +kernel)
theorem ml_L_32 : Cond.methodLink RL 32 yX5_stop ∈ gw := gwm (i := 554) (by decide +kernel) (by decide +kernel)
theorem kc_X5_stop : Cond.code yX5_stop cX5_stop 2 (some .int) ∈ gw := gwm (i := 557) (by decide +kernel) (by decide +kernel)
theorem ii_X5_stop : Cond.instanceMethod yX5_stop ∈ gw := gwm (i := 555) (by decide +kernel) (by decide +kernel)
theorem is_X5_stop : Cond.selects RX5 yX5_stop yX5_stop ∈ gw := gwm (i := 556) (by decide +kernel) (by decide +kernel)
theorem ml_L_35 : Cond.methodLink RL 35 yX5_write ∈ gw := gwm (i := 579) (by decide +kernel) (by decide +kernel)
theorem kc_X5_write : Cond.code yX5_write cX5_write 3 (some .int) ∈ gw := gwm (i := 582) (by decide +kernel) (by decide +kernel)
theorem ii_X5_write : Cond.instanceMethod yX5_write ∈ gw := gwm (i := 580) (by decide +kernel) (by decide +kernel)
theorem is_X5_write : Cond.selects RX5 yX5_write yX5_write ∈ gw := gwm (i := 581) (by decide +kernel) (by decide +kernel)
theorem ml_L_39 : Cond.methodLink RL 39 yX5_read ∈ gw := gwm (i := 637) (by decide +kernel) (by decide +kernel)
theorem kc_X5_read : Cond.code yX5_read cX5_read 2 (some .int) ∈ gw := gwm (i := 640) (by decide +kernel) (by decide +kernel)
theorem ii_X5_read : Cond.instanceMethod yX5_read ∈ gw := gwm (i := 638) (by decide +kernel) (by decide +kernel)
theorem is_X5_read : Cond.selects RX5 yX5_read yX5_read ∈ gw := gwm (i := 639) (by decide +kernel) (by decide +kernel)
theorem ml_L_42 : Cond.methodLink RL 42 yX5_rest ∈ gw := gwm (i := 698) (by decide +kernel) (by decide +kernel)
theorem kc_X5_rest : Cond.code yX5_rest cX5_rest 2 (some .int) ∈ gw := gwm (i := 701) (by decide +kernel) (by decide +kernel)
theorem ii_X5_rest : Cond.instanceMethod yX5_rest ∈ gw := gwm (i := 699) (by decide +kernel) (by decide +kernel)
theorem is_X5_rest : Cond.selects RX5 yX5_rest yX5_rest ∈ gw := gwm (i := 700) (by decide +kernel) (by decide +kernel)
theorem ml_L_45 : Cond.methodLink RL 45 yX5_set ∈ gw := gwm (i := 707) (by decide +kernel) (by decide +kernel)
theorem kc_X5_set : Cond.code yX5_set cX5_set 3 (some .int) ∈ gw := gwm (i := 710) (by decide +kernel) (by decide +kernel)
theorem ii_X5_set : Cond.instanceMethod yX5_set ∈ gw := gwm (i := 708) (by decide +kernel) (by decide +kernel)
theorem is_X5_set : Cond.selects RX5 yX5_set yX5_set ∈ gw := gwm (i := 709) (by decide +kernel) (by decide +kernel)
theorem ml_L_48 : Cond.methodLink RL 48 yX5_undo ∈ gw := gwm (i := 223) (by decide +kernel) (by decide +kernel)
theorem kc_X5_undo : Cond.code yX5_undo cX5_undo 2 (some .int) ∈ gw := gwm (i := 226) (by decide +kernel) (by decide +kernel)
theorem ii_X5_undo : Cond.instanceMethod yX5_undo ∈ gw := gwm (i := 224) (by decide +kernel) (by decide +kernel)
theorem is_X5_undo : Cond.selects RX5 yX5_undo yX5_undo ∈ gw := gwm (i := 225) (by decide +kernel) (by decide +kernel)
theorem lc_L_7 : Cond.constant RL 7 1359893120 ∈ gw := gwm (i := 214) (by decide +kernel) (by decide +kernel)
theorem k_X5_plug : KY yX5_plug cX5_plug 5 (some .int) 4 := ⟨kc_X5_plug, ki_StickPairs, by decide, by decide +kernel⟩
theorem k_X5_pull : KY yX5_pull cX5_pull 3 (some .int) 1 := ⟨kc_X5_pull, ki_StickPairs, by decide, by decide +kernel⟩
theorem k_X5_fail : KY yX5_fail cX5_fail 3 (some .int) 1 := ⟨kc_X5_fail, ki_StickPairs, by decide, by decide +kernel⟩
theorem k_X5_start : KY yX5_start cX5_start 1 (some .int) 0 := ⟨kc_X5_start, ki_StickPairs, by decide, by decide +kernel⟩
theorem k_X5_stop : KY yX5_stop cX5_stop 2 (some .int) 0 := ⟨kc_X5_stop, ki_StickPairs, by decide, by decide +kernel⟩
theorem k_X5_write : KY yX5_write cX5_write 3 (some .int) 2 := ⟨kc_X5_write, ki_StickPairs, by decide, by decide +kernel⟩
theorem k_X5_read : KY yX5_read cX5_read 2 (some .int) 1 := ⟨kc_X5_read, ki_StickPairs, by decide, by decide +kernel⟩
theorem k_X5_rest : KY yX5_rest cX5_rest 2 (some .int) 1 := ⟨kc_X5_rest, ki_StickPairs, by decide, by decide +kernel⟩
theorem k_X5_set : KY yX5_set cX5_set 3 (some .int) 2 := ⟨kc_X5_set, ki_StickPairs, by decide, by decide +kernel⟩
theorem k_X5_undo : KY yX5_undo cX5_undo 2 (some .int) 0 := ⟨kc_X5_undo, ki_StickPairs, by decide, by decide +kernel⟩
def exC (n : Nat) : Nat := if n = 1 then 15 else if n = 2 then 17 else 19
theorem lk_1 : Cond.classLink RL (exC 1) (exN 1) ∈ gw := gwm (i := 319) (by decide +kernel) (by decide +kernel)
theorem ca_1 : Cond.castable (exN 1) (exN 1) ∈ nestW := List.mem_filter.mpr ⟨List.mem_of_getElem? (i := 313) (by decide +kernel), rfl⟩
theorem lk_2 : Cond.classLink RL (exC 2) (exN 2) ∈ gw := gwm (i := 320) (by decide +kernel) (by decide +kernel)
theorem ca_2 : Cond.castable (exN 2) (exN 2) ∈ nestW := List.mem_filter.mpr ⟨List.mem_of_getElem? (i := 332) (by decide +kernel), rfl⟩
theorem lk_3 : Cond.classLink RL (exC 3) (exN 3) ∈ gw := gwm (i := 222) (by decide +kernel) (by decide +kernel)
theorem ca_3 : Cond.castable (exN 3) (exN 3) ∈ nestW := List.mem_filter.mpr ⟨List.mem_of_getElem? (i := 212) (by decide +kernel), rfl⟩
def CtW (l : Launch) (y : MethodName) (cc : ByteArray) (nL : Nat) (ret : Option FieldType) (hh : List (Nat × Nat × Nat × Nat)) (d : Nat) (as : List Value) (G : GG) (sa : Nat → Nat) (V : VA) (rv : Option Value) (V1 : VA) : Prop :=
  ∀ sz, Met l y (Cond.codeWith y cc nL ret hh :: gw) (RMX d) (va_Pc as (PcX G sa V sz)) (QR G sz rv V1) 1 6 (AA G sz)
def QW {ρ : Type} (G : GG) (X : WX) (rv : ρ → Option Value) (fin : ρ → VA) (x : ρ) : State → Prop := MQ (xb X) (QR G (xs X).heap.size (rv x) (fin x)) (xa X) (xs X) 1 6 (AA G (xs X).heap.size)
def Wrp (G : GG) (sa : Nat → Nat) (X : WX) (hh : List (Nat × Nat × Nat × Nat)) : Prop := (xc X).exceptionTable.toList = tableOf hh ∧ XK G sa (xs X).heap.size (xs X) (xs X).heap ∧ xk X = 0 ∧ xz X = 0 ∧ 1 ≤ (xR X).cells ∧ 6 ≤ (xR X).slots
theorem met_ofWH {l : Launch} {y : MethodName} {ws ws' : List Cond} {rm : Room} {Pc : Array Value → State → Prop} {Qc : Array Value → State → Outcome → State → Prop} {mc ms : Nat} {free : Addr → Prop} {cc : ByteArray} {maxL : Nat} {ret : Option FieldType} {hh : List (Nat × Nat × Nat × Nat)}
    (hy : plainName y.cls = true) (hw : ws = Cond.codeWith y cc maxL ret hh :: ws')
    (body : ∀ p e s m args below meth c s₁, BodyLoose p l y (headSpec ws rm) cc maxL ret e s m args below meth c s₁ → c.maxLocals = maxL → c.exceptionTable.toList = tableOf hh → Pc args s →
      W p l e (headSpec ws rm).room s m args below meth c s.heap [] 0 0 (MQ below Qc args s mc ms free) (entryFrame m args maxL)) : Met l y ws rm Pc Qc mc ms free := by
  refine MetFree.of_bodyS (code := cc) (maxLocals := maxL) (ret := ret) hy ?_ ?_
  · intro args s m h hn
    obtain ⟨m9, meth, c, hn9, h1, h2, h3, h4, -, h5, h6, -⟩ := Cond.codeWith_spec (atoms_spec (ws := ws) h _ (by rw [hw]; exact List.mem_cons_self))
    cases hn.symm.trans hn9
    exact ⟨meth, c, h1, h2, h3, h4, h5, h6⟩
  · intro p e s m args below meth c s₁ B hml hP _
    have hh0 : s₁.heap = s.heap := by rw [B.state]; rfl
    have ht := vx_table (x := y) B (atoms_spec (ws := ws) B.pre _ (by rw [hw]; exact List.mem_cons_self))
    obtain ⟨t, a1, o, b1, b2, b3⟩ := body p e s m args below meth c s₁ B hml ht hP s₁ hh0 (Stand.of_body B)
    exact ⟨t, o, a1, b1, b2, ⟨b3.1, b3.2⟩⟩
theorem ctw_of {ρ : Type} {l : Launch} {y : MethodName} {cc : ByteArray} {nL : Nat} {ret : Option FieldType} {hh : List (Nat × Nat × Nat × Nat)} {d : Nat} {as : List Value} {G : GG} {sa : Nat → Nat} {V : VA} {rv : ρ → Option Value} {fin : ρ → VA} {sp : Option ρ} {own : String}
    (hG : Gok G) (hy : plainName y.cls = true) (hown : y.cls = own) (hsl : (lg_sl as).length ≤ nL)
    (body : ∀ X : WX, Cx G nL X own cc d → (xM X).sig.returnType = ret → Wrp G sa X hh → xl X = l → JS G nL X (QW G X rv fin) sp V 0 (lv_args 0 as) []) {x : ρ} (hx : sp = some x) : CtW l y cc nL ret hh d as G sa V (rv x) (fin x) := by
  intro sz
  refine met_ofWH (cc := cc) (maxL := nL) (ret := ret) (hh := hh) hy rfl ?_
  intro p e s m args below meth c s₁ B hml htab hv
  obtain ⟨rfl, ⟨hsz, hP, hK⟩, hXK⟩ := hv
  have hts := atoms_spec (ws := Cond.codeWith y cc nL ret hh :: gw) B.pre
  have hown2 : s.vm.findClass own = some m.cls := hown ▸ findClass_of_methodNamed B.named
  have C : Cx G nL (p, l, e, RMX d, s, m, as.toArray, below, meth, c, 0, 0) own cc d := ⟨B.exec, B.bytes, hml, hown2, fun w h => hts w (List.mem_cons_of_mem _ h), hK, hG, B.notSynchronized, Nat.le_refl _, Nat.le_refl _, Nat.zero_le _, Nat.zero_le _⟩
  have hl9 := lv_entry as hsl
  subst hsz
  have K := body _ C B.returns ⟨htab, hXK, rfl, rfl, Nat.le_refl _, Nat.le_refl _⟩ rfl x hx s.heap [] _ hP va_S.rf hl9
  rw [lg_entry_eq]
  exact K
section
variable {ρ : Type} {G : GG} {sa : Nat → Nat} {nL : Nat} {X : WX} {Q : ρ → State → Prop} {sp : Option ρ} {V V1 V2 : VA} {L : List (Nat × Value)} {st : List Value} {own : String} {cc : ByteArray} {d d1 : Nat} {c0 : VC} {w : VW}
variable {y : MethodName} {bytes : ByteArray} {maxL index n : Nat} {ret : Option FieldType} {As : List Value}
/-- what was thrown stands over the frame: the world V, the exception's class exN n -/
def JT (G : GG) (nL : Nat) (X : WX) (Q : ρ → State → Prop) (sp : Option ρ) (V : VA) (pc : Nat) (L : List (Nat × Value)) (st : List Value) (n : Nat) : Prop :=
  ∀ x, sp = some x → ∀ (H : Heap) (locs : List Loc) (ls : Array Slot) (ce : Cell) (q : Addr), va_P G.1 vwCl (wld G V) H → va_S (AA G (xs X).heap.size) (xs X).heap H locs → lv_has ls nL L → H[q]? = some ce → ce.vm = .none → (xs X).vm.findClass (exN n) = some ce.cls →
    vx_W (xp X) (xl X) (xe X) (xR X) (xs X) (xm X) (xa X) (xb X) (xM X) (xc X) H locs (xk X) (xz X) (Q x) (F0 (xm X) pc ls st) q
theorem fb_PcX (as : List Value) (sz : Nat) : FrameBlind (va_Pc as (PcX G sa V sz)) := fun a U g mk q => ⟨q.1, ⟨q.2.1.1, q.2.1.2.1, q.2.1.2.2.call g mk a⟩, q.2.2.call g mk a⟩
theorem pcx_at {H : Heap} {locs : List Loc} (C : Cx G nL X own cc d) (hX : XK G sa (xs X).heap.size (xs X) (xs X).heap) (hP : va_P G.1 vwCl (wld G V) H) (hS : va_S (AA G (xs X).heap.size) (xs X).heap H locs) : ∀ U : State, U.heap = H → (xs X).WarmedH U.vm → (va_Pc As (PcX G sa V H.size)) As.toArray U :=
  fun U hU hW => ⟨rfl, ⟨by rw [hU], by rw [hU]; exact hP, C.2.2.2.2.2.1.warm hW⟩, by rw [hU]; exact hX.warm hW hS⟩
theorem aa_up {H : Heap} {locs : List Loc} {s : State} (hS : va_S (AA G s.heap.size) s.heap H locs) : ∀ q, AA G H.size q → AA G s.heap.size q := fun q h => h.elim Or.inl (fun h => Or.inr (Nat.le_trans hS.1 h))
theorem s_up {H H1 : Heap} {locs L9 : List Loc} {s : State} (hS : va_S (AA G s.heap.size) s.heap H locs) (hz : H.size ≤ H1.size) (hk : ∀ q : Nat, q < H.size → ¬ AA G H.size q → H1[q]? = H[q]?) (hL : ∀ q ∈ L9, AA G H.size q.base) : va_S (AA G s.heap.size) s.heap H1 (locs ++ L9) :=
  ⟨Nat.le_trans hS.1 hz, fun q h1 h2 => (hk q (Nat.lt_of_lt_of_le h1 hS.1) (fun z => h2 (aa_up hS q z))).trans (hS.2.1 q h1 h2), fun q hq => by
    rcases List.mem_append.mp hq with h | h
    · exact hS.2.2 q h
    · exact aa_up hS _ (hL q h)⟩
theorem j_vX (C : Cx G nL X own cc d) (hX : XK G sa (xs X).heap.size (xs X) (xs X).heap) (hc1 : xk X + 1 ≤ (xR X).cells) (hc2 : xz X + 6 ≤ (xR X).slots) (hK : KY y bytes maxL ret n) {res : (Nat × VA) ⊕ (Option Value × VA)} (pc : Nat) (hct : CtX (xl X) y bytes maxL ret d1 (.ref (G.2.2 0) :: As) G sa (c0, w) res) (hcn : RX5 = y.cls) (hlink : Cond.methodLink own index y ∈ gw) (hi : Cond.instanceMethod y ∈ gw) (hs : Cond.selects RX5 y y ∈ gw) (hd : decode cc pc = .ok (.invokevirtual index, 3)) (hdd : d1 + 1 ≤ d) (hn : As.length = n) (hst : (st.map fun v => v.category).sum ≤ 8)
    (kn : ∀ rv V1, res = .inr (rv, V1) → JS G nL (xup X) Q sp V1 (pc + 3) L (rv.toList ++ st)) (kx : ∀ m V1, res = .inl (m, V1) → JT G nL (xup X) Q sp V1 pc L st m) {st0 : List Value} (h0 : st0 = As.reverse ++ .ref (G.2.2 0) :: st) : JS G nL X Q sp (c0, w) pc L st0 := by
  subst h0
  intro x0 h0 H locs ls hP hS hl T hT X9
  have hc3 : (wld G (c0, w))[0]? = some (G.2.2 0, cSp G.2.2 c0.2.2.2.2.2.2) := by rw [wld_at G _ (nG_lt C.2.2.2.2.2.2.1 (by omega))]; rfl
  have cb : CallB (xR X) (xs X) (xa X) own index y bytes maxL ret (gws y bytes maxL ret) (RMX d1) 1 6 n := by
    refine callB_of n C.2.2.2.2.1 (gws_in hK.1) rfl rfl rfl (C.2.2.2.2.1 _ hK.2.1) (C.2.2.2.2.1 _ hlink) hK.2.2.2 ⟨?_, ?_⟩
    · have := C.2.2.2.2.2.2.2.2.1
      show d1 + 1 ≤ _
      omega
    · have h1 := C.2.2.2.2.2.2.2.2.2.1
      have h2 := hK.2.2.1
      show 8 + (maxL + 11) + 35 * d1 ≤ _
      omega
  rcases vx_runV (rest := st) (g := F0 (xm X) pc ls (As.reverse ++ .ref (G.2.2 0) :: st)) ⟨C.1, C.2.1, C.2.2.1, C.2.2.2.1, C.2.2.2.2.1⟩ (hct H.size) ⟨cb, C.2.2.2.2.1 _ hi, C.2.2.2.2.1 _ (hcn ▸ hs)⟩ ⟨fb_PcX _ _, hcn ▸ va_recv C.2.2.2.2.2.1.1 hP (ci := 5) (q0 := 0) rfl hc3, pcx_at C hX hP hS⟩ rfl hn hl.1 rfl (lv_room hst) hd ⟨hc1, hc2⟩ T hT X9 with ⟨v, st₀, t, T', L9, hh, X', hL, e1, e2, ⟨rv, V', hres, ⟨hv, hp⟩, hz, hk⟩, st9⟩ | ⟨q, st₀, t, T', L9, E, ce, hh, X', hL, e1, e2, ⟨m, V', hres, hE, hp, hz, hk⟩, hce, hcv, hcl, st9⟩
  · cases hv
    rw [hh] at hz hk
    obtain ⟨t2, a1, b1⟩ := kn v V' hres x0 h0 t.heap (locs ++ L9) ls hp (s_up hS hz hk hL) hl T' e1 X'
    exact ⟨t2, st9 t2 a1, b1⟩
  · rw [hh] at hz hk
    subst hE
    obtain ⟨t2, a1, b1⟩ := kx m V' hres x0 h0 t.heap (locs ++ L9) ls ce q hp (s_up hS hz hk hL) hl hce hcv hcl T' e1 X'
    exact ⟨t2, st9.trans a1, b1⟩
theorem jt_none {pc n : Nat} : JT G nL X Q (none : Option ρ) V pc L st n := fun _ h => by cases h
theorem j_catch (C : Cx G nL X RL cc d) (hX : XK G sa (xs X).heap.size (xs X) (xs X).heap) (n : Nat) (pc : Nat) (pre : List ExceptionTableEntry) (x : ExceptionTableEntry) (suf : List ExceptionTableEntry) (hsplit : (xc X).exceptionTable.toList = pre ++ x :: suf)
    (hpass : ∀ z ∈ pre, z.catchType ≠ 0 ∧ ∃ a, a < 4 ∧ 0 < a ∧ a ≠ n ∧ z.catchType = exC a) (hcov : covers x pc = true) (h0 : x.catchType = exC n) (hn : 0 < n ∧ n < 4)
    (kk : ∀ q, JS G nL X Q sp V x.handlerPc L [.ref q]) : JT G nL X Q sp V pc L st n := by
  intro x0 hx0 H locs ls ce q hP hS hl hce hcv hcl
  have lk : ∀ a, 0 < a → a < 4 → (Cond.classLink RL (exC a) (exN a)).before (xa X) (xs X) = true := by
    intro a h1 h2
    rcases (show a = 1 ∨ a = 2 ∨ a = 3 by omega) with rfl | rfl | rfl
    · exact C.2.2.2.2.1 _ lk_1
    · exact C.2.2.2.2.1 _ lk_2
    · exact C.2.2.2.2.1 _ lk_3
  have ck : ∀ a, 0 < a → a < 4 → (Cond.castable (exN a) (exN a)).before (xa X) (xs X) = true := by
    intro a h1 h2
    rcases (show a = 1 ∨ a = 2 ∨ a = 3 by omega) with rfl | rfl | rfl
    · exact (C.2.2.2.2.2.1.2 _ ca_1).use rfl
    · exact (C.2.2.2.2.2.1.2 _ ca_2).use rfl
    · exact (C.2.2.2.2.2.1.2 _ ca_3).use rfl
  refine vx_catch C.2.2.2.1 pre x suf hsplit (fun z hz => ?_) hcov ?_ (by rw [h0]; exact lk n hn.1 hn.2) (ck n hn.1 hn.2) hce hcv hcl (kk q x0 hx0 H locs ls hP hS hl)
  · obtain ⟨h1, a, h2, h3, h4, h5⟩ := hpass z hz
    exact Or.inr ⟨h1, exN a, by rw [h5]; exact lk a h3 h2, hX.2.2.2 n a hn.2 h2 hn.1 h3 (fun e => h4 e.symm)⟩
  · rw [h0]
    rcases (show n = 1 ∨ n = 2 ∨ n = 3 by omega) with rfl | rfl | rfl <;> decide
theorem jw_iret (C : Cx G nL X own cc d) {X0 : WX} {rv : ρ → Option Value} {fin : ρ → VA} {x : ρ} (h1 : X = xup X0) (hk : xk X0 = 0) (hz : xz X0 = 0) {v : Int32} (pc : Nat) (hr : (xM X).sig.returnType = some .int) (hrv : rv x = some (.int v)) (hf : fin x = V) (hd : decode cc pc = .ok (.ireturn, 1)) : JS G nL X (QW G X0 rv fin) (some x) V pc L [.int v] := by
  subst h1
  intro x0 h0 H locs ls hP hS hl
  cases h0
  refine W.widen (k := 1) (n := 6) (by show xk X0 + 1 ≤ 1; omega) (by show xz X0 + 6 ≤ 6; omega) ?_
  exact W.iret C.1 C.2.1 hr (q_end (X := X0) hrv hf hP hS) hS.2.2 hd C.2.2.2.2.2.2.2.1
def KYW (y : MethodName) (bytes : ByteArray) (maxL : Nat) (ret : Option FieldType) (hh : List (Nat × Nat × Nat × Nat)) (n : Nat) : Prop :=
  Cond.codeWith y bytes maxL ret hh ∈ gw ∧ Cond.initialized y.cls ∈ gw ∧ maxL ≤ 16 ∧ (y.cls ≠ "java/lang/invoke/MethodHandle" ∧ y.cls ≠ "java/lang/invoke/VarHandle" ∧ (parseMethodDescriptor y.desc).map (fun d => d.parameters.length) = some n)
theorem j_callW (C : Cx G nL X own cc d) (hX : XK G sa (xs X).heap.size (xs X) (xs X).heap) (hc1 : xk X + 1 ≤ (xR X).cells) (hc2 : xz X + 6 ≤ (xR X).slots) {hh : List (Nat × Nat × Nat × Nat)} (hK : KYW y bytes maxL ret hh n) {rv : Option Value} (pc : Nat) (hct : CtW (xl X) y bytes maxL ret hh d1 As G sa V rv V1) (hlink : Cond.methodLink own index y ∈ gw) (hi : Cond.static y ∈ gw) (hd : decode cc pc = .ok (.invokestatic index, 3)) (hdd : d1 + 1 ≤ d) (hn : As.length = n) (hst : (st.map fun v => v.category).sum ≤ 8)
    (k : JS G nL (xup X) Q sp V1 (pc + 3) L (rv.toList ++ st)) {st0 : List Value} (h0 : st0 = As.reverse ++ st) : JS G nL X Q sp V pc L st0 := by
  subst h0
  intro x0 h0 H locs ls hP hS hl T hT X9
  have cw : vx_CSW (xR X) (xs X) (xa X) own index y bytes maxL ret hh (Cond.codeWith y bytes maxL ret hh :: gw) (RMX d1) 1 6 n := by
    refine vx_cwSW n C.2.2.2.2.1 (gw_in (fun w hw => ?_)) rfl rfl rfl hK.2.2.2 ⟨?_, ?_⟩
    · rcases List.mem_append.mp hw with h | h
      · rcases List.mem_cons.mp h with rfl | h
        · exact hlink
        · rcases List.mem_cons.mp h with rfl | h
          · exact hi
          · rcases List.mem_cons.mp h with rfl | h
            · exact hK.2.1
            · cases h
      · rcases List.mem_cons.mp h with rfl | h
        · exact hK.1
        · exact h
    · have := C.2.2.2.2.2.2.2.2.1
      show d1 + 1 ≤ _
      omega
    · have h1 := C.2.2.2.2.2.2.2.2.2.1
      have h2 := hK.2.2.1
      show 8 + (maxL + 11) + 35 * d1 ≤ _
      omega
  obtain ⟨v, st₀, t, T', L9, hh9, X', hL, e1, e2, ⟨⟨hv, hp⟩, hz, hk⟩, st9⟩ := vx_runSW (rest := st) (g := F0 (xm X) pc ls (As.reverse ++ st)) ⟨C.1, C.2.1, C.2.2.1, C.2.2.2.1, C.2.2.2.2.1⟩ (hct H.size) cw ⟨fb_PcX _ _, pcx_at C hX hP hS⟩ rfl hn hl.1 rfl (lv_room hst) hd ⟨hc1, hc2⟩ T hT X9
  cases hv
  rw [hh9] at hz hk
  obtain ⟨t2, a1, b1⟩ := k x0 h0 t.heap (locs ++ L9) ls hp (s_up hS hz hk hL) hl T' e1 X'
  exact ⟨t2, st9 t2 a1, b1⟩
theorem j_callB (C : Cx G nL X own cc d) (hX : XK G sa (xs X).heap.size (xs X) (xs X).heap) {kb zb : Nat} (hc1 : xk X + kb ≤ (xR X).cells) (hc2 : xz X + zb ≤ (xR X).slots) (hK : KY y bytes maxL ret n) {rv : Option Value} (pc : Nat) (hct : CtB (xl X) y bytes maxL ret d1 As G sa V rv V1 kb zb) (hlink : Cond.methodLink own index y ∈ gw) (hi : Cond.static y ∈ gw) (hd : decode cc pc = .ok (.invokestatic index, 3)) (hdd : d1 + 1 ≤ d) (hn : As.length = n) (hst : (st.map fun v => v.category).sum ≤ 8)
    (k : JS G nL (xadd X kb zb) Q sp V1 (pc + 3) L (rv.toList ++ st)) {st0 : List Value} (h0 : st0 = As.reverse ++ st) : JS G nL X Q sp V pc L st0 := by
  subst h0
  intro x0 h0 H locs ls hP hS hl T hT X9
  have cb : CallB (xR X) (xs X) (xa X) own index y bytes maxL ret (gws y bytes maxL ret) (RMB d1 kb zb) kb zb n := by
    refine callB_of n C.2.2.2.2.1 (gws_in hK.1) rfl rfl rfl (C.2.2.2.2.1 _ hK.2.1) (C.2.2.2.2.1 _ hlink) hK.2.2.2 ⟨?_, ?_⟩
    · have := C.2.2.2.2.2.2.2.2.1
      show d1 + 1 ≤ _
      omega
    · have h1 := C.2.2.2.2.2.2.2.2.2.1
      have h2 := hK.2.2.1
      show 8 + (maxL + 11) + 35 * d1 ≤ _
      omega
  obtain ⟨v, st₀, t, T', L9, hh9, X', hL, e1, e2, ⟨⟨hv, hp⟩, hz, hk⟩, st9⟩ := va_runS (rest := st) (g := F0 (xm X) pc ls (As.reverse ++ st)) ⟨C.1, C.2.1, C.2.2.1, C.2.2.2.1, C.2.2.2.2.1⟩ (hct H.size) ⟨cb, C.2.2.2.2.1 _ hi⟩ ⟨fb_PcX _ _, pcx_at C hX hP hS⟩ rfl hn hl.1 rfl (lv_room hst) hd ⟨hc1, hc2⟩ T hT X9
  cases hv
  rw [hh9] at hz hk
  obtain ⟨t2, a1, b1⟩ := k x0 h0 t.heap (locs ++ L9) ls hp (s_up hS hz hk hL) hl T' e1 X'
  exact ⟨t2, st9 t2 a1, b1⟩
end
/-- the script: it stands below the heap, no cell of the world is it -/
def ScU (G : GG) (sz b Ln : Nat) (sc : Nat → Int32) (U : State) : Prop := va_X b Ln sc U U.heap ∧ b < sz ∧ ¬ AA G sz b
def Scr (G : GG) (X : WX) (b Ln : Nat) (sc : Nat → Int32) : Prop := va_X b Ln sc (xs X) (xs X).heap ∧ b < (xs X).heap.size ∧ ¬ AA G (xs X).heap.size b
def CtC (l : Launch) (y : MethodName) (cc : ByteArray) (nL : Nat) (ret : Option FieldType) (d : Nat) (as : List Value) (G : GG) (b Ln : Nat) (sc : Nat → Int32) (V : VA) (rv : Option Value) : Prop :=
  ∀ sz, Met l y (gws y cc nL ret) (RM d) (va_Pc as (fun U => PcW G V sz U ∧ ScU G sz b Ln sc U)) (QR G sz rv V) 0 0 (AA G sz)
section
variable {ρ : Type} {G : GG} {nL : Nat} {X : WX} {Q : ρ → State → Prop} {sp : Option ρ} {V V1 V2 : VA} {L : List (Nat × Value)} {st : List Value} {own : String} {cc : ByteArray} {d d1 : Nat} {b Ln : Nat} {sc : Nat → Int32}
variable {y : MethodName} {bytes : ByteArray} {maxL index n : Nat} {ret : Option FieldType} {As : List Value}
theorem j_sld (C : Cx G nL X own cc d) (hS0 : Scr G X b Ln sc) {i x : Int32} (pc : Nat) (hr : ard Ln sc i = some x) (hd : decode cc pc = .ok (.iaload, 1)) (k : JS G nL X Q sp V (pc + 1) L (.int x :: st)) : JS G nL X Q sp V pc L (.int i :: .ref b :: st) := by
  intro x0 h0 H locs ls hP hS hl
  obtain ⟨hin, rfl⟩ := ard_in hr
  exact va_sld C.1 C.2.1 hS0.1 hS0.2.1 hS0.2.2 hS hin hd (k x0 h0 H locs ls hP hS hl)
theorem j_slen (C : Cx G nL X own cc d) (hS0 : Scr G X b Ln sc) (pc : Nat) (hd : decode cc pc = .ok (.arraylength, 1)) (k : JS G nL X Q sp V (pc + 1) L (.int (Int32.ofNat Ln) :: st)) : JS G nL X Q sp V pc L (.ref b :: st) := by
  intro x0 h0 H locs ls hP hS hl
  exact va_slen C.1 C.2.1 hS0.1 hS0.2.1 hS0.2.2 hS hd (k x0 h0 H locs ls hP hS hl)
theorem ctc_of {ρ : Type} {l : Launch} {rv : ρ → Option Value} {sp : Option ρ} {as : List Value} (hG : Gok G) (hy : plainFor y = true) (hown : y.cls = own) (hsl : (lg_sl as).length ≤ nL)
    (body : ∀ X : WX, Cx G nL X own cc d → (xM X).sig.returnType = ret → Scr G X b Ln sc → JS G nL X (QM G X rv (fun _ => V)) sp V 0 (lv_args 0 as) []) {x : ρ} (hx : sp = some x) : CtC l y cc nL ret d as G b Ln sc V (rv x) := by
  intro sz
  refine va_MetF (cc := cc) (maxL := nL) (ret := ret) hy rfl ?_
  intro p e s m args below meth c s₁ B hml hv
  obtain ⟨rfl, ⟨hsz, hP, hK⟩, hSU⟩ := hv
  have hts := atoms_spec (ws := gws y cc nL ret) B.pre
  have hown2 : s.vm.findClass own = some m.cls := hown ▸ findClass_of_methodNamed B.named
  have C : Cx G nL (p, l, e, RM d, s, m, as.toArray, below, meth, c, 0, 0) own cc d := ⟨B.exec, B.bytes, hml, hown2, fun w h => hts w (List.mem_cons_of_mem _ h), hK, hG, B.notSynchronized, Nat.le_refl _, Nat.le_refl _, Nat.le_refl _, Nat.le_refl _⟩
  have hl := lv_entry as hsl
  subst hsz
  have K := body _ C B.returns hSU x hx s.heap [] _ hP va_S.rf hl
  rw [lg_entry_eq]
  exact K
theorem j_callC (C : Cx G nL X own cc d) (hS0 : Scr G X b Ln sc) (hK : KY y bytes maxL ret n) {rv : Option Value} (pc : Nat) (hct : CtC (xl X) y bytes maxL ret d1 As G b Ln sc V rv) (hlink : Cond.methodLink own index y ∈ gw) (hi : Cond.static y ∈ gw) (hd : decode cc pc = .ok (.invokestatic index, 3)) (hdd : d1 + 1 ≤ d) (hn : As.length = n) (hst : (st.map fun v => v.category).sum ≤ 8)
    (k : JS G nL X Q sp V (pc + 3) L (rv.toList ++ st)) {st0 : List Value} (h0 : st0 = As.reverse ++ st) : JS G nL X Q sp V pc L st0 := by
  subst h0
  intro x0 h0 H locs ls hP hS hl
  have hfb : FrameBlind (va_Pc As (fun U => PcW G V H.size U ∧ ScU G H.size b Ln sc U)) := fun a U g mk q => ⟨q.1, ⟨q.2.1.1, q.2.1.2.1, q.2.1.2.2.call g mk a⟩, va_X.moved (u := U) (U := U.calling g mk a) (Vm.Alike.refl U.vm) q.2.2.1, q.2.2.2⟩
  have hpc : ∀ U : State, U.heap = H → (xs X).WarmedH U.vm → (va_Pc As (fun U => PcW G V H.size U ∧ ScU G H.size b Ln sc U)) As.toArray U := by
    intro U hU hW
    refine ⟨rfl, ⟨by rw [hU], by rw [hU]; exact hP, C.2.2.2.2.2.1.warm hW⟩, ?_, Nat.lt_of_lt_of_le hS0.2.1 hS.1, fun h => hS0.2.2 (aa_up hS _ h)⟩
    rw [hU]
    exact va_X.moved hW.alike (hS0.1.kept (hS.2.1 b hS0.2.1 hS0.2.2))
  exact j_go (va_runS ⟨C.1, C.2.1, C.2.2.1, C.2.2.2.1, C.2.2.2.2.1⟩ (hct H.size) ⟨kb_of C hK hlink hdd, C.2.2.2.2.1 _ hi⟩ ⟨hfb, hpc⟩ rfl hn hl.1 rfl (lv_room hst) hd ⟨C.2.2.2.2.2.2.2.2.2.2.1, C.2.2.2.2.2.2.2.2.2.2.2⟩) hS rfl h0 hl k
end
def f_L_plug (c : VC) (a1 : Int32) (a2 : Int32) (a3 : Int32) (a4 : Int32) : Option (Int32 × VC) :=
  (f_X5_plug c a1 a2 a3 a4).bind fun r => Sum.elim (fun n : Nat × VC => if n.1 = 1 then some ((-31), n.2) else if n.1 = 2 then some ((-32), n.2) else if n.1 = 3 then some ((-33), n.2) else none) (fun q : Int32 × VC => some (q.1, q.2)) r
set_option maxRecDepth 100000 in
set_option maxHeartbeats 4000000 in
theorem c_L_plug {G : GG} {l : Launch} {sa : Nat → Nat} (hG : Gok G) (hl : l.stackTraces = false) {w : VW} (c : VC) (a1 : Int32) (a2 : Int32) (a3 : Int32) (a4 : Int32) {x : Int32 × VC} (hf : f_L_plug c a1 a2 a3 a4 = some x) : CtW l yL_plug cL_plug 7 (some .int) [(0, 11, 14, 15), (0, 11, 19, 17), (0, 11, 24, 19)] 9 [.ref (G.2.2 0), .int a1, .int a2, .int a3, .int a4] G sa (c, w) (some (.int x.1)) (x.2, w) := by
  refine ctw_of (y := yL_plug) (as := [.ref (G.2.2 0), .int a1, .int a2, .int a3, .int a4]) (nL := 7) (x := x) (rv := fun x : Int32 × VC => (some (.int x.1))) (fin := fun x : Int32 × VC => ((x.2, w) : VA)) (own := RL) hG (by decide) rfl (Nat.le_of_ble_eq_true rfl) (fun X C hr Wp hlx => ?_) hf
  subst hlx
  unfold f_L_plug
  refine j_aload_n C 0 0 rfl dL_plug_0 ?_
  refine j_iload_n C 1 1 rfl dL_plug_1 ?_
  refine j_iload_n C 2 2 rfl dL_plug_2 ?_
  refine j_iload_n C 3 3 rfl dL_plug_3 ?_
  refine j_iload C 4 4 rfl dL_plug_4 ?_
  refine j_bind (fun r hr9 => ?_)
  refine j_vX (As := [.int a1, .int a2, .int a3, .int a4]) (st := []) C Wp.2.1 (by rw [Wp.2.2.1]; exact Wp.2.2.2.2.1) (by rw [Wp.2.2.2.1]; exact Wp.2.2.2.2.2) k_X5_plug 6 (c_X5_plug C.2.2.2.2.2.2.1 hl c _ _ _ _ hr9) rfl ml_L_9 ii_X5_plug is_X5_plug dL_plug_6 (by decide) rfl (Nat.le_of_ble_eq_true rfl) (fun rv V1 e => ?_) (fun m V1 e => ?_) rfl
  · rcases r with n | q
    · cases e
    · cases e
      have C1 := C.add (k := 1) (z := 6) (by rw [Wp.2.2.1]; exact Wp.2.2.2.2.1) (by rw [Wp.2.2.2.1]; exact Wp.2.2.2.2.2)
      refine j_istore (L1 := [(5, .int q.1), (0, .ref (G.2.2 0)), (1, .int a1), (2, .int a2), (3, .int a3), (4, .int a4)]) C1 9 dL_plug_9 (by decide) rfl ?_
      refine j_goto C1 11 29 dL_plug_11 (by decide) ?_
      refine j_iload C1 29 0 rfl dL_plug_29 ?_
      exact jw_iret C1 rfl Wp.2.2.1 Wp.2.2.2.1 31 hr rfl rfl dL_plug_31
  · rcases r with n | q
    · cases e
      have C1 := C.add (k := 1) (z := 6) (by rw [Wp.2.2.1]; exact Wp.2.2.2.2.1) (by rw [Wp.2.2.2.1]; exact Wp.2.2.2.2.2)
      show JT G 7 (xup X) _ (if n.1 = 1 then some ((-31), n.2) else if n.1 = 2 then some ((-32), n.2) else if n.1 = 3 then some ((-33), n.2) else none) _ 6 _ _ _
      by_cases h1 : n.1 = 1
      · rw [if_pos h1]
        rw [h1]
        refine j_catch C1 Wp.2.1 1 6 [] ⟨0, 11, 14, 15⟩ [⟨0, 11, 19, 17⟩, ⟨0, 11, 24, 19⟩] Wp.1 (fun z hz => nomatch hz) (by decide) rfl (by decide) (fun q9 => ?_)
        refine j_astore (L1 := [(6, .ref q9), (0, .ref (G.2.2 0)), (1, .int a1), (2, .int a2), (3, .int a3), (4, .int a4)]) C1 14 dL_plug_14 (by decide) rfl ?_
        refine j_bipush (v := (-31)) C1 16 dL_plug_16 rfl ?_
        exact jw_iret C1 rfl Wp.2.2.1 Wp.2.2.2.1 18 hr rfl rfl dL_plug_18
      · rw [if_neg h1]
        by_cases h2 : n.1 = 2
        · rw [if_pos h2]
          rw [h2]
          refine j_catch C1 Wp.2.1 2 6 [⟨0, 11, 14, 15⟩] ⟨0, 11, 19, 17⟩ [⟨0, 11, 24, 19⟩] Wp.1 (fun z hz => by simp only [List.mem_cons, List.not_mem_nil, or_false] at hz; rcases hz with rfl; exact ⟨by decide, 1, by decide, by decide, by decide, rfl⟩) (by decide) rfl (by decide) (fun q9 => ?_)
          refine j_astore (L1 := [(6, .ref q9), (0, .ref (G.2.2 0)), (1, .int a1), (2, .int a2), (3, .int a3), (4, .int a4)]) C1 19 dL_plug_19 (by decide) rfl ?_
          refine j_bipush (v := (-32)) C1 21 dL_plug_21 rfl ?_
          exact jw_iret C1 rfl Wp.2.2.1 Wp.2.2.2.1 23 hr rfl rfl dL_plug_23
        · rw [if_neg h2]
          by_cases h3 : n.1 = 3
          · rw [if_pos h3]
            rw [h3]
            refine j_catch C1 Wp.2.1 3 6 [⟨0, 11, 14, 15⟩, ⟨0, 11, 19, 17⟩] ⟨0, 11, 24, 19⟩ [] Wp.1 (fun z hz => by simp only [List.mem_cons, List.not_mem_nil, or_false] at hz; rcases hz with rfl | rfl <;> first | exact ⟨by decide, 1, by decide, by decide, by decide, rfl⟩ | exact ⟨by decide, 2, by decide, by decide, by decide, rfl⟩) (by decide) rfl (by decide) (fun q9 => ?_)
            refine j_astore (L1 := [(6, .ref q9), (0, .ref (G.2.2 0)), (1, .int a1), (2, .int a2), (3, .int a3), (4, .int a4)]) C1 24 dL_plug_24 (by decide) rfl ?_
            refine j_bipush (v := (-33)) C1 26 dL_plug_26 rfl ?_
            exact jw_iret C1 rfl Wp.2.2.1 Wp.2.2.2.1 28 hr rfl rfl dL_plug_28
          · rw [if_neg h3]
            exact jt_none
    · cases e
theorem kcw_L_plug : Cond.codeWith yL_plug cL_plug 7 (some .int) [(0, 11, 14, 15), (0, 11, 19, 17), (0, 11, 24, 19)] ∈ gw := gwm (i := 409) (by decide +kernel) (by decide +kernel)
theorem kw_L_plug : KYW yL_plug cL_plug 7 (some .int) [(0, 11, 14, 15), (0, 11, 19, 17), (0, 11, 24, 19)] 5 := ⟨kcw_L_plug, ki_StickPairsLaw, by decide, by decide +kernel⟩
def f_L_pull (c : VC) (a1 : Int32) : Option (Int32 × VC) :=
  (f_X5_pull c a1).bind fun r => Sum.elim (fun n : Nat × VC => if n.1 = 1 then some ((-31), n.2) else if n.1 = 3 then some ((-33), n.2) else none) (fun q : Int32 × VC => some (q.1, q.2)) r
set_option maxRecDepth 100000 in
set_option maxHeartbeats 4000000 in
theorem c_L_pull {G : GG} {l : Launch} {sa : Nat → Nat} (hG : Gok G) (hl : l.stackTraces = false) {w : VW} (c : VC) (a1 : Int32) {x : Int32 × VC} (hf : f_L_pull c a1 = some x) : CtW l yL_pull cL_pull 4 (some .int) [(0, 6, 9, 15), (0, 6, 13, 19)] 9 [.ref (G.2.2 0), .int a1] G sa (c, w) (some (.int x.1)) (x.2, w) := by
  refine ctw_of (y := yL_pull) (as := [.ref (G.2.2 0), .int a1]) (nL := 4) (x := x) (rv := fun x : Int32 × VC => (some (.int x.1))) (fin := fun x : Int32 × VC => ((x.2, w) : VA)) (own := RL) hG (by decide) rfl (Nat.le_of_ble_eq_true rfl) (fun X C hr Wp hlx => ?_) hf
  subst hlx
  unfold f_L_pull
  refine j_aload_n C 0 0 rfl dL_pull_0 ?_
  refine j_iload_n C 1 1 rfl dL_pull_1 ?_
  refine j_bind (fun r hr9 => ?_)
  refine j_vX (As := [.int a1]) (st := []) C Wp.2.1 (by rw [Wp.2.2.1]; exact Wp.2.2.2.2.1) (by rw [Wp.2.2.2.1]; exact Wp.2.2.2.2.2) k_X5_pull 2 (c_X5_pull C.2.2.2.2.2.2.1 hl c _ hr9) rfl ml_L_21 ii_X5_pull is_X5_pull dL_pull_2 (by decide) rfl (Nat.le_of_ble_eq_true rfl) (fun rv V1 e => ?_) (fun m V1 e => ?_) rfl
  · rcases r with n | q
    · cases e
    · cases e
      have C1 := C.add (k := 1) (z := 6) (by rw [Wp.2.2.1]; exact Wp.2.2.2.2.1) (by rw [Wp.2.2.2.1]; exact Wp.2.2.2.2.2)
      refine j_istore_n (L1 := [(2, .int q.1), (0, .ref (G.2.2 0)), (1, .int a1)]) C1 5 rfl dL_pull_5 (by decide) rfl ?_
      refine j_goto C1 6 17 dL_pull_6 (by decide) ?_
      refine j_iload_n C1 17 0 rfl dL_pull_17 ?_
      exact jw_iret C1 rfl Wp.2.2.1 Wp.2.2.2.1 18 hr rfl rfl dL_pull_18
  · rcases r with n | q
    · cases e
      have C1 := C.add (k := 1) (z := 6) (by rw [Wp.2.2.1]; exact Wp.2.2.2.2.1) (by rw [Wp.2.2.2.1]; exact Wp.2.2.2.2.2)
      show JT G 4 (xup X) _ (if n.1 = 1 then some ((-31), n.2) else if n.1 = 3 then some ((-33), n.2) else none) _ 2 _ _ _
      by_cases h1 : n.1 = 1
      · rw [if_pos h1]
        rw [h1]
        refine j_catch C1 Wp.2.1 1 2 [] ⟨0, 6, 9, 15⟩ [⟨0, 6, 13, 19⟩] Wp.1 (fun z hz => nomatch hz) (by decide) rfl (by decide) (fun q9 => ?_)
        refine j_astore_n (L1 := [(3, .ref q9), (0, .ref (G.2.2 0)), (1, .int a1)]) C1 9 rfl dL_pull_9 (by decide) rfl ?_
        refine j_bipush (v := (-31)) C1 10 dL_pull_10 rfl ?_
        exact jw_iret C1 rfl Wp.2.2.1 Wp.2.2.2.1 12 hr rfl rfl dL_pull_12
      · rw [if_neg h1]
        by_cases h3 : n.1 = 3
        · rw [if_pos h3]
          rw [h3]
          refine j_catch C1 Wp.2.1 3 2 [⟨0, 6, 9, 15⟩] ⟨0, 6, 13, 19⟩ [] Wp.1 (fun z hz => by simp only [List.mem_cons, List.not_mem_nil, or_false] at hz; rcases hz with rfl; exact ⟨by decide, 1, by decide, by decide, by decide, rfl⟩) (by decide) rfl (by decide) (fun q9 => ?_)
          refine j_astore_n (L1 := [(3, .ref q9), (0, .ref (G.2.2 0)), (1, .int a1)]) C1 13 rfl dL_pull_13 (by decide) rfl ?_
          refine j_bipush (v := (-33)) C1 14 dL_pull_14 rfl ?_
          exact jw_iret C1 rfl Wp.2.2.1 Wp.2.2.2.1 16 hr rfl rfl dL_pull_16
        · rw [if_neg h3]
          exact jt_none
    · cases e
theorem kcw_L_pull : Cond.codeWith yL_pull cL_pull 4 (some .int) [(0, 6, 9, 15), (0, 6, 13, 19)] ∈ gw := gwm (i := 444) (by decide +kernel) (by decide +kernel)
theorem kw_L_pull : KYW yL_pull cL_pull 4 (some .int) [(0, 6, 9, 15), (0, 6, 13, 19)] 2 := ⟨kcw_L_pull, ki_StickPairsLaw, by decide, by decide +kernel⟩
def f_L_fail (c : VC) (a1 : Int32) : Option (Int32 × VC) :=
  (f_X5_fail c a1).bind fun r => Sum.elim (fun n : Nat × VC => if n.1 = 1 then some ((-31), n.2) else if n.1 = 3 then some ((-33), n.2) else none) (fun q : Int32 × VC => some (q.1, q.2)) r
set_option maxRecDepth 100000 in
set_option maxHeartbeats 4000000 in
theorem c_L_fail {G : GG} {l : Launch} {sa : Nat → Nat} (hG : Gok G) (hl : l.stackTraces = false) {w : VW} (c : VC) (a1 : Int32) {x : Int32 × VC} (hf : f_L_fail c a1 = some x) : CtW l yL_fail cL_fail 4 (some .int) [(0, 6, 9, 15), (0, 6, 13, 19)] 9 [.ref (G.2.2 0), .int a1] G sa (c, w) (some (.int x.1)) (x.2, w) := by
  refine ctw_of (y := yL_fail) (as := [.ref (G.2.2 0), .int a1]) (nL := 4) (x := x) (rv := fun x : Int32 × VC => (some (.int x.1))) (fin := fun x : Int32 × VC => ((x.2, w) : VA)) (own := RL) hG (by decide) rfl (Nat.le_of_ble_eq_true rfl) (fun X C hr Wp hlx => ?_) hf
  subst hlx
  unfold f_L_fail
  refine j_aload_n C 0 0 rfl dL_fail_0 ?_
  refine j_iload_n C 1 1 rfl dL_fail_1 ?_
  refine j_bind (fun r hr9 => ?_)
  refine j_vX (As := [.int a1]) (st := []) C Wp.2.1 (by rw [Wp.2.2.1]; exact Wp.2.2.2.2.1) (by rw [Wp.2.2.2.1]; exact Wp.2.2.2.2.2) k_X5_fail 2 (c_X5_fail C.2.2.2.2.2.2.1 hl c _ hr9) rfl ml_L_25 ii_X5_fail is_X5_fail dL_fail_2 (by decide) rfl (Nat.le_of_ble_eq_true rfl) (fun rv V1 e => ?_) (fun m V1 e => ?_) rfl
  · rcases r with n | q
    · cases e
    · cases e
      have C1 := C.add (k := 1) (z := 6) (by rw [Wp.2.2.1]; exact Wp.2.2.2.2.1) (by rw [Wp.2.2.2.1]; exact Wp.2.2.2.2.2)
      refine j_istore_n (L1 := [(2, .int q.1), (0, .ref (G.2.2 0)), (1, .int a1)]) C1 5 rfl dL_fail_5 (by decide) rfl ?_
      refine j_goto C1 6 17 dL_fail_6 (by decide) ?_
      refine j_iload_n C1 17 0 rfl dL_fail_17 ?_
      exact jw_iret C1 rfl Wp.2.2.1 Wp.2.2.2.1 18 hr rfl rfl dL_fail_18
  · rcases r with n | q
    · cases e
      have C1 := C.add (k := 1) (z := 6) (by rw [Wp.2.2.1]; exact Wp.2.2.2.2.1) (by rw [Wp.2.2.2.1]; exact Wp.2.2.2.2.2)
      show JT G 4 (xup X) _ (if n.1 = 1 then some ((-31), n.2) else if n.1 = 3 then some ((-33), n.2) else none) _ 2 _ _ _
      by_cases h1 : n.1 = 1
      · rw [if_pos h1]
        rw [h1]
        refine j_catch C1 Wp.2.1 1 2 [] ⟨0, 6, 9, 15⟩ [⟨0, 6, 13, 19⟩] Wp.1 (fun z hz => nomatch hz) (by decide) rfl (by decide) (fun q9 => ?_)
        refine j_astore_n (L1 := [(3, .ref q9), (0, .ref (G.2.2 0)), (1, .int a1)]) C1 9 rfl dL_fail_9 (by decide) rfl ?_
        refine j_bipush (v := (-31)) C1 10 dL_fail_10 rfl ?_
        exact jw_iret C1 rfl Wp.2.2.1 Wp.2.2.2.1 12 hr rfl rfl dL_fail_12
      · rw [if_neg h1]
        by_cases h3 : n.1 = 3
        · rw [if_pos h3]
          rw [h3]
          refine j_catch C1 Wp.2.1 3 2 [⟨0, 6, 9, 15⟩] ⟨0, 6, 13, 19⟩ [] Wp.1 (fun z hz => by simp only [List.mem_cons, List.not_mem_nil, or_false] at hz; rcases hz with rfl; exact ⟨by decide, 1, by decide, by decide, by decide, rfl⟩) (by decide) rfl (by decide) (fun q9 => ?_)
          refine j_astore_n (L1 := [(3, .ref q9), (0, .ref (G.2.2 0)), (1, .int a1)]) C1 13 rfl dL_fail_13 (by decide) rfl ?_
          refine j_bipush (v := (-33)) C1 14 dL_fail_14 rfl ?_
          exact jw_iret C1 rfl Wp.2.2.1 Wp.2.2.2.1 16 hr rfl rfl dL_fail_16
        · rw [if_neg h3]
          exact jt_none
    · cases e
theorem kcw_L_fail : Cond.codeWith yL_fail cL_fail 4 (some .int) [(0, 6, 9, 15), (0, 6, 13, 19)] ∈ gw := gwm (i := 481) (by decide +kernel) (by decide +kernel)
theorem kw_L_fail : KYW yL_fail cL_fail 4 (some .int) [(0, 6, 9, 15), (0, 6, 13, 19)] 2 := ⟨kcw_L_fail, ki_StickPairsLaw, by decide, by decide +kernel⟩
def f_L_start (c : VC) : Option (Int32 × VC) :=
  (f_X5_start c).bind fun r => Sum.elim (fun n : Nat × VC => if n.1 = 3 then some ((-33), n.2) else none) (fun q : Int32 × VC => some (q.1, q.2)) r
set_option maxRecDepth 100000 in
set_option maxHeartbeats 4000000 in
theorem c_L_start {G : GG} {l : Launch} {sa : Nat → Nat} (hG : Gok G) (hl : l.stackTraces = false) {w : VW} (c : VC) {x : Int32 × VC} (hf : f_L_start c = some x) : CtW l yL_start cL_start 3 (some .int) [(0, 5, 8, 19)] 9 [.ref (G.2.2 0)] G sa (c, w) (some (.int x.1)) (x.2, w) := by
  refine ctw_of (y := yL_start) (as := [.ref (G.2.2 0)]) (nL := 3) (x := x) (rv := fun x : Int32 × VC => (some (.int x.1))) (fin := fun x : Int32 × VC => ((x.2, w) : VA)) (own := RL) hG (by decide) rfl (Nat.le_of_ble_eq_true rfl) (fun X C hr Wp hlx => ?_) hf
  subst hlx
  unfold f_L_start
  refine j_aload_n C 0 0 rfl dL_start_0 ?_
  refine j_bind (fun r hr9 => ?_)
  refine j_vX (As := []) (st := []) C Wp.2.1 (by rw [Wp.2.2.1]; exact Wp.2.2.2.2.1) (by rw [Wp.2.2.2.1]; exact Wp.2.2.2.2.2) k_X5_start 1 (c_X5_start C.2.2.2.2.2.2.1 hl c hr9) rfl ml_L_28 ii_X5_start is_X5_start dL_start_1 (by decide) rfl (Nat.le_of_ble_eq_true rfl) (fun rv V1 e => ?_) (fun m V1 e => ?_) rfl
  · rcases r with n | q
    · cases e
    · cases e
      have C1 := C.add (k := 1) (z := 6) (by rw [Wp.2.2.1]; exact Wp.2.2.2.2.1) (by rw [Wp.2.2.2.1]; exact Wp.2.2.2.2.2)
      refine j_istore_n (L1 := [(1, .int q.1), (0, .ref (G.2.2 0))]) C1 4 rfl dL_start_4 (by decide) rfl ?_
      refine j_goto C1 5 12 dL_start_5 (by decide) ?_
      refine j_iload_n C1 12 0 rfl dL_start_12 ?_
      exact jw_iret C1 rfl Wp.2.2.1 Wp.2.2.2.1 13 hr rfl rfl dL_start_13
  · rcases r with n | q
    · cases e
      have C1 := C.add (k := 1) (z := 6) (by rw [Wp.2.2.1]; exact Wp.2.2.2.2.1) (by rw [Wp.2.2.2.1]; exact Wp.2.2.2.2.2)
      show JT G 3 (xup X) _ (if n.1 = 3 then some ((-33), n.2) else none) _ 1 _ _ _
      by_cases h3 : n.1 = 3
      · rw [if_pos h3]
        rw [h3]
        refine j_catch C1 Wp.2.1 3 1 [] ⟨0, 5, 8, 19⟩ [] Wp.1 (fun z hz => nomatch hz) (by decide) rfl (by decide) (fun q9 => ?_)
        refine j_astore_n (L1 := [(2, .ref q9), (0, .ref (G.2.2 0))]) C1 8 rfl dL_start_8 (by decide) rfl ?_
        refine j_bipush (v := (-33)) C1 9 dL_start_9 rfl ?_
        exact jw_iret C1 rfl Wp.2.2.1 Wp.2.2.2.1 11 hr rfl rfl dL_start_11
      · rw [if_neg h3]
        exact jt_none
    · cases e
theorem kcw_L_start : Cond.codeWith yL_start cL_start 3 (some .int) [(0, 5, 8, 19)] ∈ gw := gwm (i := 506) (by decide +kernel) (by decide +kernel)
theorem kw_L_start : KYW yL_start cL_start 3 (some .int) [(0, 5, 8, 19)] 1 := ⟨kcw_L_start, ki_StickPairsLaw, by decide, by decide +kernel⟩
def f_L_stop (c : VC) : Option (Int32 × VC) :=
  (f_X5_stop c).bind fun r => Sum.elim (fun n : Nat × VC => if n.1 = 3 then some ((-33), n.2) else none) (fun q : Int32 × VC => some (q.1, q.2)) r
set_option maxRecDepth 100000 in
set_option maxHeartbeats 4000000 in
theorem c_L_stop {G : GG} {l : Launch} {sa : Nat → Nat} (hG : Gok G) (hl : l.stackTraces = false) {w : VW} (c : VC) {x : Int32 × VC} (hf : f_L_stop c = some x) : CtW l yL_stop cL_stop 3 (some .int) [(0, 5, 8, 19)] 9 [.ref (G.2.2 0)] G sa (c, w) (some (.int x.1)) (x.2, w) := by
  refine ctw_of (y := yL_stop) (as := [.ref (G.2.2 0)]) (nL := 3) (x := x) (rv := fun x : Int32 × VC => (some (.int x.1))) (fin := fun x : Int32 × VC => ((x.2, w) : VA)) (own := RL) hG (by decide) rfl (Nat.le_of_ble_eq_true rfl) (fun X C hr Wp hlx => ?_) hf
  subst hlx
  unfold f_L_stop
  refine j_aload_n C 0 0 rfl dL_stop_0 ?_
  refine j_bind (fun r hr9 => ?_)
  refine j_vX (As := []) (st := []) C Wp.2.1 (by rw [Wp.2.2.1]; exact Wp.2.2.2.2.1) (by rw [Wp.2.2.2.1]; exact Wp.2.2.2.2.2) k_X5_stop 1 (c_X5_stop C.2.2.2.2.2.2.1 hl c hr9) rfl ml_L_32 ii_X5_stop is_X5_stop dL_stop_1 (by decide) rfl (Nat.le_of_ble_eq_true rfl) (fun rv V1 e => ?_) (fun m V1 e => ?_) rfl
  · rcases r with n | q
    · cases e
    · cases e
      have C1 := C.add (k := 1) (z := 6) (by rw [Wp.2.2.1]; exact Wp.2.2.2.2.1) (by rw [Wp.2.2.2.1]; exact Wp.2.2.2.2.2)
      refine j_istore_n (L1 := [(1, .int q.1), (0, .ref (G.2.2 0))]) C1 4 rfl dL_stop_4 (by decide) rfl ?_
      refine j_goto C1 5 12 dL_stop_5 (by decide) ?_
      refine j_iload_n C1 12 0 rfl dL_stop_12 ?_
      exact jw_iret C1 rfl Wp.2.2.1 Wp.2.2.2.1 13 hr rfl rfl dL_stop_13
  · rcases r with n | q
    · cases e
      have C1 := C.add (k := 1) (z := 6) (by rw [Wp.2.2.1]; exact Wp.2.2.2.2.1) (by rw [Wp.2.2.2.1]; exact Wp.2.2.2.2.2)
      show JT G 3 (xup X) _ (if n.1 = 3 then some ((-33), n.2) else none) _ 1 _ _ _
      by_cases h3 : n.1 = 3
      · rw [if_pos h3]
        rw [h3]
        refine j_catch C1 Wp.2.1 3 1 [] ⟨0, 5, 8, 19⟩ [] Wp.1 (fun z hz => nomatch hz) (by decide) rfl (by decide) (fun q9 => ?_)
        refine j_astore_n (L1 := [(2, .ref q9), (0, .ref (G.2.2 0))]) C1 8 rfl dL_stop_8 (by decide) rfl ?_
        refine j_bipush (v := (-33)) C1 9 dL_stop_9 rfl ?_
        exact jw_iret C1 rfl Wp.2.2.1 Wp.2.2.2.1 11 hr rfl rfl dL_stop_11
      · rw [if_neg h3]
        exact jt_none
    · cases e
theorem kcw_L_stop : Cond.codeWith yL_stop cL_stop 3 (some .int) [(0, 5, 8, 19)] ∈ gw := gwm (i := 553) (by decide +kernel) (by decide +kernel)
theorem kw_L_stop : KYW yL_stop cL_stop 3 (some .int) [(0, 5, 8, 19)] 1 := ⟨kcw_L_stop, ki_StickPairsLaw, by decide, by decide +kernel⟩
def f_L_write (c : VC) (a1 : Int32) (a2 : Int32) : Option (Int32 × VC) :=
  (f_X5_write c a1 a2).bind fun r => Sum.elim (fun n : Nat × VC => if n.1 = 1 then some ((-31), n.2) else if n.1 = 2 then some ((-32), n.2) else if n.1 = 3 then some ((-33), n.2) else none) (fun q : Int32 × VC => some (q.1, q.2)) r
set_option maxRecDepth 100000 in
set_option maxHeartbeats 4000000 in
theorem c_L_write {G : GG} {l : Launch} {sa : Nat → Nat} (hG : Gok G) (hl : l.stackTraces = false) {w : VW} (c : VC) (a1 : Int32) (a2 : Int32) {x : Int32 × VC} (hf : f_L_write c a1 a2 = some x) : CtW l yL_write cL_write 5 (some .int) [(0, 7, 10, 15), (0, 7, 15, 17), (0, 7, 20, 19)] 9 [.ref (G.2.2 0), .int a1, .int a2] G sa (c, w) (some (.int x.1)) (x.2, w) := by
  refine ctw_of (y := yL_write) (as := [.ref (G.2.2 0), .int a1, .int a2]) (nL := 5) (x := x) (rv := fun x : Int32 × VC => (some (.int x.1))) (fin := fun x : Int32 × VC => ((x.2, w) : VA)) (own := RL) hG (by decide) rfl (Nat.le_of_ble_eq_true rfl) (fun X C hr Wp hlx => ?_) hf
  subst hlx
  unfold f_L_write
  refine j_aload_n C 0 0 rfl dL_write_0 ?_
  refine j_iload_n C 1 1 rfl dL_write_1 ?_
  refine j_iload_n C 2 2 rfl dL_write_2 ?_
  refine j_bind (fun r hr9 => ?_)
  refine j_vX (As := [.int a1, .int a2]) (st := []) C Wp.2.1 (by rw [Wp.2.2.1]; exact Wp.2.2.2.2.1) (by rw [Wp.2.2.2.1]; exact Wp.2.2.2.2.2) k_X5_write 3 (c_X5_write C.2.2.2.2.2.2.1 hl c _ _ hr9) rfl ml_L_35 ii_X5_write is_X5_write dL_write_3 (by decide) rfl (Nat.le_of_ble_eq_true rfl) (fun rv V1 e => ?_) (fun m V1 e => ?_) rfl
  · rcases r with n | q
    · cases e
    · cases e
      have C1 := C.add (k := 1) (z := 6) (by rw [Wp.2.2.1]; exact Wp.2.2.2.2.1) (by rw [Wp.2.2.2.1]; exact Wp.2.2.2.2.2)
      refine j_istore_n (L1 := [(3, .int q.1), (0, .ref (G.2.2 0)), (1, .int a1), (2, .int a2)]) C1 6 rfl dL_write_6 (by decide) rfl ?_
      refine j_goto C1 7 25 dL_write_7 (by decide) ?_
      refine j_iload_n C1 25 0 rfl dL_write_25 ?_
      exact jw_iret C1 rfl Wp.2.2.1 Wp.2.2.2.1 26 hr rfl rfl dL_write_26
  · rcases r with n | q
    · cases e
      have C1 := C.add (k := 1) (z := 6) (by rw [Wp.2.2.1]; exact Wp.2.2.2.2.1) (by rw [Wp.2.2.2.1]; exact Wp.2.2.2.2.2)
      show JT G 5 (xup X) _ (if n.1 = 1 then some ((-31), n.2) else if n.1 = 2 then some ((-32), n.2) else if n.1 = 3 then some ((-33), n.2) else none) _ 3 _ _ _
      by_cases h1 : n.1 = 1
      · rw [if_pos h1]
        rw [h1]
        refine j_catch C1 Wp.2.1 1 3 [] ⟨0, 7, 10, 15⟩ [⟨0, 7, 15, 17⟩, ⟨0, 7, 20, 19⟩] Wp.1 (fun z hz => nomatch hz) (by decide) rfl (by decide) (fun q9 => ?_)
        refine j_astore (L1 := [(4, .ref q9), (0, .ref (G.2.2 0)), (1, .int a1), (2, .int a2)]) C1 10 dL_write_10 (by decide) rfl ?_
        refine j_bipush (v := (-31)) C1 12 dL_write_12 rfl ?_
        exact jw_iret C1 rfl Wp.2.2.1 Wp.2.2.2.1 14 hr rfl rfl dL_write_14
      · rw [if_neg h1]
        by_cases h2 : n.1 = 2
        · rw [if_pos h2]
          rw [h2]
          refine j_catch C1 Wp.2.1 2 3 [⟨0, 7, 10, 15⟩] ⟨0, 7, 15, 17⟩ [⟨0, 7, 20, 19⟩] Wp.1 (fun z hz => by simp only [List.mem_cons, List.not_mem_nil, or_false] at hz; rcases hz with rfl; exact ⟨by decide, 1, by decide, by decide, by decide, rfl⟩) (by decide) rfl (by decide) (fun q9 => ?_)
          refine j_astore (L1 := [(4, .ref q9), (0, .ref (G.2.2 0)), (1, .int a1), (2, .int a2)]) C1 15 dL_write_15 (by decide) rfl ?_
          refine j_bipush (v := (-32)) C1 17 dL_write_17 rfl ?_
          exact jw_iret C1 rfl Wp.2.2.1 Wp.2.2.2.1 19 hr rfl rfl dL_write_19
        · rw [if_neg h2]
          by_cases h3 : n.1 = 3
          · rw [if_pos h3]
            rw [h3]
            refine j_catch C1 Wp.2.1 3 3 [⟨0, 7, 10, 15⟩, ⟨0, 7, 15, 17⟩] ⟨0, 7, 20, 19⟩ [] Wp.1 (fun z hz => by simp only [List.mem_cons, List.not_mem_nil, or_false] at hz; rcases hz with rfl | rfl <;> first | exact ⟨by decide, 1, by decide, by decide, by decide, rfl⟩ | exact ⟨by decide, 2, by decide, by decide, by decide, rfl⟩) (by decide) rfl (by decide) (fun q9 => ?_)
            refine j_astore (L1 := [(4, .ref q9), (0, .ref (G.2.2 0)), (1, .int a1), (2, .int a2)]) C1 20 dL_write_20 (by decide) rfl ?_
            refine j_bipush (v := (-33)) C1 22 dL_write_22 rfl ?_
            exact jw_iret C1 rfl Wp.2.2.1 Wp.2.2.2.1 24 hr rfl rfl dL_write_24
          · rw [if_neg h3]
            exact jt_none
    · cases e
theorem kcw_L_write : Cond.codeWith yL_write cL_write 5 (some .int) [(0, 7, 10, 15), (0, 7, 15, 17), (0, 7, 20, 19)] ∈ gw := gwm (i := 578) (by decide +kernel) (by decide +kernel)
theorem kw_L_write : KYW yL_write cL_write 5 (some .int) [(0, 7, 10, 15), (0, 7, 15, 17), (0, 7, 20, 19)] 3 := ⟨kcw_L_write, ki_StickPairsLaw, by decide, by decide +kernel⟩
def f_L_read (c : VC) (a1 : Int32) : Option (Int32 × VC) :=
  (f_X5_read c a1).bind fun r => Sum.elim (fun n : Nat × VC => if n.1 = 1 then some ((-31), n.2) else if n.1 = 3 then some ((-33), n.2) else none) (fun q : Int32 × VC => some (q.1, q.2)) r
set_option maxRecDepth 100000 in
set_option maxHeartbeats 4000000 in
theorem c_L_read {G : GG} {l : Launch} {sa : Nat → Nat} (hG : Gok G) (hl : l.stackTraces = false) {w : VW} (c : VC) (a1 : Int32) {x : Int32 × VC} (hf : f_L_read c a1 = some x) : CtW l yL_read cL_read 4 (some .int) [(0, 6, 9, 15), (0, 6, 13, 19)] 9 [.ref (G.2.2 0), .int a1] G sa (c, w) (some (.int x.1)) (x.2, w) := by
  refine ctw_of (y := yL_read) (as := [.ref (G.2.2 0), .int a1]) (nL := 4) (x := x) (rv := fun x : Int32 × VC => (some (.int x.1))) (fin := fun x : Int32 × VC => ((x.2, w) : VA)) (own := RL) hG (by decide) rfl (Nat.le_of_ble_eq_true rfl) (fun X C hr Wp hlx => ?_) hf
  subst hlx
  unfold f_L_read
  refine j_aload_n C 0 0 rfl dL_read_0 ?_
  refine j_iload_n C 1 1 rfl dL_read_1 ?_
  refine j_bind (fun r hr9 => ?_)
  refine j_vX (As := [.int a1]) (st := []) C Wp.2.1 (by rw [Wp.2.2.1]; exact Wp.2.2.2.2.1) (by rw [Wp.2.2.2.1]; exact Wp.2.2.2.2.2) k_X5_read 2 (c_X5_read C.2.2.2.2.2.2.1 hl c _ hr9) rfl ml_L_39 ii_X5_read is_X5_read dL_read_2 (by decide) rfl (Nat.le_of_ble_eq_true rfl) (fun rv V1 e => ?_) (fun m V1 e => ?_) rfl
  · rcases r with n | q
    · cases e
    · cases e
      have C1 := C.add (k := 1) (z := 6) (by rw [Wp.2.2.1]; exact Wp.2.2.2.2.1) (by rw [Wp.2.2.2.1]; exact Wp.2.2.2.2.2)
      refine j_istore_n (L1 := [(2, .int q.1), (0, .ref (G.2.2 0)), (1, .int a1)]) C1 5 rfl dL_read_5 (by decide) rfl ?_
      refine j_goto C1 6 17 dL_read_6 (by decide) ?_
      refine j_iload_n C1 17 0 rfl dL_read_17 ?_
      exact jw_iret C1 rfl Wp.2.2.1 Wp.2.2.2.1 18 hr rfl rfl dL_read_18
  · rcases r with n | q
    · cases e
      have C1 := C.add (k := 1) (z := 6) (by rw [Wp.2.2.1]; exact Wp.2.2.2.2.1) (by rw [Wp.2.2.2.1]; exact Wp.2.2.2.2.2)
      show JT G 4 (xup X) _ (if n.1 = 1 then some ((-31), n.2) else if n.1 = 3 then some ((-33), n.2) else none) _ 2 _ _ _
      by_cases h1 : n.1 = 1
      · rw [if_pos h1]
        rw [h1]
        refine j_catch C1 Wp.2.1 1 2 [] ⟨0, 6, 9, 15⟩ [⟨0, 6, 13, 19⟩] Wp.1 (fun z hz => nomatch hz) (by decide) rfl (by decide) (fun q9 => ?_)
        refine j_astore_n (L1 := [(3, .ref q9), (0, .ref (G.2.2 0)), (1, .int a1)]) C1 9 rfl dL_read_9 (by decide) rfl ?_
        refine j_bipush (v := (-31)) C1 10 dL_read_10 rfl ?_
        exact jw_iret C1 rfl Wp.2.2.1 Wp.2.2.2.1 12 hr rfl rfl dL_read_12
      · rw [if_neg h1]
        by_cases h3 : n.1 = 3
        · rw [if_pos h3]
          rw [h3]
          refine j_catch C1 Wp.2.1 3 2 [⟨0, 6, 9, 15⟩] ⟨0, 6, 13, 19⟩ [] Wp.1 (fun z hz => by simp only [List.mem_cons, List.not_mem_nil, or_false] at hz; rcases hz with rfl; exact ⟨by decide, 1, by decide, by decide, by decide, rfl⟩) (by decide) rfl (by decide) (fun q9 => ?_)
          refine j_astore_n (L1 := [(3, .ref q9), (0, .ref (G.2.2 0)), (1, .int a1)]) C1 13 rfl dL_read_13 (by decide) rfl ?_
          refine j_bipush (v := (-33)) C1 14 dL_read_14 rfl ?_
          exact jw_iret C1 rfl Wp.2.2.1 Wp.2.2.2.1 16 hr rfl rfl dL_read_16
        · rw [if_neg h3]
          exact jt_none
    · cases e
theorem kcw_L_read : Cond.codeWith yL_read cL_read 4 (some .int) [(0, 6, 9, 15), (0, 6, 13, 19)] ∈ gw := gwm (i := 636) (by decide +kernel) (by decide +kernel)
theorem kw_L_read : KYW yL_read cL_read 4 (some .int) [(0, 6, 9, 15), (0, 6, 13, 19)] 2 := ⟨kcw_L_read, ki_StickPairsLaw, by decide, by decide +kernel⟩
def f_L_rest (c : VC) (a1 : Int32) : Option (Int32 × VC) :=
  (f_X5_rest c a1).bind fun r => Sum.elim (fun n : Nat × VC => if n.1 = 2 then some ((-32), n.2) else none) (fun q : Int32 × VC => some (q.1, q.2)) r
set_option maxRecDepth 100000 in
set_option maxHeartbeats 4000000 in
theorem c_L_rest {G : GG} {l : Launch} {sa : Nat → Nat} (hG : Gok G) (hl : l.stackTraces = false) {w : VW} (c : VC) (a1 : Int32) {x : Int32 × VC} (hf : f_L_rest c a1 = some x) : CtW l yL_rest cL_rest 4 (some .int) [(0, 6, 9, 17)] 9 [.ref (G.2.2 0), .int a1] G sa (c, w) (some (.int x.1)) (x.2, w) := by
  refine ctw_of (y := yL_rest) (as := [.ref (G.2.2 0), .int a1]) (nL := 4) (x := x) (rv := fun x : Int32 × VC => (some (.int x.1))) (fin := fun x : Int32 × VC => ((x.2, w) : VA)) (own := RL) hG (by decide) rfl (Nat.le_of_ble_eq_true rfl) (fun X C hr Wp hlx => ?_) hf
  subst hlx
  unfold f_L_rest
  refine j_aload_n C 0 0 rfl dL_rest_0 ?_
  refine j_iload_n C 1 1 rfl dL_rest_1 ?_
  refine j_bind (fun r hr9 => ?_)
  refine j_vX (As := [.int a1]) (st := []) C Wp.2.1 (by rw [Wp.2.2.1]; exact Wp.2.2.2.2.1) (by rw [Wp.2.2.2.1]; exact Wp.2.2.2.2.2) k_X5_rest 2 (c_X5_rest C.2.2.2.2.2.2.1 hl c _ hr9) rfl ml_L_42 ii_X5_rest is_X5_rest dL_rest_2 (by decide) rfl (Nat.le_of_ble_eq_true rfl) (fun rv V1 e => ?_) (fun m V1 e => ?_) rfl
  · rcases r with n | q
    · cases e
    · cases e
      have C1 := C.add (k := 1) (z := 6) (by rw [Wp.2.2.1]; exact Wp.2.2.2.2.1) (by rw [Wp.2.2.2.1]; exact Wp.2.2.2.2.2)
      refine j_istore_n (L1 := [(2, .int q.1), (0, .ref (G.2.2 0)), (1, .int a1)]) C1 5 rfl dL_rest_5 (by decide) rfl ?_
      refine j_goto C1 6 13 dL_rest_6 (by decide) ?_
      refine j_iload_n C1 13 0 rfl dL_rest_13 ?_
      exact jw_iret C1 rfl Wp.2.2.1 Wp.2.2.2.1 14 hr rfl rfl dL_rest_14
  · rcases r with n | q
    · cases e
      have C1 := C.add (k := 1) (z := 6) (by rw [Wp.2.2.1]; exact Wp.2.2.2.2.1) (by rw [Wp.2.2.2.1]; exact Wp.2.2.2.2.2)
      show JT G 4 (xup X) _ (if n.1 = 2 then some ((-32), n.2) else none) _ 2 _ _ _
      by_cases h2 : n.1 = 2
      · rw [if_pos h2]
        rw [h2]
        refine j_catch C1 Wp.2.1 2 2 [] ⟨0, 6, 9, 17⟩ [] Wp.1 (fun z hz => nomatch hz) (by decide) rfl (by decide) (fun q9 => ?_)
        refine j_astore_n (L1 := [(3, .ref q9), (0, .ref (G.2.2 0)), (1, .int a1)]) C1 9 rfl dL_rest_9 (by decide) rfl ?_
        refine j_bipush (v := (-32)) C1 10 dL_rest_10 rfl ?_
        exact jw_iret C1 rfl Wp.2.2.1 Wp.2.2.2.1 12 hr rfl rfl dL_rest_12
      · rw [if_neg h2]
        exact jt_none
    · cases e
theorem kcw_L_rest : Cond.codeWith yL_rest cL_rest 4 (some .int) [(0, 6, 9, 17)] ∈ gw := gwm (i := 697) (by decide +kernel) (by decide +kernel)
theorem kw_L_rest : KYW yL_rest cL_rest 4 (some .int) [(0, 6, 9, 17)] 2 := ⟨kcw_L_rest, ki_StickPairsLaw, by decide, by decide +kernel⟩
def f_L_set (c : VC) (a1 : Int32) (a2 : Int32) : Option (Int32 × VC) :=
  (f_X5_set c a1 a2).bind fun r => Sum.elim (fun n : Nat × VC => if n.1 = 1 then some ((-31), n.2) else if n.1 = 2 then some ((-32), n.2) else none) (fun q : Int32 × VC => some (q.1, q.2)) r
set_option maxRecDepth 100000 in
set_option maxHeartbeats 4000000 in
theorem c_L_set {G : GG} {l : Launch} {sa : Nat → Nat} (hG : Gok G) (hl : l.stackTraces = false) {w : VW} (c : VC) (a1 : Int32) (a2 : Int32) {x : Int32 × VC} (hf : f_L_set c a1 a2 = some x) : CtW l yL_set cL_set 5 (some .int) [(0, 7, 10, 15), (0, 7, 15, 17)] 9 [.ref (G.2.2 0), .int a1, .int a2] G sa (c, w) (some (.int x.1)) (x.2, w) := by
  refine ctw_of (y := yL_set) (as := [.ref (G.2.2 0), .int a1, .int a2]) (nL := 5) (x := x) (rv := fun x : Int32 × VC => (some (.int x.1))) (fin := fun x : Int32 × VC => ((x.2, w) : VA)) (own := RL) hG (by decide) rfl (Nat.le_of_ble_eq_true rfl) (fun X C hr Wp hlx => ?_) hf
  subst hlx
  unfold f_L_set
  refine j_aload_n C 0 0 rfl dL_set_0 ?_
  refine j_iload_n C 1 1 rfl dL_set_1 ?_
  refine j_iload_n C 2 2 rfl dL_set_2 ?_
  refine j_bind (fun r hr9 => ?_)
  refine j_vX (As := [.int a1, .int a2]) (st := []) C Wp.2.1 (by rw [Wp.2.2.1]; exact Wp.2.2.2.2.1) (by rw [Wp.2.2.2.1]; exact Wp.2.2.2.2.2) k_X5_set 3 (c_X5_set C.2.2.2.2.2.2.1 hl c _ _ hr9) rfl ml_L_45 ii_X5_set is_X5_set dL_set_3 (by decide) rfl (Nat.le_of_ble_eq_true rfl) (fun rv V1 e => ?_) (fun m V1 e => ?_) rfl
  · rcases r with n | q
    · cases e
    · cases e
      have C1 := C.add (k := 1) (z := 6) (by rw [Wp.2.2.1]; exact Wp.2.2.2.2.1) (by rw [Wp.2.2.2.1]; exact Wp.2.2.2.2.2)
      refine j_istore_n (L1 := [(3, .int q.1), (0, .ref (G.2.2 0)), (1, .int a1), (2, .int a2)]) C1 6 rfl dL_set_6 (by decide) rfl ?_
      refine j_goto C1 7 20 dL_set_7 (by decide) ?_
      refine j_iload_n C1 20 0 rfl dL_set_20 ?_
      exact jw_iret C1 rfl Wp.2.2.1 Wp.2.2.2.1 21 hr rfl rfl dL_set_21
  · rcases r with n | q
    · cases e
      have C1 := C.add (k := 1) (z := 6) (by rw [Wp.2.2.1]; exact Wp.2.2.2.2.1) (by rw [Wp.2.2.2.1]; exact Wp.2.2.2.2.2)
      show JT G 5 (xup X) _ (if n.1 = 1 then some ((-31), n.2) else if n.1 = 2 then some ((-32), n.2) else none) _ 3 _ _ _
      by_cases h1 : n.1 = 1
      · rw [if_pos h1]
        rw [h1]
        refine j_catch C1 Wp.2.1 1 3 [] ⟨0, 7, 10, 15⟩ [⟨0, 7, 15, 17⟩] Wp.1 (fun z hz => nomatch hz) (by decide) rfl (by decide) (fun q9 => ?_)
        refine j_astore (L1 := [(4, .ref q9), (0, .ref (G.2.2 0)), (1, .int a1), (2, .int a2)]) C1 10 dL_set_10 (by decide) rfl ?_
        refine j_bipush (v := (-31)) C1 12 dL_set_12 rfl ?_
        exact jw_iret C1 rfl Wp.2.2.1 Wp.2.2.2.1 14 hr rfl rfl dL_set_14
      · rw [if_neg h1]
        by_cases h2 : n.1 = 2
        · rw [if_pos h2]
          rw [h2]
          refine j_catch C1 Wp.2.1 2 3 [⟨0, 7, 10, 15⟩] ⟨0, 7, 15, 17⟩ [] Wp.1 (fun z hz => by simp only [List.mem_cons, List.not_mem_nil, or_false] at hz; rcases hz with rfl; exact ⟨by decide, 1, by decide, by decide, by decide, rfl⟩) (by decide) rfl (by decide) (fun q9 => ?_)
          refine j_astore (L1 := [(4, .ref q9), (0, .ref (G.2.2 0)), (1, .int a1), (2, .int a2)]) C1 15 dL_set_15 (by decide) rfl ?_
          refine j_bipush (v := (-32)) C1 17 dL_set_17 rfl ?_
          exact jw_iret C1 rfl Wp.2.2.1 Wp.2.2.2.1 19 hr rfl rfl dL_set_19
        · rw [if_neg h2]
          exact jt_none
    · cases e
theorem kcw_L_set : Cond.codeWith yL_set cL_set 5 (some .int) [(0, 7, 10, 15), (0, 7, 15, 17)] ∈ gw := gwm (i := 706) (by decide +kernel) (by decide +kernel)
theorem kw_L_set : KYW yL_set cL_set 5 (some .int) [(0, 7, 10, 15), (0, 7, 15, 17)] 3 := ⟨kcw_L_set, ki_StickPairsLaw, by decide, by decide +kernel⟩
def f_L_undo (c : VC) : Option (Int32 × VC) :=
  (f_X5_undo c).bind fun r => Sum.elim (fun n : Nat × VC => if n.1 = 3 then some ((-33), n.2) else none) (fun q : Int32 × VC => some (q.1, q.2)) r
set_option maxRecDepth 100000 in
set_option maxHeartbeats 4000000 in
theorem c_L_undo {G : GG} {l : Launch} {sa : Nat → Nat} (hG : Gok G) (hl : l.stackTraces = false) {w : VW} (c : VC) {x : Int32 × VC} (hf : f_L_undo c = some x) : CtW l yL_undo cL_undo 3 (some .int) [(0, 5, 8, 19)] 9 [.ref (G.2.2 0)] G sa (c, w) (some (.int x.1)) (x.2, w) := by
  refine ctw_of (y := yL_undo) (as := [.ref (G.2.2 0)]) (nL := 3) (x := x) (rv := fun x : Int32 × VC => (some (.int x.1))) (fin := fun x : Int32 × VC => ((x.2, w) : VA)) (own := RL) hG (by decide) rfl (Nat.le_of_ble_eq_true rfl) (fun X C hr Wp hlx => ?_) hf
  subst hlx
  unfold f_L_undo
  refine j_aload_n C 0 0 rfl dL_undo_0 ?_
  refine j_bind (fun r hr9 => ?_)
  refine j_vX (As := []) (st := []) C Wp.2.1 (by rw [Wp.2.2.1]; exact Wp.2.2.2.2.1) (by rw [Wp.2.2.2.1]; exact Wp.2.2.2.2.2) k_X5_undo 1 (c_X5_undo C.2.2.2.2.2.2.1 hl c hr9) rfl ml_L_48 ii_X5_undo is_X5_undo dL_undo_1 (by decide) rfl (Nat.le_of_ble_eq_true rfl) (fun rv V1 e => ?_) (fun m V1 e => ?_) rfl
  · rcases r with n | q
    · cases e
    · cases e
      have C1 := C.add (k := 1) (z := 6) (by rw [Wp.2.2.1]; exact Wp.2.2.2.2.1) (by rw [Wp.2.2.2.1]; exact Wp.2.2.2.2.2)
      refine j_istore_n (L1 := [(1, .int q.1), (0, .ref (G.2.2 0))]) C1 4 rfl dL_undo_4 (by decide) rfl ?_
      refine j_goto C1 5 12 dL_undo_5 (by decide) ?_
      refine j_iload_n C1 12 0 rfl dL_undo_12 ?_
      exact jw_iret C1 rfl Wp.2.2.1 Wp.2.2.2.1 13 hr rfl rfl dL_undo_13
  · rcases r with n | q
    · cases e
      have C1 := C.add (k := 1) (z := 6) (by rw [Wp.2.2.1]; exact Wp.2.2.2.2.1) (by rw [Wp.2.2.2.1]; exact Wp.2.2.2.2.2)
      show JT G 3 (xup X) _ (if n.1 = 3 then some ((-33), n.2) else none) _ 1 _ _ _
      by_cases h3 : n.1 = 3
      · rw [if_pos h3]
        rw [h3]
        refine j_catch C1 Wp.2.1 3 1 [] ⟨0, 5, 8, 19⟩ [] Wp.1 (fun z hz => nomatch hz) (by decide) rfl (by decide) (fun q9 => ?_)
        refine j_astore_n (L1 := [(2, .ref q9), (0, .ref (G.2.2 0))]) C1 8 rfl dL_undo_8 (by decide) rfl ?_
        refine j_bipush (v := (-33)) C1 9 dL_undo_9 rfl ?_
        exact jw_iret C1 rfl Wp.2.2.1 Wp.2.2.2.1 11 hr rfl rfl dL_undo_11
      · rw [if_neg h3]
        exact jt_none
    · cases e
theorem kcw_L_undo : Cond.codeWith yL_undo cL_undo 3 (some .int) [(0, 5, 8, 19)] ∈ gw := gwm (i := 221) (by decide +kernel) (by decide +kernel)
theorem kw_L_undo : KYW yL_undo cL_undo 3 (some .int) [(0, 5, 8, 19)] 1 := ⟨kcw_L_undo, ki_StickPairsLaw, by decide, by decide +kernel⟩
def f_L_where (c : VC) (a1 : Int32) (a2 : Int32) : Option (Int32) :=
  (f_X5_where c a1 a2).bind fun r => Sum.elim (fun n : Nat => if n = 1 then some (-31) else if n = 2 then some (-32) else none) (fun q : Int32 => some q) r
set_option maxRecDepth 100000 in
set_option maxHeartbeats 4000000 in
theorem c_L_where {G : GG} {l : Launch} {sa : Nat → Nat} (hG : Gok G) (hl : l.stackTraces = false) {w : VW} (c : VC) (a1 : Int32) (a2 : Int32) {x : Int32} (hf : f_L_where c a1 a2 = some x) : CtW l yL_where cL_where 5 (some .int) [(0, 7, 10, 15), (0, 7, 15, 17)] 9 [.ref (G.2.2 0), .int a1, .int a2] G sa (c, w) (some (.int x)) (c, w) := by
  refine ctw_of (y := yL_where) (as := [.ref (G.2.2 0), .int a1, .int a2]) (nL := 5) (x := x) (rv := fun x : Int32 => (some (.int x))) (fin := fun x : Int32 => ((c, w) : VA)) (own := RL) hG (by decide) rfl (Nat.le_of_ble_eq_true rfl) (fun X C hr Wp hlx => ?_) hf
  subst hlx
  unfold f_L_where
  refine j_aload_n C 0 0 rfl dL_where_0 ?_
  refine j_iload_n C 1 1 rfl dL_where_1 ?_
  refine j_iload_n C 2 2 rfl dL_where_2 ?_
  refine j_bind (fun r hr9 => ?_)
  refine j_vX (As := [.int a1, .int a2]) (st := []) C Wp.2.1 (by rw [Wp.2.2.1]; exact Wp.2.2.2.2.1) (by rw [Wp.2.2.2.1]; exact Wp.2.2.2.2.2) k_X5_where 3 (c_X5_where C.2.2.2.2.2.2.1 hl c _ _ hr9) rfl ml_L_51 ii_X5_where is_X5_where dL_where_3 (by decide) rfl (Nat.le_of_ble_eq_true rfl) (fun rv V1 e => ?_) (fun m V1 e => ?_) rfl
  · rcases r with n | q
    · cases e
    · cases e
      have C1 := C.add (k := 1) (z := 6) (by rw [Wp.2.2.1]; exact Wp.2.2.2.2.1) (by rw [Wp.2.2.2.1]; exact Wp.2.2.2.2.2)
      refine j_istore_n (L1 := [(3, .int q), (0, .ref (G.2.2 0)), (1, .int a1), (2, .int a2)]) C1 6 rfl dL_where_6 (by decide) rfl ?_
      refine j_goto C1 7 20 dL_where_7 (by decide) ?_
      refine j_iload_n C1 20 0 rfl dL_where_20 ?_
      exact jw_iret C1 rfl Wp.2.2.1 Wp.2.2.2.1 21 hr rfl rfl dL_where_21
  · rcases r with n | q
    · cases e
      have C1 := C.add (k := 1) (z := 6) (by rw [Wp.2.2.1]; exact Wp.2.2.2.2.1) (by rw [Wp.2.2.2.1]; exact Wp.2.2.2.2.2)
      show JT G 5 (xup X) _ (if m = 1 then some (-31) else if m = 2 then some (-32) else none) _ 3 _ _ _
      by_cases h1 : m = 1
      · rw [if_pos h1]
        rw [h1]
        refine j_catch C1 Wp.2.1 1 3 [] ⟨0, 7, 10, 15⟩ [⟨0, 7, 15, 17⟩] Wp.1 (fun z hz => nomatch hz) (by decide) rfl (by decide) (fun q9 => ?_)
        refine j_astore (L1 := [(4, .ref q9), (0, .ref (G.2.2 0)), (1, .int a1), (2, .int a2)]) C1 10 dL_where_10 (by decide) rfl ?_
        refine j_bipush (v := (-31)) C1 12 dL_where_12 rfl ?_
        exact jw_iret C1 rfl Wp.2.2.1 Wp.2.2.2.1 14 hr rfl rfl dL_where_14
      · rw [if_neg h1]
        by_cases h2 : m = 2
        · rw [if_pos h2]
          rw [h2]
          refine j_catch C1 Wp.2.1 2 3 [⟨0, 7, 10, 15⟩] ⟨0, 7, 15, 17⟩ [] Wp.1 (fun z hz => by simp only [List.mem_cons, List.not_mem_nil, or_false] at hz; rcases hz with rfl; exact ⟨by decide, 1, by decide, by decide, by decide, rfl⟩) (by decide) rfl (by decide) (fun q9 => ?_)
          refine j_astore (L1 := [(4, .ref q9), (0, .ref (G.2.2 0)), (1, .int a1), (2, .int a2)]) C1 15 dL_where_15 (by decide) rfl ?_
          refine j_bipush (v := (-32)) C1 17 dL_where_17 rfl ?_
          exact jw_iret C1 rfl Wp.2.2.1 Wp.2.2.2.1 19 hr rfl rfl dL_where_19
        · rw [if_neg h2]
          exact jt_none
    · cases e
theorem kcw_L_where : Cond.codeWith yL_where cL_where 5 (some .int) [(0, 7, 10, 15), (0, 7, 15, 17)] ∈ gw := gwm (i := 854) (by decide +kernel) (by decide +kernel)
theorem kw_L_where : KYW yL_where cL_where 5 (some .int) [(0, 7, 10, 15), (0, 7, 15, 17)] 3 := ⟨kcw_L_where, ki_StickPairsLaw, by decide, by decide +kernel⟩
def f_L_lies (c : VC) (a1 : Int32) (a2 : Int32) : Option (Int32) :=
  (f_X5_lies c a1 a2).bind fun r => Sum.elim (fun n : Nat => if n = 1 then some (-31) else none) (fun q : Int32 => some q) r
set_option maxRecDepth 100000 in
set_option maxHeartbeats 4000000 in
theorem c_L_lies {G : GG} {l : Launch} {sa : Nat → Nat} (hG : Gok G) (hl : l.stackTraces = false) {w : VW} (c : VC) (a1 : Int32) (a2 : Int32) {x : Int32} (hf : f_L_lies c a1 a2 = some x) : CtW l yL_lies cL_lies 5 (some .int) [(0, 7, 10, 15)] 9 [.ref (G.2.2 0), .int a1, .int a2] G sa (c, w) (some (.int x)) (c, w) := by
  refine ctw_of (y := yL_lies) (as := [.ref (G.2.2 0), .int a1, .int a2]) (nL := 5) (x := x) (rv := fun x : Int32 => (some (.int x))) (fin := fun x : Int32 => ((c, w) : VA)) (own := RL) hG (by decide) rfl (Nat.le_of_ble_eq_true rfl) (fun X C hr Wp hlx => ?_) hf
  subst hlx
  unfold f_L_lies
  refine j_aload_n C 0 0 rfl dL_lies_0 ?_
  refine j_iload_n C 1 1 rfl dL_lies_1 ?_
  refine j_iload_n C 2 2 rfl dL_lies_2 ?_
  refine j_bind (fun r hr9 => ?_)
  refine j_vX (As := [.int a1, .int a2]) (st := []) C Wp.2.1 (by rw [Wp.2.2.1]; exact Wp.2.2.2.2.1) (by rw [Wp.2.2.2.1]; exact Wp.2.2.2.2.2) k_X5_lies 3 (c_X5_lies C.2.2.2.2.2.2.1 hl c _ _ hr9) rfl ml_L_54 ii_X5_lies is_X5_lies dL_lies_3 (by decide) rfl (Nat.le_of_ble_eq_true rfl) (fun rv V1 e => ?_) (fun m V1 e => ?_) rfl
  · rcases r with n | q
    · cases e
    · cases e
      have C1 := C.add (k := 1) (z := 6) (by rw [Wp.2.2.1]; exact Wp.2.2.2.2.1) (by rw [Wp.2.2.2.1]; exact Wp.2.2.2.2.2)
      refine j_istore_n (L1 := [(3, .int q), (0, .ref (G.2.2 0)), (1, .int a1), (2, .int a2)]) C1 6 rfl dL_lies_6 (by decide) rfl ?_
      refine j_goto C1 7 15 dL_lies_7 (by decide) ?_
      refine j_iload_n C1 15 0 rfl dL_lies_15 ?_
      exact jw_iret C1 rfl Wp.2.2.1 Wp.2.2.2.1 16 hr rfl rfl dL_lies_16
  · rcases r with n | q
    · cases e
      have C1 := C.add (k := 1) (z := 6) (by rw [Wp.2.2.1]; exact Wp.2.2.2.2.1) (by rw [Wp.2.2.2.1]; exact Wp.2.2.2.2.2)
      show JT G 5 (xup X) _ (if m = 1 then some (-31) else none) _ 3 _ _ _
      by_cases h1 : m = 1
      · rw [if_pos h1]
        rw [h1]
        refine j_catch C1 Wp.2.1 1 3 [] ⟨0, 7, 10, 15⟩ [] Wp.1 (fun z hz => nomatch hz) (by decide) rfl (by decide) (fun q9 => ?_)
        refine j_astore (L1 := [(4, .ref q9), (0, .ref (G.2.2 0)), (1, .int a1), (2, .int a2)]) C1 10 dL_lies_10 (by decide) rfl ?_
        refine j_bipush (v := (-31)) C1 12 dL_lies_12 rfl ?_
        exact jw_iret C1 rfl Wp.2.2.1 Wp.2.2.2.1 14 hr rfl rfl dL_lies_14
      · rw [if_neg h1]
        exact jt_none
    · cases e
theorem kcw_L_lies : Cond.codeWith yL_lies cL_lies 5 (some .int) [(0, 7, 10, 15)] ∈ gw := gwm (i := 857) (by decide +kernel) (by decide +kernel)
theorem kw_L_lies : KYW yL_lies cL_lies 5 (some .int) [(0, 7, 10, 15)] 3 := ⟨kcw_L_lies, ki_StickPairsLaw, by decide, by decide +kernel⟩
def f_L_slot (c : VC) (a1 : Int32) (a2 : Int32) : Option (Int32) :=
  (f_X5_slot c a1 a2).bind fun r => Sum.elim (fun n : Nat => if n = 1 then some (-31) else if n = 2 then some (-32) else none) (fun q : Int32 => some q) r
set_option maxRecDepth 100000 in
set_option maxHeartbeats 4000000 in
theorem c_L_slot {G : GG} {l : Launch} {sa : Nat → Nat} (hG : Gok G) (hl : l.stackTraces = false) {w : VW} (c : VC) (a1 : Int32) (a2 : Int32) {x : Int32} (hf : f_L_slot c a1 a2 = some x) : CtW l yL_slot cL_slot 5 (some .int) [(0, 7, 10, 15), (0, 7, 15, 17)] 9 [.ref (G.2.2 0), .int a1, .int a2] G sa (c, w) (some (.int x)) (c, w) := by
  refine ctw_of (y := yL_slot) (as := [.ref (G.2.2 0), .int a1, .int a2]) (nL := 5) (x := x) (rv := fun x : Int32 => (some (.int x))) (fin := fun x : Int32 => ((c, w) : VA)) (own := RL) hG (by decide) rfl (Nat.le_of_ble_eq_true rfl) (fun X C hr Wp hlx => ?_) hf
  subst hlx
  unfold f_L_slot
  refine j_aload_n C 0 0 rfl dL_slot_0 ?_
  refine j_iload_n C 1 1 rfl dL_slot_1 ?_
  refine j_iload_n C 2 2 rfl dL_slot_2 ?_
  refine j_bind (fun r hr9 => ?_)
  refine j_vX (As := [.int a1, .int a2]) (st := []) C Wp.2.1 (by rw [Wp.2.2.1]; exact Wp.2.2.2.2.1) (by rw [Wp.2.2.2.1]; exact Wp.2.2.2.2.2) k_X5_slot 3 (c_X5_slot C.2.2.2.2.2.2.1 hl c _ _ hr9) rfl ml_L_57 ii_X5_slot is_X5_slot dL_slot_3 (by decide) rfl (Nat.le_of_ble_eq_true rfl) (fun rv V1 e => ?_) (fun m V1 e => ?_) rfl
  · rcases r with n | q
    · cases e
    · cases e
      have C1 := C.add (k := 1) (z := 6) (by rw [Wp.2.2.1]; exact Wp.2.2.2.2.1) (by rw [Wp.2.2.2.1]; exact Wp.2.2.2.2.2)
      refine j_istore_n (L1 := [(3, .int q), (0, .ref (G.2.2 0)), (1, .int a1), (2, .int a2)]) C1 6 rfl dL_slot_6 (by decide) rfl ?_
      refine j_goto C1 7 20 dL_slot_7 (by decide) ?_
      refine j_iload_n C1 20 0 rfl dL_slot_20 ?_
      exact jw_iret C1 rfl Wp.2.2.1 Wp.2.2.2.1 21 hr rfl rfl dL_slot_21
  · rcases r with n | q
    · cases e
      have C1 := C.add (k := 1) (z := 6) (by rw [Wp.2.2.1]; exact Wp.2.2.2.2.1) (by rw [Wp.2.2.2.1]; exact Wp.2.2.2.2.2)
      show JT G 5 (xup X) _ (if m = 1 then some (-31) else if m = 2 then some (-32) else none) _ 3 _ _ _
      by_cases h1 : m = 1
      · rw [if_pos h1]
        rw [h1]
        refine j_catch C1 Wp.2.1 1 3 [] ⟨0, 7, 10, 15⟩ [⟨0, 7, 15, 17⟩] Wp.1 (fun z hz => nomatch hz) (by decide) rfl (by decide) (fun q9 => ?_)
        refine j_astore (L1 := [(4, .ref q9), (0, .ref (G.2.2 0)), (1, .int a1), (2, .int a2)]) C1 10 dL_slot_10 (by decide) rfl ?_
        refine j_bipush (v := (-31)) C1 12 dL_slot_12 rfl ?_
        exact jw_iret C1 rfl Wp.2.2.1 Wp.2.2.2.1 14 hr rfl rfl dL_slot_14
      · rw [if_neg h1]
        by_cases h2 : m = 2
        · rw [if_pos h2]
          rw [h2]
          refine j_catch C1 Wp.2.1 2 3 [⟨0, 7, 10, 15⟩] ⟨0, 7, 15, 17⟩ [] Wp.1 (fun z hz => by simp only [List.mem_cons, List.not_mem_nil, or_false] at hz; rcases hz with rfl; exact ⟨by decide, 1, by decide, by decide, by decide, rfl⟩) (by decide) rfl (by decide) (fun q9 => ?_)
          refine j_astore (L1 := [(4, .ref q9), (0, .ref (G.2.2 0)), (1, .int a1), (2, .int a2)]) C1 15 dL_slot_15 (by decide) rfl ?_
          refine j_bipush (v := (-32)) C1 17 dL_slot_17 rfl ?_
          exact jw_iret C1 rfl Wp.2.2.1 Wp.2.2.2.1 19 hr rfl rfl dL_slot_19
        · rw [if_neg h2]
          exact jt_none
    · cases e
theorem kcw_L_slot : Cond.codeWith yL_slot cL_slot 5 (some .int) [(0, 7, 10, 15), (0, 7, 15, 17)] ∈ gw := gwm (i := 318) (by decide +kernel) (by decide +kernel)
theorem kw_L_slot : KYW yL_slot cL_slot 5 (some .int) [(0, 7, 10, 15), (0, 7, 15, 17)] 3 := ⟨kcw_L_slot, ki_StickPairsLaw, by decide, by decide +kernel⟩
def f_L_cell (Ln : Nat) (sc : Nat → Int32) (k : Int32) : Option Int32 :=
  if k < Int32.ofNat Ln then ((ard Ln sc k).bind fun x => some x) else some (1359893120 * (k + 1))
set_option maxRecDepth 100000 in
theorem c_L_cell {G : GG} {l : Launch} (hG : Gok G) {b Ln : Nat} {sc : Nat → Int32} {V : VA} (k : Int32) {x : Int32} (hf : f_L_cell Ln sc k = some x) : CtC l yL_cell cL_cell 2 (some .int) 0 [.ref b, .int k] G b Ln sc V (some (.int x)) := by
  refine ctc_of (rv := fun x : Int32 => (some (.int x))) (own := RL) hG (plainFor_of_name (by decide)) rfl (Nat.le_of_ble_eq_true rfl) (fun X C hr hS0 => ?_) hf
  unfold f_L_cell
  refine j_iload_n C 0 1 rfl dL_cell_0 ?_
  refine j_aload_n C 1 0 rfl dL_cell_1 ?_
  refine j_slen C hS0 2 dL_cell_2 ?_
  refine j_icmp_ge C 3 12 dL_cell_3 (by decide) (fun c3 => ?_) (fun c3 => ?_)
  · refine j_aload_n C 6 0 rfl dL_cell_6 ?_
    refine j_iload_n C 7 1 rfl dL_cell_7 ?_
    refine j_bind (fun x h8 => ?_)
    refine j_sld C hS0 8 h8 dL_cell_8 ?_
    refine j_goto C 9 18 dL_cell_9 (by decide) ?_
    exact j_iret C 18 hr rfl rfl dL_cell_18
  · refine j_ldc C 12 dL_cell_12 lc_L_7 ?_
    refine j_iload_n C 14 1 rfl dL_cell_14 ?_
    refine j_iconst (v := 1) C 15 dL_cell_15 rfl ?_
    refine j_iadd C 16 dL_cell_16 ?_
    refine j_imul C 17 dL_cell_17 ?_
    exact j_iret C 18 hr rfl rfl dL_cell_18
