abbrev exN (n : Nat) : String := if n = 1 then "java/lang/IndexOutOfBoundsException" else if n = 2 then "java/lang/IllegalArgumentException" else "java/lang/IllegalStateException"
abbrev exNames : List String := ["java/lang/RuntimeException", "java/lang/Exception"]
def strL : List (Nat × String) := [(215, "there is no saved state"), (50, "no such slot"), (217, "no such number of a slot"), (61, "no such stick"), (75, "there is a stick in the slot"), (96, "there is no stick in the slot"), (108, "there is no stick that could fail"), (120, "the machine does not start"), (135, "the machine has not started"), (143, "no such block in the map"), (145, "no such value"), (150, "no stick is left for the block"), (159, "ticks out of range"), (167, "no such setting"), (169, "no such value of the setting"), (240, "no such map"), (245, "no such map or number"), (232, "no such count"), (222, "no such number of a block"), (227, "no such slot or number")]
def XK (G : GG) (sa : Nat → Nat) (sz : Nat) (U : State) (H : Heap) : Prop :=
  vx_Zq Bundle.tN "UNASSIGNED_STACK" Bundle.steD (AA G sz) U H ∧ vx_Zq Bundle.tN "SUPPRESSED_SENTINEL" Bundle.listD (AA G sz) U H ∧ (∀ q ∈ strL, vk_R RX5 q.1 q.2 (sa q.1) U) ∧ ∀ a b, a < 4 → b < 4 → 0 < a → 0 < b → a ≠ b → va_Nc (exN a) (exN b) U
theorem XK.call {G : GG} {sa : Nat → Nat} {sz : Nat} {U : State} {H : Heap} (g : JFrame) (mk : MethodId) (a : Array Value) (h : XK G sa sz U H) : XK G sa sz (U.calling g mk a) H :=
  ⟨vx_Zq.moved (u := U) (U := U.calling g mk a) (Vm.Alike.refl U.vm) h.1, vx_Zq.moved (u := U) (U := U.calling g mk a) (Vm.Alike.refl U.vm) h.2.1, fun q hq => vk_R.same (u := U) (U := U.calling g mk a) rfl (h.2.2.1 q hq), fun a1 b1 h1 h2 h3 h4 h5 => va_Nc.moved (u := U) (U := U.calling g mk a) (Vm.Alike.refl U.vm) (h.2.2.2 a1 b1 h1 h2 h3 h4 h5)⟩
theorem XK.warm {G : GG} {sa : Nat → Nat} {s U : State} {H : Heap} {locs : List Loc} (hW : s.WarmedH U.vm) (hS : va_S (AA G s.heap.size) s.heap H locs) (h : XK G sa s.heap.size s s.heap) : XK G sa H.size U H := by
  have hn : ∀ q, AA G H.size q → AA G s.heap.size q := fun q z => z.elim Or.inl (fun z => Or.inr (Nat.le_trans hS.1 z))
  exact ⟨((h.1.kept (fun a h1 h2 => hS.2.1 a h1 h2)).moved hW.alike).narrow hn, ((h.2.1.kept (fun a h1 h2 => hS.2.1 a h1 h2)).moved hW.alike).narrow hn, fun q hq => vk_R.warm hW (h.2.2.1 q hq), fun a1 b1 h1 h2 h3 h4 h5 => (h.2.2.2 a1 b1 h1 h2 h3 h4 h5).moved hW.alike⟩
def PcX (G : GG) (sa : Nat → Nat) (V : VA) (sz : Nat) : State → Prop := fun U => PcW G V sz U ∧ XK G sa sz U U.heap
def QRX (G : GG) (sz : Nat) (res : (Nat × VA) ⊕ (Option Value × VA)) : Array Value → State → Outcome → State → Prop := fun a st oc t => ∃ rv V', res = .inr (rv, V') ∧ QR G sz rv V' a st oc t
def XCX (G : GG) (sz : Nat) (res : (Nat × VA) ⊕ (Option Value × VA)) : String → State → State → Prop := fun E st t => ∃ n V, res = .inl (n, V) ∧ E = exN n ∧ va_P G.1 vwCl (wld G V) t.heap ∧ va_F (AA G sz) st t
abbrev RMX (d : Nat) : Room := { frames := d, cells := 1, slots := 6, locals := 35 * d }
def CtX (l : Launch) (y : MethodName) (cc : ByteArray) (nL : Nat) (ret : Option FieldType) (d : Nat) (as : List Value) (G : GG) (sa : Nat → Nat) (V : VA) (res : (Nat × VA) ⊕ (Option Value × VA)) : Prop :=
  ∀ sz, vx_Met l y (gws y cc nL ret) (RMX d) (va_Pc as (PcX G sa V sz)) (QRX G sz res) (XCX G sz res) 1 6 (AA G sz)
def QX {ρ : Type} (G : GG) (X : WX) (fX : ρ → (Nat × VA) ⊕ (Option Value × VA)) (x : ρ) : State → Prop := vx_MQ (xb X) (QRX G (xs X).heap.size (fX x)) (XCX G (xs X).heap.size (fX x)) (xa X) (xs X) 1 6 (AA G (xs X).heap.size)
def Thr (G : GG) (sa : Nat → Nat) (X : WX) : Prop := (∀ x ∈ (xc X).exceptionTable.toList, False) ∧ XK G sa (xs X).heap.size (xs X) (xs X).heap ∧ xk X = 0 ∧ xz X = 0 ∧ 1 ≤ (xR X).cells ∧ 6 ≤ (xR X).slots ∧ (xl X).stackTraces = false
theorem ctx_of {ρ : Type} {l : Launch} {y : MethodName} {cc : ByteArray} {nL : Nat} {ret : Option FieldType} {d : Nat} {as : List Value} {G : GG} {sa : Nat → Nat} {V : VA} {fX : ρ → (Nat × VA) ⊕ (Option Value × VA)} {sp : Option ρ} {own : String}
    (hG : Gok G) (hl : l.stackTraces = false) (hy : plainName y.cls = true) (hown : y.cls = own) (hsl : (lg_sl as).length ≤ nL)
    (body : ∀ X : WX, Cx G nL X own cc d → (xM X).sig.returnType = ret → Thr G sa X → JS G nL X (QX G X fX) sp V 0 (lv_args 0 as) []) {x : ρ} (hx : sp = some x) : CtX l y cc nL ret d as G sa V (fX x) := by
  intro sz
  refine vx_ofW (cc := cc) (maxL := nL) (ret := ret) hy rfl ?_
  intro p e s m args below meth c s₁ B hml htab hv
  obtain ⟨rfl, ⟨hsz, hP, hK⟩, hXK⟩ := hv
  have hts := atoms_spec (ws := gws y cc nL ret) B.pre
  have hown2 : s.vm.findClass own = some m.cls := hown ▸ findClass_of_methodNamed B.named
  have C : Cx G nL (p, l, e, RMX d, s, m, as.toArray, below, meth, c, 0, 0) own cc d := ⟨B.exec, B.bytes, hml, hown2, fun w h => hts w (List.mem_cons_of_mem _ h), hK, hG, B.notSynchronized, Nat.le_refl _, Nat.le_refl _, Nat.zero_le _, Nat.zero_le _⟩
  have hl9 := lv_entry as hsl
  subst hsz
  have K := body _ C B.returns ⟨htab, hXK, rfl, rfl, Nat.le_refl _, Nat.le_refl _, hl⟩ x hx s.heap [] _ hP va_S.rf hl9
  rw [lg_entry_eq]
  exact K
section
variable {ρ : Type} {G : GG} {sa : Nat → Nat} {nL : Nat} {X : WX} {fX : ρ → (Nat × VA) ⊕ (Option Value × VA)} {x : ρ} {V : VA} {L : List (Nat × Value)} {st : List Value} {own : String} {cc : ByteArray} {d : Nat}
theorem jx_iret (C : Cx G nL X own cc d) (T : Thr G sa X) {v : Int32} (pc : Nat) (hr : (xM X).sig.returnType = some .int) (hrv : fX x = .inr (some (.int v), V)) (hd : decode cc pc = .ok (.ireturn, 1)) : JS G nL X (QX G X fX) (some x) V pc L [.int v] := by
  intro x0 h0 H locs ls hP hS hl
  cases h0
  have e1 := T.2.2.1
  have e2 := T.2.2.2.1
  refine W.widen (k := 1) (n := 6) (by rw [e1]; omega) (by rw [e2]; omega) ?_
  refine vx_ret ?_
  exact W.iret C.1 C.2.1 hr (fun t ht _ => ⟨_, _, hrv, ⟨⟨rfl, by rw [ht]; exact hP⟩, hS.F ht⟩⟩) hS.2.2 hd C.2.2.2.2.2.2.2.1
theorem jx_throw (C : Cx G nL X RX5 cc d) (T : Thr G sa X) (n : Nat) {text : String} {ik is ic : Nat} (pc : Nat) (hfit : Bundle.fit (exN n) = true) (hk : Cond.classLink RX5 ik (exN n) ∈ gw) (hini : Cond.initialized (exN n) ∈ gw) (hs : (is, text) ∈ strL) (hat : ∀ w ∈ vx_atS RX5 ic (exN n) exNames, w ∈ gw ∨ w ∈ nestW) (hot : ∀ w ∈ Cond.classLink RX5 ik (exN n) :: Cond.initialized (exN n) :: vx_atS RX5 ic (exN n) exNames, vx_ot w = true)
    (d0 : decode cc pc = .ok (.new ik, 3)) (d3 : decode cc (pc + 3) = .ok (.dup, 1)) (d4 : decode cc (pc + 4) = .ok (.ldc is, 2)) (d6 : decode cc (pc + 6) = .ok (.invokespecial ic, 3)) (d9 : decode cc (pc + 9) = .ok (.athrow, 1)) (hst : (st.map fun v => v.category).sum ≤ 8) (hdd : 8 ≤ d) (hrv : fX x = .inl (n, V)) : JS G nL X (QX G X fX) (some x) V pc L st := by
  intro x0 h0 H locs ls hP hS hl
  cases h0
  have e1 := T.2.2.1
  have e2 := T.2.2.2.1
  have r1 := C.2.2.2.2.2.2.2.2.1
  have r2 := C.2.2.2.2.2.2.2.2.2.1
  refine vx_throwS (A := AA G (xs X).heap.size) C.1 C.2.1 T.2.2.2.2.2.2 C.2.2.2.1 hfit (by decide) (C.2.2.2.2.1 _ hk) (C.2.2.2.2.1 _ hini) (T.2.1.2.2.1 _ hs) (fun w hw => ?_) hot T.2.1.1 T.2.1.2.1 hS (by rw [C.2.2.1]; exact hl.1) d0 d3 d4 d6 d9 (fun z hz => (T.1 z hz).elim) (by show 2 + 3 < _; omega) (by show _ + (13 * (2 + 1) + 43) ≤ _; omega) (by rw [e1]; exact T.2.2.2.2.1) (by rw [e2]; exact T.2.2.2.2.2.1) C.2.2.2.2.2.2.2.1 ?_ hS.2.2 (by rw [e1]; omega) (by rw [e2]; omega)
  · rcases hat w hw with h | h
    · exact C.2.2.2.2.1 w h
    · exact (C.2.2.2.2.2.1.2 w h).use (nestW_tab h)
  · intro t ha hz hk9
    refine ⟨n, V, hrv, rfl, hP.kept (fun k q hq => hk9 q.1 (hP k q hq).lt), Nat.le_trans hS.1 hz, fun q h1 h2 => ?_⟩
    rw [hk9 q (Nat.lt_of_lt_of_le h1 hS.1)]
    exact hS.2.1 q h1 h2
end
def isCD : Cond → Bool
  | .castable .. => true
  | .declares .. => true
  | _ => false
theorem tbl_split {w : Cond} (h : w ∈ lw_tbl) (h2 : goodWord w = true ∨ isCD w = true) : w ∈ gw ∨ w ∈ nestW := by
  rcases h2 with h2 | h2
  · exact Or.inl (List.mem_filter.mpr ⟨h, h2⟩)
  · right
    have h3 : w ∈ tables_1 := by
      rcases List.mem_append.mp h with h | h
      · obtain ⟨q, -, rfl⟩ := List.mem_map.mp h
        cases h2
      · exact h
    refine List.mem_filter.mpr ⟨h3, ?_⟩
    cases w <;> first | rfl | (cases h2; done)
def exOk (w : Cond) : Bool := decide (w ∈ lw_tbl) && (goodWord w || isCD w)
theorem exOk_all {ws : List Cond} (h : ws.all exOk = true) : ∀ w ∈ ws, w ∈ gw ∨ w ∈ nestW := by
  intro w hw
  have h1 := List.all_eq_true.mp h w hw
  simp only [exOk, Bool.and_eq_true, decide_eq_true_eq, Bool.or_eq_true] at h1
  exact tbl_split h1.1 h1.2
theorem xk_1 : Cond.classLink RX5 48 (exN 1) ∈ gw := gwm (i := 328) (by decide +kernel) (by decide +kernel)
theorem xi_1 : Cond.initialized (exN 1) ∈ gw := gwm (i := 27) (by decide +kernel) (by decide +kernel)
set_option maxRecDepth 100000 in
theorem xa_1 : ∀ w ∈ vx_atS RX5 52 (exN 1) exNames, w ∈ gw ∨ w ∈ nestW := exOk_all (by decide +kernel)
set_option maxRecDepth 100000 in
theorem xo_1 : ∀ w ∈ Cond.classLink RX5 48 (exN 1) :: Cond.initialized (exN 1) :: vx_atS RX5 52 (exN 1) exNames, vx_ot w = true := List.all_eq_true.mp (by decide +kernel)
theorem xk_2 : Cond.classLink RX5 59 (exN 2) ∈ gw := gwm (i := 347) (by decide +kernel) (by decide +kernel)
theorem xi_2 : Cond.initialized (exN 2) ∈ gw := gwm (i := 28) (by decide +kernel) (by decide +kernel)
set_option maxRecDepth 100000 in
theorem xa_2 : ∀ w ∈ vx_atS RX5 63 (exN 2) exNames, w ∈ gw ∨ w ∈ nestW := exOk_all (by decide +kernel)
set_option maxRecDepth 100000 in
theorem xo_2 : ∀ w ∈ Cond.classLink RX5 59 (exN 2) :: Cond.initialized (exN 2) :: vx_atS RX5 63 (exN 2) exNames, vx_ot w = true := List.all_eq_true.mp (by decide +kernel)
theorem xk_3 : Cond.classLink RX5 73 (exN 3) ∈ gw := gwm (i := 227) (by decide +kernel) (by decide +kernel)
theorem xi_3 : Cond.initialized (exN 3) ∈ gw := gwm (i := 31) (by decide +kernel) (by decide +kernel)
set_option maxRecDepth 100000 in
theorem xa_3 : ∀ w ∈ vx_atS RX5 77 (exN 3) exNames, w ∈ gw ∨ w ∈ nestW := exOk_all (by decide +kernel)
set_option maxRecDepth 100000 in
theorem xo_3 : ∀ w ∈ Cond.classLink RX5 73 (exN 3) :: Cond.initialized (exN 3) :: vx_atS RX5 77 (exN 3) exNames, vx_ot w = true := List.all_eq_true.mp (by decide +kernel)
