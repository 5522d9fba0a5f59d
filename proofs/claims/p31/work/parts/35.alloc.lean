-- ===== rows that a method of the law makes: the world grows by them, and is the old one again behind the method =====
def gPush (G : GG) (N q : Nat) : GG := (G.1, G.2.1, va_up (va_up G.2.2 N q) 1000 (N + 1))
theorem gPush_n (G : GG) (N q : Nat) : nG (gPush G N q) = N + 1 := va_up_self (va_up G.2.2 N q) 1000 (N + 1)
theorem wld_push {G : GG} {c : VC} {w : VW} {N q n : Nat} {f : Nat → Int32} (hN : nG G = N) (h1 : 119 ≤ N) (h2 : N < 1000) : wld G (c, w) ++ [(q, cI (G.2.1 0) n f)] = wld (gPush G N q) (c, va_up w (N - 114) (n, f)) := by
  have hn : nG (gPush G N q) = N + 1 := va_up_self (va_up G.2.2 N q) 1000 (N + 1)
  have hl : (wld G (c, w)).length = N := by rw [wld_len, hN]
  apply List.ext_getElem?
  intro j
  by_cases hj : j < N
  · rw [List.getElem?_append_left (by omega), wld_at G _ (by omega), wld_at (gPush G N q) _ (by omega)]
    have e1 : (gPush G N q).2.2 j = G.2.2 j := by
      show va_up (va_up G.2.2 N q) 1000 (N + 1) j = _
      rw [va_up_ne _ _ (by omega), va_up_ne _ _ (by omega)]
    have e2 : cellA (gPush G N q).2.1 (gPush G N q).2.2 (c, va_up w (N - 114) (n, f)) j = cellA G.2.1 G.2.2 (c, w) j := by
      by_cases h3 : j < 114
      · refine cellA_cg rfl (fun i hi => ?_) h3
        show va_up (va_up G.2.2 N q) 1000 (N + 1) i = _
        rw [va_up_ne _ _ (by omega), va_up_ne _ _ (by omega)]
      · obtain ⟨i, rfl⟩ : ∃ i, j = 114 + i := ⟨j - 114, by omega⟩
        rw [at_rw, at_rw, va_up_ne _ _ (by omega)]
        rfl
    rw [e1, e2]
  · by_cases e : j = N
    · subst e
      rw [List.getElem?_append_right (by omega), hl, Nat.sub_self, wld_at (gPush G j q) _ (by omega)]
      have e1 : (gPush G j q).2.2 j = q := by
        show va_up (va_up G.2.2 j q) 1000 (j + 1) j = _
        rw [va_up_ne _ _ (by omega), va_up_self]
      have e2 : cellA (gPush G j q).2.1 (gPush G j q).2.2 (c, va_up w (j - 114) (n, f)) j = cI (G.2.1 0) n f := by
        obtain ⟨i, rfl⟩ : ∃ i, j = 114 + i := ⟨j - 114, by omega⟩
        rw [at_rw, Nat.add_sub_cancel_left, va_up_self]
        rfl
      rw [e1, e2]
      rfl
    · rw [List.getElem?_eq_none (by rw [List.length_append, hl]; show N + 1 ≤ j; omega), List.getElem?_eq_none (by rw [wld_len, hn]; omega)]
def JW (G : GG) (A : Nat → Prop) (nL : Nat) (X : WX) (Q : State → Prop) (ws : va_W) (pc : Nat) (L : List (Nat × Value)) (st : List Value) : Prop :=
  ∀ (H : Heap) (locs : List Loc) (ls : Array Slot), va_P G.1 vwCl ws H → va_D A ws → va_S A (xs X).heap H locs → lv_has ls nL L → xW X H locs Q (F0 (xm X) pc ls st)
section
variable {G : GG} {A : Nat → Prop} {nL : Nat} {X : WX} {Q : State → Prop} {ws : va_W} {L : List (Nat × Value)} {st : List Value} {own : String} {cc : ByteArray} {d : Nat}
theorem jw_ws {ws' : va_W} {pc : Nat} (h : ws = ws') (kk : JW G A nL X Q ws' pc L st) : JW G A nL X Q ws pc L st := h ▸ kk
theorem jw_iconst (C : Cx G nL X own cc d) {n : Int} {v : Int32} (pc : Nat) (hd : decode cc pc = .ok (.iconst n, 1)) (hv : Int32.ofInt n = v) (kk : JW G A nL X Q ws (pc + 1) L (.int v :: st)) : JW G A nL X Q ws pc L st :=
  fun H locs ls hP hD hS hl => lv_iconst C.1 C.2.1 hd hv (kk H locs ls hP hD hS hl)
theorem jw_bipush (C : Cx G nL X own cc d) {n : Int} {v : Int32} (pc : Nat) (hd : decode cc pc = .ok (.bipush n, 2)) (hv : (Int8.ofInt n).toInt32 = v) (kk : JW G A nL X Q ws (pc + 2) L (.int v :: st)) : JW G A nL X Q ws pc L st :=
  fun H locs ls hP hD hS hl => lv_bipush C.1 C.2.1 hd hv (kk H locs ls hP hD hS hl)
theorem jw_astore_n (C : Cx G nL X own cc d) {n : Fin 4} {i : Nat} {x : Nat} {L1 : List (Nat × Value)} (pc : Nat) (hi : (n : Nat) = i) (hd : decode cc pc = .ok (.astore_n n, 1)) (hn : i < nL) (hl : (i, Value.ref x) :: L.filter (fun q => !(q.1 == i) && !(q.1 + 1 == i && q.2.category == 2)) = L1) (kk : JW G A nL X Q ws (pc + 1) L1 st) : JW G A nL X Q ws pc L (.ref x :: st) :=
  fun H locs ls hP hD hS h => lv_astore_n C.1 C.2.1 hd hi h hn hl (fun ls1 h1 => kk H locs ls1 hP hD hS h1)
theorem jw_astore (C : Cx G nL X own cc d) {i : Nat} {x : Nat} {L1 : List (Nat × Value)} (pc : Nat) (hd : decode cc pc = .ok (.astore i, 2)) (hn : i < nL) (hl : (i, Value.ref x) :: L.filter (fun q => !(q.1 == i) && !(q.1 + 1 == i && q.2.category == 2)) = L1) (kk : JW G A nL X Q ws (pc + 2) L1 st) : JW G A nL X Q ws pc L (.ref x :: st) :=
  fun H locs ls hP hD hS h => lv_astore C.1 C.2.1 hd h hn hl (fun ls1 h1 => kk H locs ls1 hP hD hS h1)
theorem jw_L {L' : List (Nat × Value)} {pc : Nat} (ks : List Nat) (hl : lv_pick L ks = L') (k : JW G A nL X Q ws pc L' st) : JW G A nL X Q ws pc L st := fun H locs ls hP hD hS h => k H locs ls hP hD hS (lv_sub h ks hl)
theorem jw_newa (C : Cx G nL X own cc d) (hA : ∀ q, (xs X).heap.size ≤ q → A q) {n : Int32} {N' : Nat} (pc : Nat) (hn : ¬ n < 0) (hN : n.toNatClampNeg = N') (hbytes : N' * componentBytes .int ≤ 536870912) (hcells : xk X + 1 ≤ (xR X).cells) (hslots : xz X + N' ≤ (xR X).slots) (hd : decode cc pc = .ok (.newarray .int, 2))
    (kk : ∀ q, JW G A nL (xadd X 1 N') Q (ws ++ [(q, cI (G.2.1 0) N' (fun _ => 0))]) (pc + 2) L (.ref q :: st)) : JW G A nL X Q ws pc L (.int n :: st) := by
  intro H locs ls hP hD hS hl
  refine va_newa (atype := .int) (ty := .int) (a0 := (N', .inl (fun _ => 0))) C.1 C.2.1 (C.2.2.2.2.1 (Cond.arrayClass .int) ac_int) rfl C.2.2.2.2.2.1.1 hP hD hS hA (fun _ => by rw [vp_cell_i]; rfl) hn hN hbytes hcells hslots hd (fun q cA H1 hK1 hP1 hD1 hS1 => ?_)
  have e : cA = G.2.1 0 := ra_eq (hK1.2 3 (cA, .int) rfl).2 (C.2.2.2.2.2.1.1.2 0 (G.2.1 0, .int) rfl).2
  subst e
  exact kk q H1 locs ls hP1 hD1 hS1 hl
end
theorem wld_old {G G' : GG} {V V' : VA} (h1 : G'.2.1 = G.2.1) (hN : nG G = 119) (hN' : 119 ≤ nG G') (hs : ∀ i, i < 119 → G'.2.2 i = G.2.2 i) (hV : V'.1 = V.1) (hw : ∀ j, j < 5 → V'.2 j = V.2 j) {i : Nat} (hi : i < 119) : (wld G' V')[i]? = (wld G V)[i]? := by
  rw [wld_at G' V' (by omega), wld_at G V (by omega), hs i hi, h1]
  by_cases h3 : i < 114
  · rw [cellA_cg hV (fun j hj => hs j (by omega)) h3]
  · obtain ⟨j, rfl⟩ : ∃ j, i = 114 + j := ⟨i - 114, by omega⟩
    have e1 : cellA G.2.1 G'.2.2 V' (114 + j) = cI (G.2.1 0) (V'.2 j).1 (V'.2 j).2 := at_rw (c := V'.1) (w := V'.2)
    have e2 : cellA G.2.1 G.2.2 V (114 + j) = cI (G.2.1 0) (V.2 j).1 (V.2 j).2 := at_rw (c := V.1) (w := V.2)
    rw [e1, e2, hw j (by omega)]
theorem wld_pop {G G' : GG} {V V' : VA} {H : Heap} (h0 : G'.1 = G.1) (h1 : G'.2.1 = G.2.1) (hN : nG G = 119) (hN' : 119 ≤ nG G') (hs : ∀ i, i < 119 → G'.2.2 i = G.2.2 i) (hV : V'.1 = V.1) (hw : ∀ j, j < 5 → V'.2 j = V.2 j) (hP : va_P G'.1 vwCl (wld G' V') H) : va_P G.1 vwCl (wld G V) H := by
  intro k q hq
  have hk := wld_lt hq
  rw [← h0]
  exact hP k q (by rw [wld_old h1 hN hN' hs hV hw (by omega)]; exact hq)
/-- from a raw world into the grown one -/
theorem jw_in {ρ : Type} {G G' : GG} {nL : Nat} {X : WX} {Q : ρ → State → Prop} {x : ρ} {sp : Option ρ} {A : Nat → Prop} (hAe : A = AA G (xs X).heap.size) (hx : sp = some x) {V' : VA} {pc : Nat} {L : List (Nat × Value)} {st : List Value} (h1 : G'.1 = G.1) (hN : nG G = 119) (hN' : 119 ≤ nG G') (hs : ∀ i, i < 119 → G'.2.2 i = G.2.2 i)
    (kk : Gok G' → (∀ i, 119 ≤ i → i < nG G' → (xs X).heap.size ≤ G'.2.2 i) → JS G' nL X Q sp V' pc L st) : JW G A nL X (Q x) (wld G' V') pc L st := by
  subst hAe
  intro H locs ls hP hD hS hl
  have hok : Gok G' := ⟨hN', fun i j hi hj e => hD.1 i j _ _ (wld_at G' V' hi) (wld_at G' V' hj) e⟩
  have hge : ∀ i, 119 ≤ i → i < nG G' → (xs X).heap.size ≤ G'.2.2 i := by
    intro i h2 h3
    rcases hD.2 i _ (wld_at G' V' h3) with ⟨j, hj, e⟩ | h
    · have hj2 : j < 119 := by rw [← hN]; exact hj
      have e2 : G'.2.2 i = G'.2.2 j := by rw [hs j hj2]; exact e
      have := hok.2 i j h3 (by omega) e2
      omega
    · exact h
  have ha : ∀ q, AA G (xs X).heap.size q → AA G' (xs X).heap.size q := by
    intro q h
    rcases h with ⟨j, hj, e⟩ | h
    · have hj2 : j < 119 := by rw [← hN]; exact hj
      exact Or.inl ⟨j, by omega, by rw [hs j hj2]; exact e⟩
    · exact Or.inr h
  exact kk hok hge x hx H locs ls (by rw [h1]; exact hP) ⟨hS.1, fun q h2 h3 => hS.2.1 q h2 (fun z => h3 (ha q z)), fun q hq => ha _ (hS.2.2 q hq)⟩ hl
/-- the method's end, out of the grown world: said of the old one -/
theorem jr_out {ρ : Type} {G G' : GG} {nL : Nat} {X : WX} {kb zb : Nat} {rv : ρ → Option Value} {fin : ρ → VA} {x : ρ} {V' : VA} {own : String} {cc : ByteArray} {d : Nat} {L : List (Nat × Value)} (C : Cx G' nL X own cc d) (h0 : G'.1 = G.1) (h1 : G'.2.1 = G.2.1) (hN : nG G = 119) (hN' : 119 ≤ nG G') (hs : ∀ i, i < 119 → G'.2.2 i = G.2.2 i) (hge : ∀ i, 119 ≤ i → i < nG G' → (xs X).heap.size ≤ G'.2.2 i) (hk : xk X ≤ kb) (hz : xz X ≤ zb)
    (hV : V'.1 = (fin x).1) (hw : ∀ j, j < 5 → V'.2 j = (fin x).2 j) {v : Int32} (pc : Nat) (hr : (xM X).sig.returnType = some .boolean) (hn : narrow .boolean (.int v) = .int v) (hrv : rv x = some (.int v)) (hd : decode cc pc = .ok (.ireturn, 1)) : JS G' nL X (QB G X kb zb rv fin) (some x) V' pc L [.int v] := by
  intro x0 hx0 H locs ls hP hS hl
  cases hx0
  have hP2 := wld_pop h0 h1 hN hN' hs hV hw hP
  have ha : ∀ q, q < (xs X).heap.size → AA G' (xs X).heap.size q → AA G (xs X).heap.size q := by
    intro q hq h
    rcases h with ⟨j, hj, e⟩ | h
    · by_cases hj2 : j < 119
      · exact Or.inl ⟨j, by rw [hN]; exact hj2, by rw [← hs j hj2]; exact e⟩
      · have := hge j (by omega) hj
        omega
    · exact Or.inr h
  have ha2 : ∀ q, AA G' (xs X).heap.size q → AA G (xs X).heap.size q := by
    intro q h
    by_cases hq : q < (xs X).heap.size
    · exact ha q hq h
    · exact Or.inr (Nat.not_lt.mp hq)
  refine W.widen hk hz (W.zret C.1 C.2.1 hr hn (fun t ht _ => ⟨⟨by rw [hrv], by rw [ht]; exact hP2⟩, ?_⟩) (fun q hq => ha2 _ (hS.2.2 q hq)) hd C.2.2.2.2.2.2.2.1)
  exact ⟨by rw [ht]; exact hS.1, fun q h2 h3 => by rw [ht]; exact hS.2.1 q h2 (fun z => h3 (ha2 q z))⟩
theorem cta_of {ρ : Type} {l : Launch} {y : MethodName} {cc : ByteArray} {nL : Nat} {ret : Option FieldType} {d : Nat} {as : List Value} {G : GG} {sa : Nat → Nat} {V : VA} {rv : ρ → Option Value} {fin : ρ → VA} {sp : Option ρ} {own : String} {kb zb : Nat}
    (hG : Gok G) (hy : plainFor y = true) (hown : y.cls = own) (hsl : (lg_sl as).length ≤ nL)
    (body : ∀ X : WX, Cx G nL X own cc d → (xM X).sig.returnType = ret → (xR X).cells = kb → (xR X).slots = zb → xk X = 0 → xz X = 0 → JS G nL X (QB G X kb zb rv fin) sp V 0 (lv_args 0 as) []) {x : ρ} (hx : sp = some x) : CtB l y cc nL ret d as G sa V (rv x) (fin x) kb zb := by
  intro sz
  refine va_MetF (cc := cc) (maxL := nL) (ret := ret) hy rfl ?_
  intro p e s m args below meth c s₁ B hml hv
  obtain ⟨rfl, ⟨hsz, hP, hK⟩, hXK⟩ := hv
  have hts := atoms_spec (ws := gws y cc nL ret) B.pre
  have hown2 : s.vm.findClass own = some m.cls := hown ▸ findClass_of_methodNamed B.named
  have C : Cx G nL (p, l, e, RMB d kb zb, s, m, as.toArray, below, meth, c, 0, 0) own cc d := ⟨B.exec, B.bytes, hml, hown2, fun w h => hts w (List.mem_cons_of_mem _ h), hK, hG, B.notSynchronized, Nat.le_refl _, Nat.le_refl _, Nat.zero_le _, Nat.zero_le _⟩
  have hl9 := lv_entry as hsl
  subst hsz
  have K := body _ C B.returns rfl rfl rfl rfl x hx s.heap [] _ hP va_S.rf hl9
  rw [lg_entry_eq]
  exact K
theorem Cx.of {G G' : GG} {nL : Nat} {X : WX} {own : String} {cc : ByteArray} {d : Nat} (C : Cx G nL X own cc d) (h : WK G' (xs X)) (hG : Gok G') : Cx G' nL X own cc d := ⟨C.1, C.2.1, C.2.2.1, C.2.2.2.1, C.2.2.2.2.1, h, hG, C.2.2.2.2.2.2.2⟩
abbrev z0 : Nat → Int32 := fun _ => 0
def f_L_isSwept (c : VC) (v0 : VRw) (a1 : Int32) : Option (Int32 × VC) := f_L_isSwept_i (c, (z0, z0, z0, z0, z0)) v0 a1
set_option maxRecDepth 100000 in
set_option maxHeartbeats 4000000 in
theorem c_L_isSwept {G : GG} {l : Launch} {sa : Nat → Nat} (hG : Gok G) (hN9 : G.2.2 1000 = 119) {w : VW} (c : VC) (v0 : VRw) (a1 : Int32) {x : Int32 × VC} (hf : f_L_isSwept c v0 a1 = some x) : CtB l yL_isSwept cL_isSwept 10 (some .boolean) 9 [.ref (G.2.2 0), .int a1, .ref (G.2.2 (114 + 0)), .ref (G.2.2 (114 + (1 + 0)))] G sa (c, sRw w 0 v0) (some (.int x.1)) (x.2, sRw w 0 v0) 5 186 := by
  refine cta_of (rv := fun x : Int32 × VC => (some (.int x.1))) (fin := fun x : Int32 × VC => ((x.2, sRw w 0 v0) : VA)) (own := RL) hG (plainFor_of_name (by decide)) rfl (Nat.le_of_ble_eq_true rfl) (fun X C hr hc hs hk0 hz0 => ?_) hf
  intro x hx H locs ls hP hS hl
  have hA : ∀ q, (xs X).heap.size ≤ q → AA G (xs X).heap.size q := fun q h => Or.inr h
  have K : JW G (AA G (xs X).heap.size) 10 X (QB G X 5 186 (fun x : Int32 × VC => (some (.int x.1))) (fun x : Int32 × VC => ((x.2, sRw w 0 v0) : VA)) x) (wld G (c, sRw w 0 v0)) 0 [(0, .ref (G.2.2 0)), (1, .int a1), (2, .ref (G.2.2 (114 + 0))), (3, .ref (G.2.2 (114 + (1 + 0))))] [] := by
    refine jw_bipush (v := 10) C 0 dL_isSwept_0 rfl ?_
    refine jw_newa (N' := 10) C hA 2 (by decide) (by decide) (by decide) (by omega) (by omega) dL_isSwept_2 (fun q0 => ?_)
    have C1 := C.add (k := 1) (z := 10) (by omega) (by omega)
    refine jw_ws (wld_push (q := q0) hN9 (by omega) (by omega)) ?_
    refine jw_astore (L1 := [(4, .ref q0), (0, .ref (G.2.2 0)), (1, .int a1), (2, .ref (G.2.2 (114 + 0))), (3, .ref (G.2.2 (114 + (1 + 0))))]) C1 4 dL_isSwept_4 (by decide) rfl ?_
    refine jw_bipush (v := 32) C1 6 dL_isSwept_6 rfl ?_
    refine jw_newa (N' := 32) C1 hA 8 (by decide) (by decide) (by decide) (by show xk X + 1 + 1 ≤ _; change _ ≤ (xR X).cells; omega) (by show xz X + 10 + 32 ≤ _; change _ ≤ (xR X).slots; omega) dL_isSwept_8 (fun q1 => ?_)
    have C2 := C1.add (k := 1) (z := 32) (by show xk X + 1 + 1 ≤ _; change _ ≤ (xR X).cells; omega) (by show xz X + 10 + 32 ≤ _; change _ ≤ (xR X).slots; omega)
    refine jw_ws (wld_push (G := gPush G 119 q0) (q := q1) (N := 120) (gPush_n _ _ _) (by omega) (by omega)) ?_
    refine jw_astore (L1 := [(5, .ref q1), (4, .ref q0), (0, .ref (G.2.2 0)), (1, .int a1), (2, .ref (G.2.2 (114 + 0))), (3, .ref (G.2.2 (114 + (1 + 0))))]) C2 10 dL_isSwept_10 (by decide) rfl ?_
    refine jw_bipush (v := 48) C2 12 dL_isSwept_12 rfl ?_
    refine jw_newa (N' := 48) C2 hA 14 (by decide) (by decide) (by decide) (by show xk X + 1 + 1 + 1 ≤ _; change _ ≤ (xR X).cells; omega) (by show xz X + 10 + 32 + 48 ≤ _; change _ ≤ (xR X).slots; omega) dL_isSwept_14 (fun q2 => ?_)
    have C3 := C2.add (k := 1) (z := 48) (by show xk X + 1 + 1 + 1 ≤ _; change _ ≤ (xR X).cells; omega) (by show xz X + 10 + 32 + 48 ≤ _; change _ ≤ (xR X).slots; omega)
    refine jw_ws (wld_push (G := gPush (gPush G 119 q0) 120 q1) (q := q2) (N := 121) (gPush_n _ _ _) (by omega) (by omega)) ?_
    refine jw_astore (L1 := [(6, .ref q2), (5, .ref q1), (4, .ref q0), (0, .ref (G.2.2 0)), (1, .int a1), (2, .ref (G.2.2 (114 + 0))), (3, .ref (G.2.2 (114 + (1 + 0))))]) C3 16 dL_isSwept_16 (by decide) rfl ?_
    refine jw_bipush (v := 48) C3 18 dL_isSwept_18 rfl ?_
    refine jw_newa (N' := 48) C3 hA 20 (by decide) (by decide) (by decide) (by show xk X + 1 + 1 + 1 + 1 ≤ _; change _ ≤ (xR X).cells; omega) (by show xz X + 10 + 32 + 48 + 48 ≤ _; change _ ≤ (xR X).slots; omega) dL_isSwept_20 (fun q3 => ?_)
    have C4 := C3.add (k := 1) (z := 48) (by show xk X + 1 + 1 + 1 + 1 ≤ _; change _ ≤ (xR X).cells; omega) (by show xz X + 10 + 32 + 48 + 48 ≤ _; change _ ≤ (xR X).slots; omega)
    refine jw_ws (wld_push (G := gPush (gPush (gPush G 119 q0) 120 q1) 121 q2) (q := q3) (N := 122) (gPush_n _ _ _) (by omega) (by omega)) ?_
    refine jw_astore (L1 := [(7, .ref q3), (6, .ref q2), (5, .ref q1), (4, .ref q0), (0, .ref (G.2.2 0)), (1, .int a1), (2, .ref (G.2.2 (114 + 0))), (3, .ref (G.2.2 (114 + (1 + 0))))]) C4 22 dL_isSwept_22 (by decide) rfl ?_
    refine jw_bipush (v := 48) C4 24 dL_isSwept_24 rfl ?_
    refine jw_newa (N' := 48) C4 hA 26 (by decide) (by decide) (by decide) (by show xk X + 1 + 1 + 1 + 1 + 1 ≤ _; change _ ≤ (xR X).cells; omega) (by show xz X + 10 + 32 + 48 + 48 + 48 ≤ _; change _ ≤ (xR X).slots; omega) dL_isSwept_26 (fun q4 => ?_)
    have C5 := C4.add (k := 1) (z := 48) (by show xk X + 1 + 1 + 1 + 1 + 1 ≤ _; change _ ≤ (xR X).cells; omega) (by show xz X + 10 + 32 + 48 + 48 + 48 ≤ _; change _ ≤ (xR X).slots; omega)
    refine jw_ws (wld_push (G := gPush (gPush (gPush (gPush G 119 q0) 120 q1) 121 q2) 122 q3) (q := q4) (N := 123) (gPush_n _ _ _) (by omega) (by omega)) ?_
    refine jw_astore (L1 := [(8, .ref q4), (7, .ref q3), (6, .ref q2), (5, .ref q1), (4, .ref q0), (0, .ref (G.2.2 0)), (1, .int a1), (2, .ref (G.2.2 (114 + 0))), (3, .ref (G.2.2 (114 + (1 + 0))))]) C5 28 dL_isSwept_28 (by decide) rfl ?_
    refine jw_L (L' := [(0, .ref (G.2.2 0)), (1, .int a1), (2, .ref (G.2.2 (114 + 0))), (3, .ref (G.2.2 (114 + (1 + 0)))), (4, .ref q0), (5, .ref q1), (6, .ref q2), (7, .ref q3), (8, .ref q4)]) [5, 6, 7, 8, 4, 3, 2, 1, 0] rfl ?_
    generalize hG5 : gPush (gPush (gPush (gPush (gPush G 119 q0) 120 q1) 121 q2) 122 q3) 123 q4 = G5
    have g0 : G5.1 = G.1 := by subst hG5; rfl
    have g1 : G5.2.1 = G.2.1 := by subst hG5; rfl
    have gN : nG G5 = 124 := by subst hG5; rfl
    have gs : ∀ i, i < 119 → G5.2.2 i = G.2.2 i := by
      intro i hi
      subst hG5
      show va_up (va_up (va_up (va_up (va_up (va_up (va_up (va_up (va_up (va_up G.2.2 119 q0) 1000 120) 120 q1) 1000 121) 121 q2) 1000 122) 122 q3) 1000 123) 123 q4) 1000 124 i = _
      rw [va_up_ne _ _ (by omega), va_up_ne _ _ (by omega), va_up_ne _ _ (by omega), va_up_ne _ _ (by omega), va_up_ne _ _ (by omega), va_up_ne _ _ (by omega), va_up_ne _ _ (by omega), va_up_ne _ _ (by omega), va_up_ne _ _ (by omega), va_up_ne _ _ (by omega)]
    have ga0 : G5.2.2 (114 + 5) = q0 := by subst hG5; rfl
    have ga1 : G5.2.2 (114 + (1 + 5)) = q1 := by subst hG5; rfl
    have ga2 : G5.2.2 (114 + (2 + 5)) = q2 := by subst hG5; rfl
    have ga3 : G5.2.2 (114 + (3 + 5)) = q3 := by subst hG5; rfl
    have ga4 : G5.2.2 (114 + (4 + 5)) = q4 := by subst hG5; rfl
    have hWK : WK G5 (xs X) := by
      have h := C.2.2.2.2.2.1
      subst hG5
      exact h
    clear hG5
    rw [← gs 0 (by omega), ← gs (114 + 0) (by omega), ← gs (114 + (1 + 0)) (by omega), ← ga0, ← ga1, ← ga2, ← ga3, ← ga4]
    refine jw_in (X := xadd (xadd (xadd (xadd (xadd X 1 10) 1 32) 1 48) 1 48) 1 48) (A := AA G (xs X).heap.size) (V' := (c, sRw (sRw w 0 v0) 5 (z0, z0, z0, z0, z0))) (Q := QB G X 5 186 (fun x : Int32 × VC => (some (.int x.1))) (fun x : Int32 × VC => ((x.2, sRw w 0 v0) : VA))) rfl hx g0 hN9 (by omega) gs (fun hok hge => ?_)
    have C6 := Cx.of C5 hWK hok
    exact w_L_isSwept (Nat.le_of_eq gN.symm) C6 hr (c, (z0, z0, z0, z0, z0)) v0 (fun x v p L hd hn => jr_out (ρ := Int32 × VC) (G := G) (kb := 5) (zb := 186) (rv := fun x : Int32 × VC => (some (.int x.1))) (fin := fun x : Int32 × VC => ((x.2, sRw w 0 v0) : VA)) (x := (x, v.1)) (V' := (v.1, sRw (sRw w 0 v0) 5 v.2)) C6 g0 g1 hN9 (by omega) gs hge (by show xk X + 1 + 1 + 1 + 1 + 1 ≤ 5; omega) (by show xz X + 10 + 32 + 48 + 48 + 48 ≤ 186; omega) rfl (fun j hj => sRw_ne (sRw w 0 v0) v.2 (Or.inl hj)) p hr hn rfl hd) a1
  exact K H locs ls hP (wld_D hG _ _) hS hl
def f_L_isChange (c : VC) (v0 : VRw) : Option Int32 := f_L_isChange_i z0 c v0
set_option maxRecDepth 100000 in
set_option maxHeartbeats 4000000 in
theorem c_L_isChange {G : GG} {l : Launch} {sa : Nat → Nat} (hG : Gok G) (hN9 : G.2.2 1000 = 119) {w : VW} (c : VC) (v0 : VRw) {x : Int32} (hf : f_L_isChange c v0 = some x) : CtB l yL_isChange cL_isChange 10 (some .boolean) 5 [.ref (G.2.2 0), .ref (G.2.2 (114 + (1 + 0)))] G sa (c, sRw w 0 v0) (some (.int x)) (c, sRw w 0 v0) 1 4 := by
  refine cta_of (rv := fun x : Int32 => (some (.int x))) (fin := fun x : Int32 => ((c, sRw w 0 v0) : VA)) (own := RL) hG (plainFor_of_name (by decide)) rfl (Nat.le_of_ble_eq_true rfl) (fun X C hr hc hs hk0 hz0 => ?_) hf
  intro x hx H locs ls hP hS hl
  have hA : ∀ q, (xs X).heap.size ≤ q → AA G (xs X).heap.size q := fun q h => Or.inr h
  have K : JW G (AA G (xs X).heap.size) 10 X (QB G X 1 4 (fun x : Int32 => (some (.int x))) (fun x : Int32 => ((c, sRw w 0 v0) : VA)) x) (wld G (c, sRw w 0 v0)) 0 [(0, .ref (G.2.2 0)), (1, .ref (G.2.2 (114 + (1 + 0))))] [] := by
    refine jw_iconst (v := 4) C 0 dL_isChange_0 rfl ?_
    refine jw_newa (N' := 4) C hA 1 (by decide) (by decide) (by decide) (by omega) (by omega) dL_isChange_1 (fun q0 => ?_)
    have C1 := C.add (k := 1) (z := 4) (by omega) (by omega)
    refine jw_ws (wld_push (q := q0) hN9 (by omega) (by omega)) ?_
    refine jw_astore_n (L1 := [(2, .ref q0), (0, .ref (G.2.2 0)), (1, .ref (G.2.2 (114 + (1 + 0))))]) C1 3 rfl dL_isChange_3 (by decide) rfl ?_
    refine jw_L (L' := [(0, .ref (G.2.2 0)), (1, .ref (G.2.2 (114 + (1 + 0)))), (2, .ref q0)]) [1, 2, 0] rfl ?_
    generalize hG5 : gPush G 119 q0 = G5
    have g0 : G5.1 = G.1 := by subst hG5; rfl
    have g1 : G5.2.1 = G.2.1 := by subst hG5; rfl
    have gN : nG G5 = 120 := by subst hG5; rfl
    have gs : ∀ i, i < 119 → G5.2.2 i = G.2.2 i := by
      intro i hi
      subst hG5
      show va_up (va_up G.2.2 119 q0) 1000 120 i = _
      rw [va_up_ne _ _ (by omega), va_up_ne _ _ (by omega)]
    have ga0 : G5.2.2 119 = q0 := by subst hG5; rfl
    have hWK : WK G5 (xs X) := by
      have h := C.2.2.2.2.2.1
      subst hG5
      exact h
    clear hG5
    rw [← gs 0 (by omega), ← gs (114 + (1 + 0)) (by omega), ← ga0]
    refine jw_in (X := xadd X 1 4) (A := AA G (xs X).heap.size) (V' := (c, va_up (sRw w 0 v0) 5 (4, z0))) (Q := QB G X 1 4 (fun x : Int32 => (some (.int x))) (fun x : Int32 => ((c, sRw w 0 v0) : VA))) rfl hx g0 hN9 (by omega) gs (fun hok hge => ?_)
    have C6 := Cx.of C1 hWK hok
    exact w_L_isChange (Nat.le_of_eq gN.symm) C6 hr z0 c v0 (fun x v p L hd hn => jr_out (ρ := Int32) (G := G) (kb := 1) (zb := 4) (rv := fun x : Int32 => (some (.int x))) (fin := fun x : Int32 => ((c, sRw w 0 v0) : VA)) (x := x) (V' := (c, va_up (sRw w 0 v0) 5 (4, v))) C6 g0 g1 hN9 (by omega) gs hge (by show xk X + 1 ≤ 1; omega) (by show xz X + 4 ≤ 4; omega) rfl (fun j hj => va_up_ne (sRw w 0 v0) (4, v) (Nat.ne_of_lt hj)) p hr hn rfl hd)
  exact K H locs ls hP (wld_D hG _ _) hS hl
