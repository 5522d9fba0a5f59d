-- ===== the walk's context =====
abbrev GG : Type := va_G × (Nat → ClassId) × (Nat → Nat)
abbrev WX : Type := Program × Launch × Env × Room × State × MethodId × Array Value × List Frame × Method × Code × Nat × Nat
abbrev xp (X : WX) : Program := X.1
abbrev xl (X : WX) : Launch := X.2.1
abbrev xe (X : WX) : Env := X.2.2.1
abbrev xR (X : WX) : Room := X.2.2.2.1
abbrev xs (X : WX) : State := X.2.2.2.2.1
abbrev xm (X : WX) : MethodId := X.2.2.2.2.2.1
abbrev xa (X : WX) : Array Value := X.2.2.2.2.2.2.1
abbrev xb (X : WX) : List Frame := X.2.2.2.2.2.2.2.1
abbrev xM (X : WX) : Method := X.2.2.2.2.2.2.2.2.1
abbrev xc (X : WX) : Code := X.2.2.2.2.2.2.2.2.2.1
abbrev xk (X : WX) : Nat := X.2.2.2.2.2.2.2.2.2.2.1
abbrev xz (X : WX) : Nat := X.2.2.2.2.2.2.2.2.2.2.2
abbrev xW (X : WX) (H : Heap) (locs : List Loc) (Q : State → Prop) (g : JFrame) : Prop := W (xp X) (xl X) (xe X) (xR X) (xs X) (xm X) (xa X) (xb X) (xM X) (xc X) H locs (xk X) (xz X) Q g
abbrev nG (G : GG) : Nat := G.2.2 1000
def wld (G : GG) (V : VA) : va_W := (List.range (nG G)).map (fun i => (G.2.2 i, cellA G.2.1 G.2.2 V i))
def tysG (G : GG) : List (ClassId × FieldType) := [(G.2.1 0, .int), (G.2.1 1, .boolean), (G.2.1 2, .object "StickPairs$State")]
def Gok (G : GG) : Prop := 119 ≤ nG G ∧ ∀ i j, i < nG G → j < nG G → G.2.2 i = G.2.2 j → i = j
theorem nG_lt {G : GG} (h : Gok G) {q : Nat} (hq : q < 119) : q < nG G := Nat.lt_of_lt_of_le hq h.1
def AA (G : GG) (sz : Nat) : Nat → Prop := fun q => (∃ i, i < nG G ∧ q = G.2.2 i) ∨ sz ≤ q
def nestW : List Cond := (tables_1.filter (fun w => match w with
  | .methodLinkNest .. => true
  | .fieldLinkNest .. => true
  | .castable .. => true
  | .declares .. => true
  | _ => false))
def WK (G : GG) (U : State) : Prop := va_K G.1 vwCl (tysG G) U ∧ ∀ w ∈ nestW, va_Nw w U
theorem nestW_warm {w : Cond} (h : w ∈ nestW) {s U : State} (hW : s.WarmedH U.vm) (hZ : va_Nw w s) : va_Nw w U := by
  have h2 := (List.mem_filter.mp h).2
  cases w <;> first | (simp at h2; done) | exact hZ.warmM hW | exact hZ.warmF hW | exact hZ.warmC hW | exact hZ.warmD hW
theorem nestW_tab {w : Cond} (h : w ∈ nestW) : w.onTables = true := by
  have h2 := (List.mem_filter.mp h).2
  cases w <;> first | (simp at h2; done) | rfl
theorem WK.warm {G : GG} {s U : State} (hW : s.WarmedH U.vm) (h : WK G s) : WK G U := ⟨va_K.moved hW.alike h.1, fun w hw => nestW_warm hw hW (h.2 w hw)⟩
theorem WK.call {G : GG} {U : State} (g : JFrame) (mk : MethodId) (a : Array Value) (h : WK G U) : WK G (U.calling g mk a) := ⟨va_K.moved (u := U) (U := U.calling g mk a) (Vm.Alike.refl U.vm) h.1, fun w hw => va_Nw.same (u := U) (U := U.calling g mk a) (nestW_tab hw) rfl (h.2 w hw)⟩
def Cx (G : GG) (nL : Nat) (X : WX) (own : String) (cc : ByteArray) (d : Nat) : Prop :=
  (xp X).tables.exec = Jvm.exec ∧ (xc X).code = cc ∧ (xc X).maxLocals = nL ∧ (xs X).vm.findClass own = some (xm X).cls ∧ (∀ w ∈ gw, w.before (xa X) (xs X) = true) ∧ WK G (xs X) ∧ Gok G ∧ (xM X).locks = false ∧ d ≤ (xR X).frames ∧ 35 * d ≤ (xR X).locals ∧ xk X ≤ (xR X).cells ∧ xz X ≤ (xR X).slots
theorem wld_at (G : GG) (V : VA) {i : Nat} (h : i < nG G) : (wld G V)[i]? = some (G.2.2 i, cellA G.2.1 G.2.2 V i) := by
  unfold wld
  rw [List.getElem?_map, List.getElem?_range h]; rfl
theorem wld_len (G : GG) (V : VA) : (wld G V).length = nG G := by unfold wld; rw [List.length_map, List.length_range]
theorem wld_lt {G : GG} {V : VA} {i : Nat} {q : Nat × va_E} (h : (wld G V)[i]? = some q) : i < nG G := by
  have := (List.getElem?_eq_some_iff.mp h).1
  rw [wld_len] at this
  exact this
theorem wld_fst {G : GG} {V : VA} {i : Nat} {q : Nat × va_E} (h : (wld G V)[i]? = some q) : q = (G.2.2 i, cellA G.2.1 G.2.2 V i) := by
  rw [wld_at G V (wld_lt h)] at h
  exact (Option.some.inj h).symm
theorem wld_D {G : GG} (hG : Gok G) (V : VA) (sz : Nat) : va_D (AA G sz) (wld G V) :=
  ⟨fun i j p q hi hj e => by
    have h1 := wld_fst hi
    have h2 := wld_fst hj
    subst h1; subst h2
    exact hG.2 i j (wld_lt hi) (wld_lt hj) e,
   fun k q h => by
    have h1 := wld_fst h
    subst h1
    exact Or.inl ⟨k, wld_lt h, rfl⟩⟩
theorem wld_set {G : GG} {V V' : VA} {i : Nat} {x : va_E} (hi : i < nG G) (h : ∀ j, j < nG G → va_up (cellA G.2.1 G.2.2 V) i x j = cellA G.2.1 G.2.2 V' j) : (wld G V).set i (G.2.2 i, x) = wld G V' := by
  apply List.ext_getElem?
  intro j
  rw [List.getElem?_set]
  by_cases hj : j < nG G
  · rw [wld_at G V' hj, ← h j hj]
    by_cases e : i = j
    · subst e
      rw [if_pos rfl, if_pos (by rw [wld_len]; exact hi), va_up_self]
    · rw [if_neg e, wld_at G V hj, va_up_ne _ _ (fun z => e z.symm)]
  · have h1 : (wld G V')[j]? = none := List.getElem?_eq_none (by rw [wld_len]; omega)
    have h2 : (wld G V)[j]? = none := List.getElem?_eq_none (by rw [wld_len]; omega)
    rw [h1, if_neg (by omega), h2]
-- ===== the judgement: from here on the machine comes to Q, for the result that the program's picture sp has (none: nothing is said) =====
def J (G : GG) (nL : Nat) (X : WX) (Q : State → Prop) (V : VA) (pc : Nat) (L : List (Nat × Value)) (st : List Value) : Prop :=
  ∀ (H : Heap) (locs : List Loc) (ls : Array Slot), va_P G.1 vwCl (wld G V) H → va_S (AA G (xs X).heap.size) (xs X).heap H locs → lv_has ls nL L → xW X H locs Q (F0 (xm X) pc ls st)
def JS {ρ : Type} (G : GG) (nL : Nat) (X : WX) (Q : ρ → State → Prop) (sp : Option ρ) (V : VA) (pc : Nat) (L : List (Nat × Value)) (st : List Value) : Prop :=
  ∀ x, sp = some x → J G nL X (Q x) V pc L st
def ard (n : Nat) (f : Nat → Int32) (i : Int32) : Option Int32 := if i < 0 ∨ n ≤ i.toNatClampNeg then none else some (f i.toNatClampNeg)
def aup (n : Nat) (f : Nat → Int32) (i x : Int32) : Option (Nat → Int32) := if i < 0 ∨ n ≤ i.toNatClampNeg then none else some (upd f i.toNatClampNeg x)
def aupz (n : Nat) (f : Nat → Int32) (i x : Int32) : Option (Nat → Int32) := if i < 0 ∨ n ≤ i.toNatClampNeg then none else some (upd f i.toNatClampNeg (vp_nar .boolean x))
def acp (n0 n1 : Nat) (f g : Nat → Int32) (sp dp n : Int32) : Option (Nat → Int32) :=
  if sp < 0 ∨ dp < 0 ∨ n < 0 ∨ n0 < sp.toNatClampNeg + n.toNatClampNeg ∨ n1 < dp.toNatClampNeg + n.toNatClampNeg then none else some (va_cpy f g sp.toNatClampNeg dp.toNatClampNeg n.toNatClampNeg)
def rdp (n : Nat) (f : Nat → Nat) (i : Int32) : Option Nat := if i < 0 ∨ n ≤ i.toNatClampNeg then none else if 2 ≤ f i.toNatClampNeg ∧ f i.toNatClampNeg < 8 then some (f i.toNatClampNeg) else none
def wrp (n : Nat) (f : Nat → Nat) (i : Int32) (x : Nat) : Option (Nat → Nat) := if i < 0 ∨ n ≤ i.toNatClampNeg then none else if x < 8 then some (va_up f i.toNatClampNeg x) else none
def bck (x : Int32) : Option Int32 := if x = 0 ∨ x = 1 then some x else none
def dck (x : UInt64) : Option UInt64 := if x &&& 0x7fffffffffffffff ≤ 0x7ff0000000000000 then some x else none
def fck (x : UInt32) : Option UInt32 := if x &&& 0x7fffffff ≤ 0x7f800000 then some x else none
theorem ard_in {n : Nat} {f : Nat → Int32} {i x : Int32} (h : ard n f i = some x) : vp_in i n ∧ x = f i.toNatClampNeg := by
  unfold ard at h
  split at h
  · cases h
  · next q => cases h; exact ⟨q, rfl⟩
theorem aup_in {n : Nat} {f g : Nat → Int32} {i x : Int32} (h : aup n f i x = some g) : vp_in i n ∧ g = upd f i.toNatClampNeg x := by
  unfold aup at h
  split at h
  · cases h
  · next q => cases h; exact ⟨q, rfl⟩
theorem aupz_in {n : Nat} {f g : Nat → Int32} {i x : Int32} (h : aupz n f i x = some g) : vp_in i n ∧ g = upd f i.toNatClampNeg (vp_nar .boolean x) := by
  unfold aupz at h
  split at h
  · cases h
  · next q => cases h; exact ⟨q, rfl⟩
theorem rdp_in {n : Nat} {f : Nat → Nat} {i : Int32} {x : Nat} (h : rdp n f i = some x) : vp_in i n ∧ x = f i.toNatClampNeg ∧ 2 ≤ x ∧ x < 8 := by
  unfold rdp at h
  split at h
  · cases h
  · next q =>
    split at h
    · next q2 => cases h; exact ⟨q, rfl, q2⟩
    · cases h
theorem wrp_in {n : Nat} {f g : Nat → Nat} {i : Int32} {x : Nat} (h : wrp n f i x = some g) : vp_in i n ∧ g = va_up f i.toNatClampNeg x ∧ x < 8 := by
  unfold wrp at h
  split at h
  · cases h
  · next q =>
    split at h
    · next q2 => cases h; exact ⟨q, rfl, q2⟩
    · cases h
section
variable {ρ : Type} {G : GG} {nL : Nat} {X : WX} {Q : ρ → State → Prop} {sp : Option ρ} {V : VA} {L : List (Nat × Value)} {st : List Value} {own : String} {cc : ByteArray} {d : Nat}
theorem j_none {pc : Nat} : JS G nL X Q none V pc L st := fun _ h => by cases h
theorem j_bind {α : Type} {f : Option α} {k : α → Option ρ} {pc : Nat} (h : ∀ a, f = some a → JS G nL X Q (k a) V pc L st) : JS G nL X Q (f.bind k) V pc L st := by
  intro x hx
  cases e : f with
  | none => rw [e] at hx; cases hx
  | some a => rw [e] at hx; exact h a e x hx
theorem j_V {V' : VA} {pc : Nat} (h : V = V') (k : JS G nL X Q sp V' pc L st) : JS G nL X Q sp V pc L st := h ▸ k
theorem j_L {L' : List (Nat × Value)} {pc : Nat} (ks : List Nat) (hl : lv_pick L ks = L') (k : JS G nL X Q sp V pc L' st) : JS G nL X Q sp V pc L st := fun x0 h0 H locs ls hP hS h => k x0 h0 H locs ls hP hS (lv_sub h ks hl)
theorem j_iconst (C : Cx G nL X own cc d) {n : Int} {v : Int32} (pc : Nat) (hd : decode cc pc = .ok (.iconst n, 1)) (hv : Int32.ofInt n = v)
    (k : JS G nL X Q sp V (pc + 1) L (.int v :: st)) : JS G nL X Q sp V pc L st :=
  fun x0 h0 H locs ls hP hS hl => lv_iconst C.1 C.2.1 hd hv (k x0 h0 H locs ls hP hS hl)
theorem j_bipush (C : Cx G nL X own cc d) {n : Int} {v : Int32} (pc : Nat) (hd : decode cc pc = .ok (.bipush n, 2)) (hv : (Int8.ofInt n).toInt32 = v)
    (k : JS G nL X Q sp V (pc + 2) L (.int v :: st)) : JS G nL X Q sp V pc L st :=
  fun x0 h0 H locs ls hP hS hl => lv_bipush C.1 C.2.1 hd hv (k x0 h0 H locs ls hP hS hl)
theorem j_sipush (C : Cx G nL X own cc d) {n : Int} {v : Int32} (pc : Nat) (hd : decode cc pc = .ok (.sipush n, 3)) (hv : (Int16.ofInt n).toInt32 = v)
    (k : JS G nL X Q sp V (pc + 3) L (.int v :: st)) : JS G nL X Q sp V pc L st :=
  fun x0 h0 H locs ls hP hS hl => lv_sipush C.1 C.2.1 hd hv (k x0 h0 H locs ls hP hS hl)
theorem j_lconst (C : Cx G nL X own cc d) {n : Fin 2} {v : Int64} (pc : Nat) (hd : decode cc pc = .ok (.lconst n, 1)) (hv : Int64.ofNat (n : Nat) = v)
    (k : JS G nL X Q sp V (pc + 1) L (.long v :: st)) : JS G nL X Q sp V pc L st :=
  fun x0 h0 H locs ls hP hS hl => lv_lconst C.1 C.2.1 hd hv (k x0 h0 H locs ls hP hS hl)
theorem j_iload_n (C : Cx G nL X own cc d) {n : Fin 4} {x : Int32} (pc : Nat) (q : Nat) (hq : L[q]? = some ((n : Nat), .int x)) (hd : decode cc pc = .ok (.iload_n n, 1))
    (k : JS G nL X Q sp V (pc + 1) L (.int x :: st)) : JS G nL X Q sp V pc L st :=
  fun x0 h0 H locs ls hP hS hl => lv_iload_n C.1 C.2.1 hd rfl (lv_at hl q hq) (k x0 h0 H locs ls hP hS hl)
theorem j_iload (C : Cx G nL X own cc d) {n : Nat} {x : Int32} (pc : Nat) (q : Nat) (hq : L[q]? = some (n, .int x)) (hd : decode cc pc = .ok (.iload n, 2))
    (k : JS G nL X Q sp V (pc + 2) L (.int x :: st)) : JS G nL X Q sp V pc L st :=
  fun x0 h0 H locs ls hP hS hl => lv_iload C.1 C.2.1 hd (lv_at hl q hq) (k x0 h0 H locs ls hP hS hl)
theorem j_lload_n (C : Cx G nL X own cc d) {n : Fin 4} {x : Int64} (pc : Nat) (q : Nat) (hq : L[q]? = some ((n : Nat), .long x)) (hd : decode cc pc = .ok (.lload_n n, 1))
    (k : JS G nL X Q sp V (pc + 1) L (.long x :: st)) : JS G nL X Q sp V pc L st :=
  fun x0 h0 H locs ls hP hS hl => lv_lload_n C.1 C.2.1 hd rfl (lv_at hl q hq) (k x0 h0 H locs ls hP hS hl)
theorem j_lload (C : Cx G nL X own cc d) {n : Nat} {x : Int64} (pc : Nat) (q : Nat) (hq : L[q]? = some (n, .long x)) (hd : decode cc pc = .ok (.lload n, 2))
    (k : JS G nL X Q sp V (pc + 2) L (.long x :: st)) : JS G nL X Q sp V pc L st :=
  fun x0 h0 H locs ls hP hS hl => lv_lload C.1 C.2.1 hd (lv_at hl q hq) (k x0 h0 H locs ls hP hS hl)
theorem j_fload_n (C : Cx G nL X own cc d) {n : Fin 4} {x : UInt32} (pc : Nat) (q : Nat) (hq : L[q]? = some ((n : Nat), .float x)) (hd : decode cc pc = .ok (.fload_n n, 1))
    (k : JS G nL X Q sp V (pc + 1) L (.float x :: st)) : JS G nL X Q sp V pc L st :=
  fun x0 h0 H locs ls hP hS hl => lv_fload_n C.1 C.2.1 hd rfl (lv_at hl q hq) (k x0 h0 H locs ls hP hS hl)
theorem j_fload (C : Cx G nL X own cc d) {n : Nat} {x : UInt32} (pc : Nat) (q : Nat) (hq : L[q]? = some (n, .float x)) (hd : decode cc pc = .ok (.fload n, 2))
    (k : JS G nL X Q sp V (pc + 2) L (.float x :: st)) : JS G nL X Q sp V pc L st :=
  fun x0 h0 H locs ls hP hS hl => lv_fload C.1 C.2.1 hd (lv_at hl q hq) (k x0 h0 H locs ls hP hS hl)
theorem j_dload_n (C : Cx G nL X own cc d) {n : Fin 4} {x : UInt64} (pc : Nat) (q : Nat) (hq : L[q]? = some ((n : Nat), .double x)) (hd : decode cc pc = .ok (.dload_n n, 1))
    (k : JS G nL X Q sp V (pc + 1) L (.double x :: st)) : JS G nL X Q sp V pc L st :=
  fun x0 h0 H locs ls hP hS hl => lv_dload_n C.1 C.2.1 hd rfl (lv_at hl q hq) (k x0 h0 H locs ls hP hS hl)
theorem j_dload (C : Cx G nL X own cc d) {n : Nat} {x : UInt64} (pc : Nat) (q : Nat) (hq : L[q]? = some (n, .double x)) (hd : decode cc pc = .ok (.dload n, 2))
    (k : JS G nL X Q sp V (pc + 2) L (.double x :: st)) : JS G nL X Q sp V pc L st :=
  fun x0 h0 H locs ls hP hS hl => lv_dload C.1 C.2.1 hd (lv_at hl q hq) (k x0 h0 H locs ls hP hS hl)
theorem j_aload_n (C : Cx G nL X own cc d) {n : Fin 4} {x : Nat} (pc : Nat) (q : Nat) (hq : L[q]? = some ((n : Nat), .ref x)) (hd : decode cc pc = .ok (.aload_n n, 1))
    (k : JS G nL X Q sp V (pc + 1) L (.ref x :: st)) : JS G nL X Q sp V pc L st :=
  fun x0 h0 H locs ls hP hS hl => lv_aload_n C.1 C.2.1 hd rfl (lv_at hl q hq) (k x0 h0 H locs ls hP hS hl)
theorem j_aload (C : Cx G nL X own cc d) {n : Nat} {x : Nat} (pc : Nat) (q : Nat) (hq : L[q]? = some (n, .ref x)) (hd : decode cc pc = .ok (.aload n, 2))
    (k : JS G nL X Q sp V (pc + 2) L (.ref x :: st)) : JS G nL X Q sp V pc L st :=
  fun x0 h0 H locs ls hP hS hl => lv_aload C.1 C.2.1 hd (lv_at hl q hq) (k x0 h0 H locs ls hP hS hl)
theorem j_istore_n (C : Cx G nL X own cc d) {n : Fin 4} {i : Nat} {x : Int32} {L1 : List (Nat × Value)} (pc : Nat) (hi : (n : Nat) = i) (hd : decode cc pc = .ok (.istore_n n, 1)) (hn : i < nL) (hl : (i, Value.int x) :: L.filter (fun q => !(q.1 == i) && !(q.1 + 1 == i && q.2.category == 2)) = L1)
    (k : JS G nL X Q sp V (pc + 1) L1 st) : JS G nL X Q sp V pc L (.int x :: st) :=
  fun x0 h0 H locs ls hP hS h => lv_istore_n C.1 C.2.1 hd hi h hn hl (fun ls1 h1 => k x0 h0 H locs ls1 hP hS h1)
theorem j_istore (C : Cx G nL X own cc d) {i : Nat} {x : Int32} {L1 : List (Nat × Value)} (pc : Nat) (hd : decode cc pc = .ok (.istore i, 2)) (hn : i < nL) (hl : (i, Value.int x) :: L.filter (fun q => !(q.1 == i) && !(q.1 + 1 == i && q.2.category == 2)) = L1)
    (k : JS G nL X Q sp V (pc + 2) L1 st) : JS G nL X Q sp V pc L (.int x :: st) :=
  fun x0 h0 H locs ls hP hS h => lv_istore C.1 C.2.1 hd h hn hl (fun ls1 h1 => k x0 h0 H locs ls1 hP hS h1)
theorem j_fstore_n (C : Cx G nL X own cc d) {n : Fin 4} {i : Nat} {x : UInt32} {L1 : List (Nat × Value)} (pc : Nat) (hi : (n : Nat) = i) (hd : decode cc pc = .ok (.fstore_n n, 1)) (hn : i < nL) (hl : (i, Value.float x) :: L.filter (fun q => !(q.1 == i) && !(q.1 + 1 == i && q.2.category == 2)) = L1)
    (k : JS G nL X Q sp V (pc + 1) L1 st) : JS G nL X Q sp V pc L (.float x :: st) :=
  fun x0 h0 H locs ls hP hS h => lv_fstore_n C.1 C.2.1 hd hi h hn hl (fun ls1 h1 => k x0 h0 H locs ls1 hP hS h1)
theorem j_fstore (C : Cx G nL X own cc d) {i : Nat} {x : UInt32} {L1 : List (Nat × Value)} (pc : Nat) (hd : decode cc pc = .ok (.fstore i, 2)) (hn : i < nL) (hl : (i, Value.float x) :: L.filter (fun q => !(q.1 == i) && !(q.1 + 1 == i && q.2.category == 2)) = L1)
    (k : JS G nL X Q sp V (pc + 2) L1 st) : JS G nL X Q sp V pc L (.float x :: st) :=
  fun x0 h0 H locs ls hP hS h => lv_fstore C.1 C.2.1 hd h hn hl (fun ls1 h1 => k x0 h0 H locs ls1 hP hS h1)
theorem j_astore_n (C : Cx G nL X own cc d) {n : Fin 4} {i : Nat} {x : Nat} {L1 : List (Nat × Value)} (pc : Nat) (hi : (n : Nat) = i) (hd : decode cc pc = .ok (.astore_n n, 1)) (hn : i < nL) (hl : (i, Value.ref x) :: L.filter (fun q => !(q.1 == i) && !(q.1 + 1 == i && q.2.category == 2)) = L1)
    (k : JS G nL X Q sp V (pc + 1) L1 st) : JS G nL X Q sp V pc L (.ref x :: st) :=
  fun x0 h0 H locs ls hP hS h => lv_astore_n C.1 C.2.1 hd hi h hn hl (fun ls1 h1 => k x0 h0 H locs ls1 hP hS h1)
theorem j_astore (C : Cx G nL X own cc d) {i : Nat} {x : Nat} {L1 : List (Nat × Value)} (pc : Nat) (hd : decode cc pc = .ok (.astore i, 2)) (hn : i < nL) (hl : (i, Value.ref x) :: L.filter (fun q => !(q.1 == i) && !(q.1 + 1 == i && q.2.category == 2)) = L1)
    (k : JS G nL X Q sp V (pc + 2) L1 st) : JS G nL X Q sp V pc L (.ref x :: st) :=
  fun x0 h0 H locs ls hP hS h => lv_astore C.1 C.2.1 hd h hn hl (fun ls1 h1 => k x0 h0 H locs ls1 hP hS h1)
theorem j_lstore_n (C : Cx G nL X own cc d) {n : Fin 4} {i : Nat} {x : Int64} {L1 : List (Nat × Value)} (pc : Nat) (hi : (n : Nat) = i) (hd : decode cc pc = .ok (.lstore_n n, 1)) (hn : i + 1 < nL) (hl : (i, Value.long x) :: L.filter (fun q => !(q.1 == i) && (!(q.1 == i + 1) && !(q.1 + 1 == i && q.2.category == 2))) = L1)
    (k : JS G nL X Q sp V (pc + 1) L1 st) : JS G nL X Q sp V pc L (.long x :: st) :=
  fun x0 h0 H locs ls hP hS h => lv_lstore_n C.1 C.2.1 hd hi h hn hl (fun ls1 h1 => k x0 h0 H locs ls1 hP hS h1)
theorem j_lstore (C : Cx G nL X own cc d) {i : Nat} {x : Int64} {L1 : List (Nat × Value)} (pc : Nat) (hd : decode cc pc = .ok (.lstore i, 2)) (hn : i + 1 < nL) (hl : (i, Value.long x) :: L.filter (fun q => !(q.1 == i) && (!(q.1 == i + 1) && !(q.1 + 1 == i && q.2.category == 2))) = L1)
    (k : JS G nL X Q sp V (pc + 2) L1 st) : JS G nL X Q sp V pc L (.long x :: st) :=
  fun x0 h0 H locs ls hP hS h => lv_lstore C.1 C.2.1 hd h hn hl (fun ls1 h1 => k x0 h0 H locs ls1 hP hS h1)
theorem j_dstore_n (C : Cx G nL X own cc d) {n : Fin 4} {i : Nat} {x : UInt64} {L1 : List (Nat × Value)} (pc : Nat) (hi : (n : Nat) = i) (hd : decode cc pc = .ok (.dstore_n n, 1)) (hn : i + 1 < nL) (hl : (i, Value.double x) :: L.filter (fun q => !(q.1 == i) && (!(q.1 == i + 1) && !(q.1 + 1 == i && q.2.category == 2))) = L1)
    (k : JS G nL X Q sp V (pc + 1) L1 st) : JS G nL X Q sp V pc L (.double x :: st) :=
  fun x0 h0 H locs ls hP hS h => lv_dstore_n C.1 C.2.1 hd hi h hn hl (fun ls1 h1 => k x0 h0 H locs ls1 hP hS h1)
theorem j_dstore (C : Cx G nL X own cc d) {i : Nat} {x : UInt64} {L1 : List (Nat × Value)} (pc : Nat) (hd : decode cc pc = .ok (.dstore i, 2)) (hn : i + 1 < nL) (hl : (i, Value.double x) :: L.filter (fun q => !(q.1 == i) && (!(q.1 == i + 1) && !(q.1 + 1 == i && q.2.category == 2))) = L1)
    (k : JS G nL X Q sp V (pc + 2) L1 st) : JS G nL X Q sp V pc L (.double x :: st) :=
  fun x0 h0 H locs ls hP hS h => lv_dstore C.1 C.2.1 hd h hn hl (fun ls1 h1 => k x0 h0 H locs ls1 hP hS h1)
theorem j_iinc (C : Cx G nL X own cc d) {i : Nat} {n : Int} {x v : Int32} {L1 : List (Nat × Value)} (pc : Nat) (q : Nat) (hq : L[q]? = some (i, .int x)) (hd : decode cc pc = .ok (.iinc i n, 3)) (hv : x + Int32.ofInt n = v) (hn : i < nL) (hl : (i, Value.int v) :: L.filter (fun q => !(q.1 == i) && !(q.1 + 1 == i && q.2.category == 2)) = L1)
    (k : JS G nL X Q sp V (pc + 3) L1 st) : JS G nL X Q sp V pc L st :=
  fun x0 h0 H locs ls hP hS h => lv_iinc C.1 C.2.1 hd h hq hv hn hl (fun ls1 h1 => k x0 h0 H locs ls1 hP hS h1)
theorem j_iadd (C : Cx G nL X own cc d) {x y : Int32} (pc : Nat) (hd : decode cc pc = .ok (.iadd, 1)) 
    (k : JS G nL X Q sp V (pc + 1) L (.int (x + y) :: st)) : JS G nL X Q sp V pc L (.int y :: .int x :: st) :=
  fun x0 h0 H locs ls hP hS hl => lv_iadd C.1 C.2.1 hd  (k x0 h0 H locs ls hP hS hl)
theorem j_isub (C : Cx G nL X own cc d) {x y : Int32} (pc : Nat) (hd : decode cc pc = .ok (.isub, 1)) 
    (k : JS G nL X Q sp V (pc + 1) L (.int (x - y) :: st)) : JS G nL X Q sp V pc L (.int y :: .int x :: st) :=
  fun x0 h0 H locs ls hP hS hl => lv_isub C.1 C.2.1 hd  (k x0 h0 H locs ls hP hS hl)
theorem j_imul (C : Cx G nL X own cc d) {x y : Int32} (pc : Nat) (hd : decode cc pc = .ok (.imul, 1)) 
    (k : JS G nL X Q sp V (pc + 1) L (.int (x * y) :: st)) : JS G nL X Q sp V pc L (.int y :: .int x :: st) :=
  fun x0 h0 H locs ls hP hS hl => lv_imul C.1 C.2.1 hd  (k x0 h0 H locs ls hP hS hl)
theorem j_iand (C : Cx G nL X own cc d) {x y : Int32} (pc : Nat) (hd : decode cc pc = .ok (.iand, 1)) 
    (k : JS G nL X Q sp V (pc + 1) L (.int (x &&& y) :: st)) : JS G nL X Q sp V pc L (.int y :: .int x :: st) :=
  fun x0 h0 H locs ls hP hS hl => lv_iand C.1 C.2.1 hd  (k x0 h0 H locs ls hP hS hl)
theorem j_ishr (C : Cx G nL X own cc d) {x y : Int32} (pc : Nat) (hd : decode cc pc = .ok (.ishr, 1)) 
    (k : JS G nL X Q sp V (pc + 1) L (.int (x >>> (y &&& 31)) :: st)) : JS G nL X Q sp V pc L (.int y :: .int x :: st) :=
  fun x0 h0 H locs ls hP hS hl => lv_ishr C.1 C.2.1 hd  (k x0 h0 H locs ls hP hS hl)
theorem j_idiv (C : Cx G nL X own cc d) {x y : Int32} (pc : Nat) (hd : decode cc pc = .ok (.idiv, 1)) (hn : ¬ y = 0)
    (k : JS G nL X Q sp V (pc + 1) L (.int (x / y) :: st)) : JS G nL X Q sp V pc L (.int y :: .int x :: st) :=
  fun x0 h0 H locs ls hP hS hl => lv_idiv C.1 C.2.1 hd hn (k x0 h0 H locs ls hP hS hl)
theorem j_irem (C : Cx G nL X own cc d) {x y : Int32} (pc : Nat) (hd : decode cc pc = .ok (.irem, 1)) (hn : ¬ y = 0)
    (k : JS G nL X Q sp V (pc + 1) L (.int (x - x / y * y) :: st)) : JS G nL X Q sp V pc L (.int y :: .int x :: st) :=
  fun x0 h0 H locs ls hP hS hl => lv_irem C.1 C.2.1 hd hn (k x0 h0 H locs ls hP hS hl)
theorem j_ladd (C : Cx G nL X own cc d) {x y : Int64} (pc : Nat) (hd : decode cc pc = .ok (.ladd, 1)) 
    (k : JS G nL X Q sp V (pc + 1) L (.long (x + y) :: st)) : JS G nL X Q sp V pc L (.long y :: .long x :: st) :=
  fun x0 h0 H locs ls hP hS hl => lv_ladd C.1 C.2.1 hd  (k x0 h0 H locs ls hP hS hl)
theorem j_lmul (C : Cx G nL X own cc d) {x y : Int64} (pc : Nat) (hd : decode cc pc = .ok (.lmul, 1)) 
    (k : JS G nL X Q sp V (pc + 1) L (.long (x * y) :: st)) : JS G nL X Q sp V pc L (.long y :: .long x :: st) :=
  fun x0 h0 H locs ls hP hS hl => lv_lmul C.1 C.2.1 hd  (k x0 h0 H locs ls hP hS hl)
theorem j_lshl (C : Cx G nL X own cc d) {x : Int64} {y : Int32} (pc : Nat) (hd : decode cc pc = .ok (.lshl, 1)) 
    (k : JS G nL X Q sp V (pc + 1) L (.long (x <<< (y.toInt64 &&& 63)) :: st)) : JS G nL X Q sp V pc L (.int y :: .long x :: st) :=
  fun x0 h0 H locs ls hP hS hl => lv_lshl C.1 C.2.1 hd rfl (k x0 h0 H locs ls hP hS hl)
theorem j_i2l (C : Cx G nL X own cc d) {x : Int32} (pc : Nat) (hd : decode cc pc = .ok (.i2l, 1)) 
    (k : JS G nL X Q sp V (pc + 1) L (.long x.toInt64 :: st)) : JS G nL X Q sp V pc L (.int x :: st) :=
  fun x0 h0 H locs ls hP hS hl => lv_i2l C.1 C.2.1 hd rfl (k x0 h0 H locs ls hP hS hl)
theorem j_i2f (C : Cx G nL X own cc d) {x : Int32} (pc : Nat) (hd : decode cc pc = .ok (.i2f, 1)) 
    (k : JS G nL X Q sp V (pc + 1) L (.float (FP.i2f x) :: st)) : JS G nL X Q sp V pc L (.int x :: st) :=
  fun x0 h0 H locs ls hP hS hl => lv_i2f C.1 C.2.1 hd  (k x0 h0 H locs ls hP hS hl)
theorem j_i2d (C : Cx G nL X own cc d) {x : Int32} (pc : Nat) (hd : decode cc pc = .ok (.i2d, 1)) 
    (k : JS G nL X Q sp V (pc + 1) L (.double (FP.i2d x) :: st)) : JS G nL X Q sp V pc L (.int x :: st) :=
  fun x0 h0 H locs ls hP hS hl => lv_i2d C.1 C.2.1 hd  (k x0 h0 H locs ls hP hS hl)
theorem j_d2l (C : Cx G nL X own cc d) {x : UInt64} (pc : Nat) (hd : decode cc pc = .ok (.d2l, 1)) 
    (k : JS G nL X Q sp V (pc + 1) L (.long (FP.d2l x) :: st)) : JS G nL X Q sp V pc L (.double x :: st) :=
  fun x0 h0 H locs ls hP hS hl => lv_d2l C.1 C.2.1 hd  (k x0 h0 H locs ls hP hS hl)
theorem j_dconst0 (C : Cx G nL X own cc d) (pc : Nat) (hd : decode cc pc = .ok (.dconst 0, 1)) 
    (k : JS G nL X Q sp V (pc + 1) L (.double FP.dconst0 :: st)) : JS G nL X Q sp V pc L st :=
  fun x0 h0 H locs ls hP hS hl => lv_dconst0 C.1 C.2.1 hd  (k x0 h0 H locs ls hP hS hl)
theorem j_dconst1 (C : Cx G nL X own cc d) (pc : Nat) (hd : decode cc pc = .ok (.dconst 1, 1)) 
    (k : JS G nL X Q sp V (pc + 1) L (.double FP.dconst1 :: st)) : JS G nL X Q sp V pc L st :=
  fun x0 h0 H locs ls hP hS hl => lv_dconst1 C.1 C.2.1 hd  (k x0 h0 H locs ls hP hS hl)
theorem j_fconst0 (C : Cx G nL X own cc d) (pc : Nat) (hd : decode cc pc = .ok (.fconst 0, 1)) 
    (k : JS G nL X Q sp V (pc + 1) L (.float FP.fconst0 :: st)) : JS G nL X Q sp V pc L st :=
  fun x0 h0 H locs ls hP hS hl => lv_fconst0 C.1 C.2.1 hd  (k x0 h0 H locs ls hP hS hl)
theorem j_dcmp (C : Cx G nL X own cc d) {x y : UInt64} {op : CmpOp} (pc : Nat) (hd : decode cc pc = .ok (.dcmp op, 1)) 
    (k : JS G nL X Q sp V (pc + 1) L (.int (Op.cmpValue (FP.dcmp x y) op) :: st)) : JS G nL X Q sp V pc L (.double y :: .double x :: st) :=
  fun x0 h0 H locs ls hP hS hl => lv_dcmp C.1 C.2.1 hd  (k x0 h0 H locs ls hP hS hl)
theorem j_dup (C : Cx G nL X own cc d) {a : Value} (pc : Nat) (hd : decode cc pc = .ok (.dup, 1)) (ha : a.category = 1)
    (k : JS G nL X Q sp V (pc + 1) L (a :: a :: st)) : JS G nL X Q sp V pc L (a :: st) :=
  fun x0 h0 H locs ls hP hS hl => lv_dup C.1 C.2.1 hd ha (k x0 h0 H locs ls hP hS hl)
theorem j_pop (C : Cx G nL X own cc d) {a : Value} (pc : Nat) (hd : decode cc pc = .ok (.pop, 1)) (ha : a.category = 1)
    (k : JS G nL X Q sp V (pc + 1) L st) : JS G nL X Q sp V pc L (a :: st) :=
  fun x0 h0 H locs ls hP hS hl => lv_pop C.1 C.2.1 hd ha (k x0 h0 H locs ls hP hS hl)
theorem j_dup2 (C : Cx G nL X own cc d) {a b : Value} (pc : Nat) (hd : decode cc pc = .ok (.dup2, 1)) (ha : a.category = 1) (hb : b.category = 1)
    (k : JS G nL X Q sp V (pc + 1) L (a :: b :: a :: b :: st)) : JS G nL X Q sp V pc L (a :: b :: st) :=
  fun x0 h0 H locs ls hP hS hl => lv_dup2_11 C.1 C.2.1 hd ha hb (k x0 h0 H locs ls hP hS hl)
theorem dck_in {x y : UInt64} (h : dck x = some y) : vf_n64 x ∧ y = x := by
  unfold dck at h
  split at h
  · next q => cases h; exact ⟨q, rfl⟩
  · cases h
theorem fck_in {x y : UInt32} (h : fck x = some y) : vf_n32 x ∧ y = x := by
  unfold fck at h
  split at h
  · next q => cases h; exact ⟨q, rfl⟩
  · cases h
theorem j_dadd (C : Cx G nL X own cc d) {x y r : UInt64} (pc : Nat) (hr : dck (FP.dadd x y) = some r) (hd : decode cc pc = .ok (.dadd, 1))
    (k : JS G nL X Q sp V (pc + 1) L (.double r :: st)) : JS G nL X Q sp V pc L (.double y :: .double x :: st) :=
  fun x0 h0 H locs ls hP hS hl => lv_dadd C.1 C.2.1 hd (dck_in hr).1 (by rw [← (dck_in hr).2]; exact k x0 h0 H locs ls hP hS hl)
theorem j_dsub (C : Cx G nL X own cc d) {x y r : UInt64} (pc : Nat) (hr : dck (FP.dsub x y) = some r) (hd : decode cc pc = .ok (.dsub, 1))
    (k : JS G nL X Q sp V (pc + 1) L (.double r :: st)) : JS G nL X Q sp V pc L (.double y :: .double x :: st) :=
  fun x0 h0 H locs ls hP hS hl => lv_dsub C.1 C.2.1 hd (dck_in hr).1 (by rw [← (dck_in hr).2]; exact k x0 h0 H locs ls hP hS hl)
theorem j_dmul (C : Cx G nL X own cc d) {x y r : UInt64} (pc : Nat) (hr : dck (FP.dmul x y) = some r) (hd : decode cc pc = .ok (.dmul, 1))
    (k : JS G nL X Q sp V (pc + 1) L (.double r :: st)) : JS G nL X Q sp V pc L (.double y :: .double x :: st) :=
  fun x0 h0 H locs ls hP hS hl => lv_dmul C.1 C.2.1 hd (dck_in hr).1 (by rw [← (dck_in hr).2]; exact k x0 h0 H locs ls hP hS hl)
theorem j_ddiv (C : Cx G nL X own cc d) {x y r : UInt64} (pc : Nat) (hr : dck (FP.ddiv x y) = some r) (hd : decode cc pc = .ok (.ddiv, 1))
    (k : JS G nL X Q sp V (pc + 1) L (.double r :: st)) : JS G nL X Q sp V pc L (.double y :: .double x :: st) :=
  fun x0 h0 H locs ls hP hS hl => lv_ddiv C.1 C.2.1 hd (dck_in hr).1 (by rw [← (dck_in hr).2]; exact k x0 h0 H locs ls hP hS hl)
theorem j_fdiv (C : Cx G nL X own cc d) {x y r : UInt32} (pc : Nat) (hr : fck (FP.fdiv x y) = some r) (hd : decode cc pc = .ok (.fdiv, 1))
    (k : JS G nL X Q sp V (pc + 1) L (.float r :: st)) : JS G nL X Q sp V pc L (.float y :: .float x :: st) :=
  fun x0 h0 H locs ls hP hS hl => lv_fdiv C.1 C.2.1 hd (fck_in hr).1 (by rw [← (fck_in hr).2]; exact k x0 h0 H locs ls hP hS hl)
theorem j_f2d (C : Cx G nL X own cc d) {x : UInt32} {r : UInt64} (pc : Nat) (hr : dck (FP.f2d x) = some r) (hd : decode cc pc = .ok (.f2d, 1))
    (k : JS G nL X Q sp V (pc + 1) L (.double r :: st)) : JS G nL X Q sp V pc L (.float x :: st) :=
  fun x0 h0 H locs ls hP hS hl => lv_f2d C.1 C.2.1 hd (dck_in hr).1 (by rw [← (dck_in hr).2]; exact k x0 h0 H locs ls hP hS hl)
theorem j_ldc2 (C : Cx G nL X own cc d) {n : Nat} {v : Int64} (pc : Nat) (hd : decode cc pc = .ok (.ldc2_w n, 3)) (hw : Cond.constantLong own n v ∈ gw)
    (k : JS G nL X Q sp V (pc + 3) L (.long v :: st)) : JS G nL X Q sp V pc L st :=
  fun x0 h0 H locs ls hP hS hl => lv_ldc2 C.1 C.2.1 C.2.2.2.1 (C.2.2.2.2.1 _ hw) hd (k x0 h0 H locs ls hP hS hl)
theorem j_ldc2d (C : Cx G nL X own cc d) {n : Nat} {v : UInt64} (pc : Nat) (hd : decode cc pc = .ok (.ldc2_w n, 3)) (hw : Cond.constantDouble own n v ∈ gw)
    (k : JS G nL X Q sp V (pc + 3) L (.double v :: st)) : JS G nL X Q sp V pc L st :=
  fun x0 h0 H locs ls hP hS hl => lv_ldc2d C.1 C.2.1 C.2.2.2.1 (C.2.2.2.2.1 _ hw) hd (k x0 h0 H locs ls hP hS hl)
theorem j_ldc (C : Cx G nL X own cc d) {n : Nat} {v : Int32} (pc : Nat) (hd : decode cc pc = .ok (.ldc n, 2)) (hw : Cond.constant own n v ∈ gw)
    (k : JS G nL X Q sp V (pc + 2) L (.int v :: st)) : JS G nL X Q sp V pc L st :=
  fun x0 h0 H locs ls hP hS hl => lv_ldc C.1 C.2.1 C.2.2.2.1 (C.2.2.2.2.1 _ hw) hd (k x0 h0 H locs ls hP hS hl)
theorem j_icmp_lt (C : Cx G nL X own cc d) {x y : Int32} {off : Int} {A B : Option ρ} (pc : Nat) (tgt : Nat) (hd : decode cc pc = .ok (.if_icmp .lt off, 3)) (ht : (pc : Int) + off = (tgt : Int))
    (kA : x < y → JS G nL X Q A V tgt L st) (kB : ¬ x < y → JS G nL X Q B V (pc + 3) L st) : JS G nL X Q (if x < y then A else B) V pc L (.int y :: .int x :: st) := by
  intro x0 h0 H locs ls hP hS hl
  by_cases hc : x < y
  · rw [if_pos hc] at h0
    exact lv_icmp_lt C.1 C.2.1 hd ht (fun z => kA hc x0 h0 H locs ls hP hS hl) (fun z => absurd hc z)
  · rw [if_neg hc] at h0
    exact lv_icmp_lt C.1 C.2.1 hd ht (fun z => absurd z hc) (fun z => kB hc x0 h0 H locs ls hP hS hl)
theorem j_icmp_gt (C : Cx G nL X own cc d) {x y : Int32} {off : Int} {A B : Option ρ} (pc : Nat) (tgt : Nat) (hd : decode cc pc = .ok (.if_icmp .gt off, 3)) (ht : (pc : Int) + off = (tgt : Int))
    (kA : y < x → JS G nL X Q A V tgt L st) (kB : ¬ y < x → JS G nL X Q B V (pc + 3) L st) : JS G nL X Q (if y < x then A else B) V pc L (.int y :: .int x :: st) := by
  intro x0 h0 H locs ls hP hS hl
  by_cases hc : y < x
  · rw [if_pos hc] at h0
    exact lv_icmp_gt C.1 C.2.1 hd ht (fun z => kA hc x0 h0 H locs ls hP hS hl) (fun z => absurd hc z)
  · rw [if_neg hc] at h0
    exact lv_icmp_gt C.1 C.2.1 hd ht (fun z => absurd z hc) (fun z => kB hc x0 h0 H locs ls hP hS hl)
theorem j_icmp_eq (C : Cx G nL X own cc d) {x y : Int32} {off : Int} {A B : Option ρ} (pc : Nat) (tgt : Nat) (hd : decode cc pc = .ok (.if_icmp .eq off, 3)) (ht : (pc : Int) + off = (tgt : Int))
    (kA : x = y → JS G nL X Q A V tgt L st) (kB : ¬ x = y → JS G nL X Q B V (pc + 3) L st) : JS G nL X Q (if x = y then A else B) V pc L (.int y :: .int x :: st) := by
  intro x0 h0 H locs ls hP hS hl
  by_cases hc : x = y
  · rw [if_pos hc] at h0
    exact lv_icmp_eq C.1 C.2.1 hd ht (fun z => kA hc x0 h0 H locs ls hP hS hl) (fun z => absurd hc z)
  · rw [if_neg hc] at h0
    exact lv_icmp_eq C.1 C.2.1 hd ht (fun z => absurd z hc) (fun z => kB hc x0 h0 H locs ls hP hS hl)
theorem j_icmp_ge (C : Cx G nL X own cc d) {x y : Int32} {off : Int} {A B : Option ρ} (pc : Nat) (tgt : Nat) (hd : decode cc pc = .ok (.if_icmp .ge off, 3)) (ht : (pc : Int) + off = (tgt : Int))
    (kA : x < y → JS G nL X Q A V (pc + 3) L st) (kB : ¬ x < y → JS G nL X Q B V tgt L st) : JS G nL X Q (if x < y then A else B) V pc L (.int y :: .int x :: st) := by
  intro x0 h0 H locs ls hP hS hl
  by_cases hc : x < y
  · rw [if_pos hc] at h0
    exact lv_icmp_ge C.1 C.2.1 hd ht (fun z => absurd z (Int32.not_le.mpr hc)) (fun z => kA hc x0 h0 H locs ls hP hS hl)
  · rw [if_neg hc] at h0
    exact lv_icmp_ge C.1 C.2.1 hd ht (fun z => kB hc x0 h0 H locs ls hP hS hl) (fun z => absurd (Int32.not_le.mp z) hc)
theorem j_icmp_le (C : Cx G nL X own cc d) {x y : Int32} {off : Int} {A B : Option ρ} (pc : Nat) (tgt : Nat) (hd : decode cc pc = .ok (.if_icmp .le off, 3)) (ht : (pc : Int) + off = (tgt : Int))
    (kA : y < x → JS G nL X Q A V (pc + 3) L st) (kB : ¬ y < x → JS G nL X Q B V tgt L st) : JS G nL X Q (if y < x then A else B) V pc L (.int y :: .int x :: st) := by
  intro x0 h0 H locs ls hP hS hl
  by_cases hc : y < x
  · rw [if_pos hc] at h0
    exact lv_icmp_le C.1 C.2.1 hd ht (fun z => absurd z (Int32.not_le.mpr hc)) (fun z => kA hc x0 h0 H locs ls hP hS hl)
  · rw [if_neg hc] at h0
    exact lv_icmp_le C.1 C.2.1 hd ht (fun z => kB hc x0 h0 H locs ls hP hS hl) (fun z => absurd (Int32.not_le.mp z) hc)
theorem j_icmp_ne (C : Cx G nL X own cc d) {x y : Int32} {off : Int} {A B : Option ρ} (pc : Nat) (tgt : Nat) (hd : decode cc pc = .ok (.if_icmp .ne off, 3)) (ht : (pc : Int) + off = (tgt : Int))
    (kA : x = y → JS G nL X Q A V (pc + 3) L st) (kB : ¬ x = y → JS G nL X Q B V tgt L st) : JS G nL X Q (if x = y then A else B) V pc L (.int y :: .int x :: st) := by
  intro x0 h0 H locs ls hP hS hl
  by_cases hc : x = y
  · rw [if_pos hc] at h0
    exact lv_icmp_ne C.1 C.2.1 hd ht (fun z => absurd z (fun w => w hc)) (fun z => kA hc x0 h0 H locs ls hP hS hl)
  · rw [if_neg hc] at h0
    exact lv_icmp_ne C.1 C.2.1 hd ht (fun z => kB hc x0 h0 H locs ls hP hS hl) (fun z => absurd z hc)
theorem j_if_eq (C : Cx G nL X own cc d) {x : Int32} {off : Int} {A B : Option ρ} (pc : Nat) (tgt : Nat) (hd : decode cc pc = .ok (.ifCond .eq off, 3)) (ht : (pc : Int) + off = (tgt : Int))
    (kA : x = 0 → JS G nL X Q A V tgt L st) (kB : ¬ x = 0 → JS G nL X Q B V (pc + 3) L st) : JS G nL X Q (if x = 0 then A else B) V pc L (.int x :: st) := by
  intro x0 h0 H locs ls hP hS hl
  by_cases hc : x = 0
  · rw [if_pos hc] at h0
    exact lv_if_eq C.1 C.2.1 hd ht (fun z => kA hc x0 h0 H locs ls hP hS hl) (fun z => absurd hc z)
  · rw [if_neg hc] at h0
    exact lv_if_eq C.1 C.2.1 hd ht (fun z => absurd z hc) (fun z => kB hc x0 h0 H locs ls hP hS hl)
theorem j_if_lt (C : Cx G nL X own cc d) {x : Int32} {off : Int} {A B : Option ρ} (pc : Nat) (tgt : Nat) (hd : decode cc pc = .ok (.ifCond .lt off, 3)) (ht : (pc : Int) + off = (tgt : Int))
    (kA : x < 0 → JS G nL X Q A V tgt L st) (kB : ¬ x < 0 → JS G nL X Q B V (pc + 3) L st) : JS G nL X Q (if x < 0 then A else B) V pc L (.int x :: st) := by
  intro x0 h0 H locs ls hP hS hl
  by_cases hc : x < 0
  · rw [if_pos hc] at h0
    exact lv_if_lt C.1 C.2.1 hd ht (fun z => kA hc x0 h0 H locs ls hP hS hl) (fun z => absurd hc z)
  · rw [if_neg hc] at h0
    exact lv_if_lt C.1 C.2.1 hd ht (fun z => absurd z hc) (fun z => kB hc x0 h0 H locs ls hP hS hl)
theorem j_if_gt (C : Cx G nL X own cc d) {x : Int32} {off : Int} {A B : Option ρ} (pc : Nat) (tgt : Nat) (hd : decode cc pc = .ok (.ifCond .gt off, 3)) (ht : (pc : Int) + off = (tgt : Int))
    (kA : 0 < x → JS G nL X Q A V tgt L st) (kB : ¬ 0 < x → JS G nL X Q B V (pc + 3) L st) : JS G nL X Q (if 0 < x then A else B) V pc L (.int x :: st) := by
  intro x0 h0 H locs ls hP hS hl
  by_cases hc : 0 < x
  · rw [if_pos hc] at h0
    exact lv_if_gt C.1 C.2.1 hd ht (fun z => kA hc x0 h0 H locs ls hP hS hl) (fun z => absurd hc z)
  · rw [if_neg hc] at h0
    exact lv_if_gt C.1 C.2.1 hd ht (fun z => absurd z hc) (fun z => kB hc x0 h0 H locs ls hP hS hl)
theorem j_if_ne (C : Cx G nL X own cc d) {x : Int32} {off : Int} {A B : Option ρ} (pc : Nat) (tgt : Nat) (hd : decode cc pc = .ok (.ifCond .ne off, 3)) (ht : (pc : Int) + off = (tgt : Int))
    (kA : x = 0 → JS G nL X Q A V (pc + 3) L st) (kB : ¬ x = 0 → JS G nL X Q B V tgt L st) : JS G nL X Q (if x = 0 then A else B) V pc L (.int x :: st) := by
  intro x0 h0 H locs ls hP hS hl
  by_cases hc : x = 0
  · rw [if_pos hc] at h0
    exact lv_if_ne C.1 C.2.1 hd ht (fun z => absurd z (fun w => w hc)) (fun z => kA hc x0 h0 H locs ls hP hS hl)
  · rw [if_neg hc] at h0
    exact lv_if_ne C.1 C.2.1 hd ht (fun z => kB hc x0 h0 H locs ls hP hS hl) (fun z => absurd z hc)
theorem j_if_ge (C : Cx G nL X own cc d) {x : Int32} {off : Int} {A B : Option ρ} (pc : Nat) (tgt : Nat) (hd : decode cc pc = .ok (.ifCond .ge off, 3)) (ht : (pc : Int) + off = (tgt : Int))
    (kA : x < 0 → JS G nL X Q A V (pc + 3) L st) (kB : ¬ x < 0 → JS G nL X Q B V tgt L st) : JS G nL X Q (if x < 0 then A else B) V pc L (.int x :: st) := by
  intro x0 h0 H locs ls hP hS hl
  by_cases hc : x < 0
  · rw [if_pos hc] at h0
    exact lv_if_ge C.1 C.2.1 hd ht (fun z => absurd z (Int32.not_le.mpr hc)) (fun z => kA hc x0 h0 H locs ls hP hS hl)
  · rw [if_neg hc] at h0
    exact lv_if_ge C.1 C.2.1 hd ht (fun z => kB hc x0 h0 H locs ls hP hS hl) (fun z => absurd (Int32.not_le.mp z) hc)
theorem j_if_le (C : Cx G nL X own cc d) {x : Int32} {off : Int} {A B : Option ρ} (pc : Nat) (tgt : Nat) (hd : decode cc pc = .ok (.ifCond .le off, 3)) (ht : (pc : Int) + off = (tgt : Int))
    (kA : 0 < x → JS G nL X Q A V (pc + 3) L st) (kB : ¬ 0 < x → JS G nL X Q B V tgt L st) : JS G nL X Q (if 0 < x then A else B) V pc L (.int x :: st) := by
  intro x0 h0 H locs ls hP hS hl
  by_cases hc : 0 < x
  · rw [if_pos hc] at h0
    exact lv_if_le C.1 C.2.1 hd ht (fun z => absurd z (Int32.not_le.mpr hc)) (fun z => kA hc x0 h0 H locs ls hP hS hl)
  · rw [if_neg hc] at h0
    exact lv_if_le C.1 C.2.1 hd ht (fun z => kB hc x0 h0 H locs ls hP hS hl) (fun z => absurd (Int32.not_le.mp z) hc)
theorem j_goto (C : Cx G nL X own cc d) {off : Int} (pc tgt : Nat) (hd : decode cc pc = .ok (.goto off, 3)) (ht : (pc : Int) + off = (tgt : Int)) (k : JS G nL X Q sp V tgt L st) : JS G nL X Q sp V pc L st :=
  fun x0 h0 H locs ls hP hS hl => lv_goto C.1 C.2.1 hd ht (k x0 h0 H locs ls hP hS hl)
theorem j_ifnull (C : Cx G nL X own cc d) {off : Int} {x : Nat} (pc : Nat) (hd : decode cc pc = .ok (.ifnull off, 3)) (k : JS G nL X Q sp V (pc + 3) L st) : JS G nL X Q sp V pc L (.ref x :: st) :=
  fun x0 h0 H locs ls hP hS hl => lv_ifnull C.1 C.2.1 hd (k x0 h0 H locs ls hP hS hl)
theorem j_iald (C : Cx G nL X own cc d) {n : Nat} {f : Nat → Int32} {i x : Int32} {a : Nat} (pc q : Nat) (hq : q < nG G) (ha : a = G.2.2 q) (hc : cellA G.2.1 G.2.2 V q = cI (G.2.1 0) n f) (hr : ard n f i = some x) (hd : decode cc pc = .ok (.iaload, 1))
    (k : JS G nL X Q sp V (pc + 1) L (.int x :: st)) : JS G nL X Q sp V pc L (.int i :: .ref a :: st) := by
  intro x0 h0 H locs ls hP hS hl
  obtain ⟨hin, rfl⟩ := ard_in hr
  subst ha
  exact va_iald C.1 C.2.1 C.2.2.2.2.2.1.1 hP q 0 (by rw [wld_at G V hq, hc]) rfl hin hd (k x0 h0 H locs ls hP hS hl)
theorem j_zald (C : Cx G nL X own cc d) {n : Nat} {f : Nat → Int32} {i x : Int32} {a : Nat} (pc q : Nat) (hq : q < nG G) (ha : a = G.2.2 q) (hc : cellA G.2.1 G.2.2 V q = cI (G.2.1 1) n f) (hr : ard n f i = some x) (hd : decode cc pc = .ok (.baload, 1))
    (k : JS G nL X Q sp V (pc + 1) L (.int x :: st)) : JS G nL X Q sp V pc L (.int i :: .ref a :: st) := by
  intro x0 h0 H locs ls hP hS hl
  obtain ⟨hin, rfl⟩ := ard_in hr
  subst ha
  exact va_zald C.1 C.2.1 C.2.2.2.2.2.1.1 hP q 1 (by rw [wld_at G V hq, hc]) rfl hin hd (k x0 h0 H locs ls hP hS hl)
theorem j_aald (C : Cx G nL X own cc d) {v : VSp} {i : Int32} {a x : Nat} (pc : Nat) (ha : a = G.2.2 1) (hc : cellA G.2.1 G.2.2 V 1 = cSv G.2.1 G.2.2 v) (hr : rdp 6 v.2.2 i = some x) (hd : decode cc pc = .ok (.aaload, 1))
    (k : JS G nL X Q sp V (pc + 1) L (.ref (G.2.2 (6 + 2 * x)) :: st)) : JS G nL X Q sp V pc L (.int i :: .ref a :: st) := by
  intro x0 h0 H locs ls hP hS hl
  obtain ⟨hin, rfl, -, hx8⟩ := rdp_in hr
  subst ha
  have k2 : JS G nL X Q sp V (pc + 1) L (.ref (G.2.2 (6 + 2 * min (v.2.2 i.toNatClampNeg) 7)) :: st) := by rw [Nat.min_eq_left (by omega)]; exact k
  clear k
  have k := k2
  exact va_aldq (f := fun i => some (G.2.2 (6 + 2 * min (v.2.2 i) 7))) C.1 C.2.1 C.2.2.2.2.2.1.1 hP 1 2 (by rw [wld_at G V (nG_lt C.2.2.2.2.2.2.1 (by omega)), hc]; rfl) rfl hin hd (k x0 h0 H locs ls hP hS hl)
theorem j_iast (C : Cx G nL X own cc d) {n : Nat} {f g : Nat → Int32} {i x : Int32} {a : Nat} {V1 : VA} (pc q : Nat) (hq : q < nG G) (ha : a = G.2.2 q) (hc : cellA G.2.1 G.2.2 V q = cI (G.2.1 0) n f) (hr : aup n f i x = some g) (hu : ∀ j, j < nG G → va_up (cellA G.2.1 G.2.2 V) q (cI (G.2.1 0) n g) j = cellA G.2.1 G.2.2 V1 j) (hd : decode cc pc = .ok (.iastore, 1))
    (k : JS G nL X Q sp V1 (pc + 1) L st) : JS G nL X Q sp V pc L (.int x :: .int i :: .ref a :: st) := by
  intro x0 h0 H locs ls hP hS hl
  obtain ⟨hin, rfl⟩ := aup_in hr
  subst ha
  exact va_iast C.1 C.2.1 C.2.2.2.2.2.1.1 hP (wld_D C.2.2.2.2.2.2.1 V _) hS q 0 (by rw [wld_at G V hq, hc]) rfl hin hd (fun H1 locs1 hP1 _ hS1 => k x0 h0 H1 locs1 ls (by rw [← wld_set hq hu]; exact hP1) hS1 hl)
theorem j_zast (C : Cx G nL X own cc d) {n : Nat} {f g : Nat → Int32} {i x : Int32} {a : Nat} {V1 : VA} (pc q : Nat) (hq : q < nG G) (ha : a = G.2.2 q) (hc : cellA G.2.1 G.2.2 V q = cI (G.2.1 1) n f) (hr : aupz n f i x = some g) (hu : ∀ j, j < nG G → va_up (cellA G.2.1 G.2.2 V) q (cI (G.2.1 1) n g) j = cellA G.2.1 G.2.2 V1 j) (hd : decode cc pc = .ok (.bastore, 1))
    (k : JS G nL X Q sp V1 (pc + 1) L st) : JS G nL X Q sp V pc L (.int x :: .int i :: .ref a :: st) := by
  intro x0 h0 H locs ls hP hS hl
  obtain ⟨hin, rfl⟩ := aupz_in hr
  subst ha
  exact va_zast C.1 C.2.1 C.2.2.2.2.2.1.1 hP (wld_D C.2.2.2.2.2.2.1 V _) hS q 1 (by rw [wld_at G V hq, hc]) rfl hin hd (fun H1 locs1 hP1 _ hS1 => k x0 h0 H1 locs1 ls (by rw [← wld_set hq hu]; exact hP1) hS1 hl)
theorem j_alen (C : Cx G nL X own cc d) {n : Nat} {f : Nat → Int32} {a : Nat} {v : Int32} (pc q : Nat) (hq : q < nG G) (ha : a = G.2.2 q) (hc : cellA G.2.1 G.2.2 V q = cI (G.2.1 0) n f) (hv : Int32.ofNat n = v) (hd : decode cc pc = .ok (.arraylength, 1))
    (k : JS G nL X Q sp V (pc + 1) L (.int v :: st)) : JS G nL X Q sp V pc L (.ref a :: st) := by
  intro x0 h0 H locs ls hP hS hl
  subst ha
  exact va_alen C.1 C.2.1 C.2.2.2.2.2.1.1 hP q 0 (by rw [wld_at G V hq, hc]) rfl hv hd (k x0 h0 H locs ls hP hS hl)
/-- a field is read: by the class's number, its place there -/
theorem j_get (C : Cx G nL X own cc d) {ci n N index a : Nat} {CN ref : String} {T : u_T} {fs : List Value} {v : Value} (pc q : Nat) (hq : q < nG G) (ha : a = G.2.2 q) (hc : cellA G.2.1 G.2.2 V q = .inr (ci, fs)) (hcl : vwCl[ci]? = some (CN, T, N)) (hin : ∀ w ∈ u_ws CN T N, w ∈ gw) (hk : n < N) (hlink : Cond.fieldLink own index CN (T n).2.1 (T n).2.2.1 ∈ gw) (hT : (T n).1 = CN) (hv : fs[n]? = some v) (hd : decode cc pc = .ok (.getfield index, 3))
    (k : JS G nL X Q sp V (pc + 3) L (v :: st)) : JS G nL X Q sp V pc L (.ref a :: st) := by
  intro x0 h0 H locs ls hP hS hl
  subst ha
  exact va_get C.1 C.2.1 C.2.2.2.2.1 hin C.2.2.2.1 C.2.2.2.2.2.1.1 hP q (by rw [wld_at G V hq, hc]) hcl n hk (C.2.2.2.2.1 _ hlink) (fun x h => by rw [hT] at h; exact h) hv hd (k x0 h0 H locs ls hP hS hl)
theorem j_getN (C : Cx G nL X own cc d) {ci n N index a : Nat} {CN ref host : String} {T : u_T} {fs : List Value} {v : Value} (pc q : Nat) (hq : q < nG G) (ha : a = G.2.2 q) (hc : cellA G.2.1 G.2.2 V q = .inr (ci, fs)) (hcl : vwCl[ci]? = some (CN, T, N)) (hin : ∀ w ∈ u_ws CN T N, w ∈ gw) (hk : n < N) (hlink : Cond.fieldLinkNest own index CN (T n).2.1 (T n).2.2.1 host ∈ nestW) (hT : (T n).1 = CN) (hv : fs[n]? = some v) (hd : decode cc pc = .ok (.getfield index, 3))
    (k : JS G nL X Q sp V (pc + 3) L (v :: st)) : JS G nL X Q sp V pc L (.ref a :: st) := by
  intro x0 h0 H locs ls hP hS hl
  subst ha
  exact va_getN C.1 C.2.1 C.2.2.2.2.1 hin C.2.2.2.1 C.2.2.2.2.2.1.1 hP q (by rw [wld_at G V hq, hc]) hcl n hk ((C.2.2.2.2.2.1.2 _ hlink).use rfl) (fun x h => by rw [hT] at h; exact h) hv hd (k x0 h0 H locs ls hP hS hl)
theorem j_put (C : Cx G nL X own cc d) {ci n N index a : Nat} {CN : String} {T : u_T} {ty0 : Nat → FieldType} {ty : FieldType} {fs : List Value} {v : Value} {V1 : VA} (pc q : Nat) (hq : q < nG G) (ha : a = G.2.2 q) (hc : cellA G.2.1 G.2.2 V q = .inr (ci, fs)) (hcl : vwCl[ci]? = some (CN, T, N)) (hin : ∀ w ∈ u_ws CN T N, w ∈ gw) (hty : ∀ k, k < N → parseFieldDescriptor (T k).2.2.1 = some (ty0 k)) (hnm : ∀ a, a < N → ∀ b, b < N → a ≠ b → (T a).2.1 ≠ (T b).2.1)
    (hk : n < N) (hlink : Cond.fieldLink own index CN (T n).2.1 (T n).2.2.1 ∈ gw) (hT : (T n).1 = CN) (hfin : (T n).2.2.2 = false) (htd : ty0 n = ty) (hnv : narrow ty v = v) (hfit : fits ty v = true) (hl0 : n < fs.length) (hu : ∀ j, j < nG G → va_up (cellA G.2.1 G.2.2 V) q (.inr (ci, fs.set n v)) j = cellA G.2.1 G.2.2 V1 j) (hd : decode cc pc = .ok (.putfield index, 3))
    (k : JS G nL X Q sp V1 (pc + 3) L st) : JS G nL X Q sp V pc L (v :: .ref a :: st) := by
  intro x0 h0 H locs ls hP hS hl
  subst ha
  exact va_put C.1 C.2.1 C.2.2.2.2.1 hin ty0 hty hnm C.2.2.2.1 C.2.2.2.2.2.1.1 hP (wld_D C.2.2.2.2.2.2.1 V _) hS q (by rw [wld_at G V hq, hc]) hcl n hk (C.2.2.2.2.1 _ hlink) (fun x h => by rw [hT] at h; exact h) hfin (by rw [hty n hk, htd]) hnv hfit hl0 hd (fun H1 locs1 hP1 _ hS1 => k x0 h0 H1 locs1 ls (by rw [← wld_set hq hu]; exact hP1) hS1 hl)
end
-- ===== contracts =====
abbrev RM (d : Nat) : Room := { frames := d, cells := 0, slots := 0, locals := 35 * d }
def PcW (G : GG) (V : VA) (sz : Nat) : State → Prop := fun U => U.heap.size = sz ∧ va_P G.1 vwCl (wld G V) U.heap ∧ WK G U
def QR (G : GG) (sz : Nat) (rv : Option Value) (V : VA) : Array Value → State → Outcome → State → Prop := fun _ st oc t => (oc = .returned rv ∧ va_P G.1 vwCl (wld G V) t.heap) ∧ va_F (AA G sz) st t
def Ct (l : Launch) (y : MethodName) (cc : ByteArray) (nL : Nat) (ret : Option FieldType) (d : Nat) (as : List Value) (G : GG) (V : VA) (rv : Option Value) (V1 : VA) : Prop :=
  ∀ sz, Met l y (gws y cc nL ret) (RM d) (va_Pc as (PcW G V sz)) (QR G sz rv V1) 0 0 (AA G sz)
def QM {ρ : Type} (G : GG) (X : WX) (rv : ρ → Option Value) (fin : ρ → VA) (x : ρ) : State → Prop := MQ (xb X) (QR G (xs X).heap.size (rv x) (fin x)) (xa X) (xs X) (xk X) (xz X) (AA G (xs X).heap.size)
theorem ct_of {ρ : Type} {l : Launch} {y : MethodName} {cc : ByteArray} {nL : Nat} {ret : Option FieldType} {d : Nat} {as : List Value} {G : GG} {V : VA} {rv : ρ → Option Value} {fin : ρ → VA} {sp : Option ρ} {own : String}
    (hG : Gok G) (hy : plainFor y = true) (hown : y.cls = own) (hsl : (lg_sl as).length ≤ nL)
    (body : ∀ X : WX, Cx G nL X own cc d → (xM X).sig.returnType = ret → xl X = l → JS G nL X (QM G X rv fin) sp V 0 (lv_args 0 as) []) {x : ρ} (hx : sp = some x) : Ct l y cc nL ret d as G V (rv x) (fin x) := by
  intro sz
  refine va_MetF (cc := cc) (maxL := nL) (ret := ret) hy rfl ?_
  intro p e s m args below meth c s₁ B hml hv
  obtain ⟨rfl, hsz, hP, hK⟩ := hv
  have hts := atoms_spec (ws := gws y cc nL ret) B.pre
  have hown2 : s.vm.findClass own = some m.cls := hown ▸ findClass_of_methodNamed B.named
  have C : Cx G nL (p, l, e, RM d, s, m, as.toArray, below, meth, c, 0, 0) own cc d := ⟨B.exec, B.bytes, hml, hown2, fun w h => hts w (List.mem_cons_of_mem _ h), hK, hG, B.notSynchronized, Nat.le_refl _, Nat.le_refl _, Nat.le_refl _, Nat.le_refl _⟩
  have hl := lv_entry as hsl
  subst hsz
  have K := body _ C B.returns rfl x hx s.heap [] _ hP va_S.rf hl
  rw [lg_entry_eq]
  exact K
section
variable {ρ : Type} {G : GG} {nL : Nat} {X : WX} {rv : ρ → Option Value} {fin : ρ → VA} {x : ρ} {V : VA} {L : List (Nat × Value)} {st : List Value} {own : String} {cc : ByteArray} {d : Nat}
theorem q_end {H : Heap} {locs : List Loc} {r : Option Value} (hrv : rv x = r) (hf : fin x = V) (hP : va_P G.1 vwCl (wld G V) H) (hS : va_S (AA G (xs X).heap.size) (xs X).heap H locs) : ∀ t : State, t.heap = H → (xs X).WarmedH t.vm → QR G (xs X).heap.size (rv x) (fin x) (xa X) (xs X) (.returned r) t :=
  fun t ht _ => ⟨⟨by rw [hrv], by rw [hf, ht]; exact hP⟩, hS.F ht⟩
theorem j_iret (C : Cx G nL X own cc d) {v : Int32} (pc : Nat) (hr : (xM X).sig.returnType = some .int) (hrv : rv x = some (.int v)) (hf : fin x = V) (hd : decode cc pc = .ok (.ireturn, 1)) : JS G nL X (QM G X rv fin) (some x) V pc L [.int v] := by
  intro x0 h0 H locs ls hP hS hl
  cases h0
  exact W.iret C.1 C.2.1 hr (q_end hrv hf hP hS) hS.2.2 hd C.2.2.2.2.2.2.2.1
theorem j_zret (C : Cx G nL X own cc d) {v : Int32} (pc : Nat) (hr : (xM X).sig.returnType = some .boolean) (hn : narrow .boolean (.int v) = .int v) (hrv : rv x = some (.int v)) (hf : fin x = V) (hd : decode cc pc = .ok (.ireturn, 1)) : JS G nL X (QM G X rv fin) (some x) V pc L [.int v] := by
  intro x0 h0 H locs ls hP hS hl
  cases h0
  exact W.zret C.1 C.2.1 hr hn (q_end hrv hf hP hS) hS.2.2 hd C.2.2.2.2.2.2.2.1
theorem j_lret (C : Cx G nL X own cc d) {v : Int64} (pc : Nat) (hr : (xM X).sig.returnType = some .long) (hrv : rv x = some (.long v)) (hf : fin x = V) (hd : decode cc pc = .ok (.lreturn, 1)) : JS G nL X (QM G X rv fin) (some x) V pc L [.long v] := by
  intro x0 h0 H locs ls hP hS hl
  cases h0
  exact W.lret C.1 C.2.1 hr (q_end hrv hf hP hS) hS.2.2 hd C.2.2.2.2.2.2.2.1
theorem j_fret (C : Cx G nL X own cc d) {v : UInt32} (pc : Nat) (hr : (xM X).sig.returnType = some .float) (hrv : rv x = some (.float v)) (hf : fin x = V) (hd : decode cc pc = .ok (.freturn, 1)) : JS G nL X (QM G X rv fin) (some x) V pc L [.float v] := by
  intro x0 h0 H locs ls hP hS hl
  cases h0
  exact W.fret C.1 C.2.1 hr (q_end hrv hf hP hS) hS.2.2 hd C.2.2.2.2.2.2.2.1
theorem j_dret (C : Cx G nL X own cc d) {v : UInt64} (pc : Nat) (hr : (xM X).sig.returnType = some .double) (hrv : rv x = some (.double v)) (hf : fin x = V) (hd : decode cc pc = .ok (.dreturn, 1)) : JS G nL X (QM G X rv fin) (some x) V pc L [.double v] := by
  intro x0 h0 H locs ls hP hS hl
  cases h0
  exact W.dret C.1 C.2.1 hr (q_end hrv hf hP hS) hS.2.2 hd C.2.2.2.2.2.2.2.1
theorem j_vret (C : Cx G nL X own cc d) (pc : Nat) (hr : (xM X).sig.returnType = none) (hrv : rv x = none) (hf : fin x = V) (hd : decode cc pc = .ok (.return_, 1)) : JS G nL X (QM G X rv fin) (some x) V pc L [] := by
  intro x0 h0 H locs ls hP hS hl
  cases h0
  exact W.vret C.1 C.2.1 hr (q_end hrv hf hP hS) hS.2.2 hd C.2.2.2.2.2.2.2.1
theorem bck_in {x y : Int32} (h : bck x = some y) : narrow .boolean (.int y) = .int y ∧ y = x := by
  unfold bck at h
  split at h
  · next q => cases h; rcases q with q | q <;> (subst q; exact ⟨rfl, rfl⟩)
  · cases h
end
-- ===== calls =====
section
variable {ρ : Type} {G : GG} {nL : Nat} {X : WX} {Q : ρ → State → Prop} {sp : Option ρ} {V V1 V2 : VA} {L : List (Nat × Value)} {st : List Value} {own : String} {cc : ByteArray} {d d1 : Nat}
variable {y : MethodName} {bytes : ByteArray} {maxL index n : Nat} {ret : Option FieldType} {As : List Value} {rv : Option Value}
/-- what a callee's own words are, and its name's plainness -/
def KY (y : MethodName) (bytes : ByteArray) (maxL : Nat) (ret : Option FieldType) (n : Nat) : Prop :=
  Cond.code y bytes maxL ret ∈ gw ∧ Cond.initialized y.cls ∈ gw ∧ maxL ≤ 16 ∧ (y.cls ≠ "java/lang/invoke/MethodHandle" ∧ y.cls ≠ "java/lang/invoke/VarHandle" ∧ (parseMethodDescriptor y.desc).map (fun d => d.parameters.length) = some n)
theorem fb_PcW (as : List Value) (sz : Nat) : FrameBlind (va_Pc as (PcW G V sz)) := fun a U g mk q => ⟨q.1, q.2.1, q.2.2.1, q.2.2.2.call g mk a⟩
theorem pc_at {H : Heap} (C : Cx G nL X own cc d) (hP : va_P G.1 vwCl (wld G V) H) : ∀ U : State, U.heap = H → (xs X).WarmedH U.vm → (va_Pc As (PcW G V H.size)) As.toArray U :=
  fun U hU hW => ⟨rfl, by rw [hU], by rw [hU]; exact hP, C.2.2.2.2.2.1.warm hW⟩
theorem j_go {H : Heap} {locs : List Loc} {ls : Array Slot} {pc : Nat} {st0 : List Value} {as : Array Value} {x0 : ρ}
    (hr : va_Run (xp X) (xl X) (xe X) (xR X) (xs X) (xm X) (xa X) (xb X) (xM X) (xc X) H locs (xk X) (xz X) 0 0 (F0 (xm X) pc ls st0) st (QR G H.size rv V1 as) (AA G H.size))
    (hS : va_S (AA G (xs X).heap.size) (xs X).heap H locs) (hV : V1 = V2) (h0 : sp = some x0) (hl : lv_has ls nL L)
    (k : JS G nL X Q sp V2 (pc + 3) L (rv.toList ++ st)) : xW X H locs (Q x0) (F0 (xm X) pc ls st0) := by
  subst hV
  intro T hT X9
  obtain ⟨v, st₀, t, T', L9, hh, X', hL, e1, e2, ⟨⟨hv, hp⟩, hz, hk⟩, st9⟩ := hr T hT X9
  cases hv
  rw [hh] at hz hk
  have hA : ∀ q, AA G H.size q → AA G (xs X).heap.size q := fun q h => h.elim Or.inl (fun h => Or.inr (Nat.le_trans hS.1 h))
  obtain ⟨t2, a1, b1⟩ := k x0 h0 t.heap (locs ++ L9) ls hp ⟨Nat.le_trans hS.1 hz, fun q h1 h2 => (hk q (Nat.lt_of_lt_of_le h1 hS.1) (fun z => h2 (hA q z))).trans (hS.2.1 q h1 h2), fun q hq => by
      rcases List.mem_append.mp hq with h | h
      · exact hS.2.2 q h
      · exact hA _ (hL q h)⟩ hl T' e1 X'
  exact ⟨t2, st9 t2 a1, b1⟩
theorem kb_of (C : Cx G nL X own cc d) (hK : KY y bytes maxL ret n) (hlink : Cond.methodLink own index y ∈ gw) (hd : d1 + 1 ≤ d) : CallB (xR X) (xs X) (xa X) own index y bytes maxL ret (gws y bytes maxL ret) (RM d1) 0 0 n := by
  refine callB_of n C.2.2.2.2.1 (gws_in hK.1) rfl rfl rfl (C.2.2.2.2.1 _ hK.2.1) (C.2.2.2.2.1 _ hlink) hK.2.2.2 ⟨?_, ?_⟩
  · have := C.2.2.2.2.2.2.2.2.1
    show d1 + 1 ≤ _
    omega
  · have h1 := C.2.2.2.2.2.2.2.2.2.1
    have h2 := hK.2.2.1
    show 8 + (maxL + 11) + 35 * d1 ≤ _
    omega
theorem j_callV (C : Cx G nL X own cc d) (hK : KY y bytes maxL ret n) {b q ci : Nat} {cd : String × u_T × Nat} {fs : List Value} (pc : Nat) (hct : Ct (xl X) y bytes maxL ret d1 (.ref b :: As) G V rv V1) (hV : V1 = V2) (hq : q < nG G) (hb : b = G.2.2 q) (hc : cellA G.2.1 G.2.2 V q = .inr (ci, fs)) (hcl : vwCl[ci]? = some cd) (hcn : cd.1 = y.cls)
    (hlink : Cond.methodLink own index y ∈ gw) (hi : Cond.instanceMethod y ∈ gw) (hs : Cond.selects y.cls y y ∈ gw) (hdd : d1 + 1 ≤ d) (hn : As.length = n) (hst : (st.map fun v => v.category).sum ≤ 8) (hd : decode cc pc = .ok (.invokevirtual index, 3))
    (k : JS G nL X Q sp V2 (pc + 3) L (rv.toList ++ st)) {st0 : List Value} (h0 : st0 = As.reverse ++ .ref b :: st) : JS G nL X Q sp V pc L st0 := by
  subst h0
  intro x0 h0 H locs ls hP hS hl
  have hc2 : (wld G V)[q]? = some (b, .inr (ci, fs)) := by rw [wld_at G V hq, hc, hb]
  exact j_go (va_runV ⟨C.1, C.2.1, C.2.2.1, C.2.2.2.1, C.2.2.2.2.1⟩ (hct H.size) ⟨kb_of C hK hlink hdd, C.2.2.2.2.1 _ hi, C.2.2.2.2.1 _ hs⟩ ⟨fb_PcW _ _, hcn ▸ va_recv C.2.2.2.2.2.1.1 hP hcl hc2, pc_at C hP⟩ rfl hn hl.1 rfl (lv_room hst) hd ⟨C.2.2.2.2.2.2.2.2.2.2.1, C.2.2.2.2.2.2.2.2.2.2.2⟩) hS hV h0 hl k
theorem j_callS (C : Cx G nL X own cc d) (hK : KY y bytes maxL ret n) (pc : Nat) (hct : Ct (xl X) y bytes maxL ret d1 As G V rv V1) (hV : V1 = V2) (hlink : Cond.methodLink own index y ∈ gw) (hi : Cond.static y ∈ gw) (hdd : d1 + 1 ≤ d) (hn : As.length = n) (hst : (st.map fun v => v.category).sum ≤ 8) (hd : decode cc pc = .ok (.invokestatic index, 3))
    (k : JS G nL X Q sp V2 (pc + 3) L (rv.toList ++ st)) {st0 : List Value} (h0 : st0 = As.reverse ++ st) : JS G nL X Q sp V pc L st0 := by
  subst h0
  intro x0 h0 H locs ls hP hS hl
  exact j_go (va_runS ⟨C.1, C.2.1, C.2.2.1, C.2.2.2.1, C.2.2.2.2.1⟩ (hct H.size) ⟨kb_of C hK hlink hdd, C.2.2.2.2.1 _ hi⟩ ⟨fb_PcW _ _, pc_at C hP⟩ rfl hn hl.1 rfl (lv_room hst) hd ⟨C.2.2.2.2.2.2.2.2.2.2.1, C.2.2.2.2.2.2.2.2.2.2.2⟩) hS hV h0 hl k
theorem j_callSN (C : Cx G nL X own cc d) (hK : KY y bytes maxL ret n) {host : String} (pc : Nat) (hct : Ct (xl X) y bytes maxL ret d1 As G V rv V1) (hV : V1 = V2) (hlink : Cond.methodLinkNest own index y host ∈ nestW) (hi : Cond.static y ∈ gw) (hdd : d1 + 1 ≤ d) (hn : As.length = n) (hst : (st.map fun v => v.category).sum ≤ 8) (hd : decode cc pc = .ok (.invokestatic index, 3))
    (k : JS G nL X Q sp V2 (pc + 3) L (rv.toList ++ st)) {st0 : List Value} (h0 : st0 = As.reverse ++ st) : JS G nL X Q sp V pc L st0 := by
  subst h0
  intro x0 h0 H locs ls hP hS hl
  have hcn : va_CN (xR X) (xs X) (xa X) own index y host bytes maxL ret (gws y bytes maxL ret) (RM d1) 0 0 n := by
    refine va_cnB n C.2.2.2.2.1 (gws_in hK.1) rfl rfl rfl (C.2.2.2.2.2.1.2 _ hlink) (C.2.2.2.2.1 _ hK.2.1) hK.2.2.2 ⟨?_, ?_⟩
    · have := C.2.2.2.2.2.2.2.2.1
      show d1 + 1 ≤ _
      omega
    · have h1 := C.2.2.2.2.2.2.2.2.2.1
      have h2 := hK.2.2.1
      show 8 + (maxL + 11) + 35 * d1 ≤ _
      omega
  exact j_go (va_runSN ⟨C.1, C.2.1, C.2.2.1, C.2.2.2.1, C.2.2.2.2.1⟩ (hct H.size) ⟨hcn, C.2.2.2.2.1 _ hi, trivial⟩ ⟨fb_PcW _ _, pc_at C hP⟩ rfl hn hl.1 rfl (lv_room hst) hd ⟨C.2.2.2.2.2.2.2.2.2.2.1, C.2.2.2.2.2.2.2.2.2.2.2⟩) hS hV h0 hl k
end
