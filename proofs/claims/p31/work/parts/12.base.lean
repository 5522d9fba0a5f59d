-- ===== what the law's walk needs beside: partial results, a walk that says nothing of throws, room =====
def nth {α β : Type} (f : Option (α ⊕ β)) : Option β := f.bind (Sum.elim (fun _ => none) some)
theorem nth_in {α β : Type} {f : Option (α ⊕ β)} {x : β} (h : nth f = some x) : f = some (.inr x) := by
  cases f with
  | none => cases h
  | some a =>
    cases a with
    | inl q => cases h
    | inr q =>
      have h2 : some q = some x := h
      cases h2
      rfl
theorem nth_inr {α β : Type} {f : Option (α ⊕ β)} {x : β} (h : f = some (.inr x)) : nth f = some x := by subst h; rfl
def nzk (x : Int32) : Option Unit := if x = 0 then none else some ()
theorem nzk_in {x : Int32} {u : Unit} (h : nzk x = some u) : ¬ x = 0 := by
  unfold nzk at h
  split at h
  · cases h
  · assumption
theorem nG_0 {G : GG} (h : Gok G) : 119 + 0 ≤ nG G := h.1
def QN {ρ : Type} (G : GG) (X : WX) (fX : ρ → (Nat × VA) ⊕ (Option Value × VA)) (x : ρ) : State → Prop := fun t => ∀ rv V', fX x = .inr (rv, V') → MQ (xb X) (QR G (xs X).heap.size rv V') (xa X) (xs X) (xk X) (xz X) (AA G (xs X).heap.size) t
section
variable {ρ : Type} {G : GG} {nL : Nat} {X : WX} {fX : ρ → (Nat × VA) ⊕ (Option Value × VA)} {x : ρ} {V : VA} {L : List (Nat × Value)} {st : List Value} {own : String} {cc : ByteArray} {d : Nat}
theorem jn_throw {pc : Nat} {r : Nat × VA} (hrv : fX x = .inl r) : JS G nL X (QN G X fX) (some x) V pc L st := by
  intro x0 h0 H locs ls hP hS hl T hT X9
  cases h0
  exact ⟨_, Steps.refl _, fun rv V' e => by rw [hrv] at e; cases e⟩
theorem jn_iret (C : Cx G nL X own cc d) {v : Int32} (pc : Nat) (hr : (xM X).sig.returnType = some .int) (hrv : fX x = .inr (some (.int v), V)) (hd : decode cc pc = .ok (.ireturn, 1)) : JS G nL X (QN G X fX) (some x) V pc L [.int v] := by
  intro x0 h0 H locs ls hP hS hl T hT X9
  cases h0
  obtain ⟨t, a, b⟩ := j_iret (ρ := Unit) (rv := fun _ => some (.int v)) (fin := fun _ => V) (x := ()) C pc hr rfl rfl hd () rfl H locs ls hP hS hl T hT X9
  exact ⟨t, a, fun rv V' e => by rw [hrv] at e; cases e; exact b⟩
end
theorem ctn_of {ρ : Type} {l : Launch} {y : MethodName} {cc : ByteArray} {nL : Nat} {ret : Option FieldType} {d : Nat} {as : List Value} {G : GG} {V : VA} {fX : ρ → (Nat × VA) ⊕ (Option Value × VA)} {sp : Option ρ} {own : String}
    (hG : Gok G) (hy : plainFor y = true) (hown : y.cls = own) (hsl : (lg_sl as).length ≤ nL)
    (body : ∀ X : WX, Cx G nL X own cc d → (xM X).sig.returnType = ret → JS G nL X (QN G X fX) sp V 0 (lv_args 0 as) []) {x : ρ} (hx : sp = some x) {rv : Option Value} {V1 : VA} (hfx : fX x = .inr (rv, V1)) : Ct l y cc nL ret d as G V rv V1 := by
  refine ct_of (rv := fun _ : Unit => rv) (fin := fun _ => V1) (sp := some ()) hG hy hown hsl (fun X C hr _ => ?_) (x := ()) rfl
  intro _ _ H locs ls hP hS hl T hT X9
  obtain ⟨t, a, b⟩ := body X C hr x hx H locs ls hP hS hl T hT X9
  exact ⟨t, a, b rv V1 hfx⟩
-- ===== room: the walk's counters =====
def xadd (X : WX) (k z : Nat) : WX := (X.1, X.2.1, X.2.2.1, X.2.2.2.1, X.2.2.2.2.1, X.2.2.2.2.2.1, X.2.2.2.2.2.2.1, X.2.2.2.2.2.2.2.1, X.2.2.2.2.2.2.2.2.1, X.2.2.2.2.2.2.2.2.2.1, xk X + k, xz X + z)
def xset (X : WX) (k z : Nat) : WX := (X.1, X.2.1, X.2.2.1, X.2.2.2.1, X.2.2.2.2.1, X.2.2.2.2.2.1, X.2.2.2.2.2.2.1, X.2.2.2.2.2.2.2.1, X.2.2.2.2.2.2.2.2.1, X.2.2.2.2.2.2.2.2.2.1, k, z)
abbrev xup (X : WX) : WX := xadd X 1 6
theorem Cx.add {G : GG} {nL : Nat} {X : WX} {own : String} {cc : ByteArray} {d k z : Nat} (C : Cx G nL X own cc d) (h1 : xk X + k ≤ (xR X).cells) (h2 : xz X + z ≤ (xR X).slots) : Cx G nL (xadd X k z) own cc d :=
  ⟨C.1, C.2.1, C.2.2.1, C.2.2.2.1, C.2.2.2.2.1, C.2.2.2.2.2.1, C.2.2.2.2.2.2.1, C.2.2.2.2.2.2.2.1, C.2.2.2.2.2.2.2.2.1, C.2.2.2.2.2.2.2.2.2.1, h1, h2⟩
theorem Cx.set {G : GG} {nL : Nat} {X : WX} {own : String} {cc : ByteArray} {d k z : Nat} (C : Cx G nL X own cc d) (h1 : k ≤ (xR X).cells) (h2 : z ≤ (xR X).slots) : Cx G nL (xset X k z) own cc d :=
  ⟨C.1, C.2.1, C.2.2.1, C.2.2.2.1, C.2.2.2.2.1, C.2.2.2.2.2.1, C.2.2.2.2.2.2.1, C.2.2.2.2.2.2.2.1, C.2.2.2.2.2.2.2.2.1, C.2.2.2.2.2.2.2.2.2.1, h1, h2⟩
/-- what may still be made: a cells, z fields, up to KB and ZB in all -/
def TB (G : GG) (sa : Nat → Nat) (KB ZB : Nat) (X : WX) (a z : Nat) : Prop := XK G sa (xs X).heap.size (xs X) (xs X).heap ∧ (xl X).stackTraces = false ∧ KB ≤ (xR X).cells ∧ ZB ≤ (xR X).slots ∧ xk X + a ≤ KB ∧ xz X + z ≤ ZB
section
variable {ρ : Type} {G : GG} {sa : Nat → Nat} {KB ZB a z : Nat} {nL : Nat} {X : WX} {Q : ρ → State → Prop} {sp : Option ρ} {V V1 V2 : VA} {L : List (Nat × Value)} {st : List Value} {own : String} {cc : ByteArray} {d : Nat}
theorem TB.mono {a0 z0 : Nat} (T : TB G sa KB ZB X a0 z0) (h1 : a ≤ a0) (h2 : z ≤ z0) : TB G sa KB ZB X a z :=
  ⟨T.1, T.2.1, T.2.2.1, T.2.2.2.1, Nat.le_trans (Nat.add_le_add_left h1 _) T.2.2.2.2.1, Nat.le_trans (Nat.add_le_add_left h2 _) T.2.2.2.2.2⟩
theorem TB.d1 {k : Nat} (T : TB G sa KB ZB X a z) (h : k ≤ a) : xk X + k ≤ (xR X).cells := Nat.le_trans (Nat.add_le_add_left h _) (Nat.le_trans T.2.2.2.2.1 T.2.2.1)
theorem TB.d2 {k : Nat} (T : TB G sa KB ZB X a z) (h : k ≤ z) : xz X + k ≤ (xR X).slots := Nat.le_trans (Nat.add_le_add_left h _) (Nat.le_trans T.2.2.2.2.2 T.2.2.2.1)
theorem TB.e1 (T : TB G sa KB ZB X a z) : xk X ≤ KB := Nat.le_trans (Nat.le_add_right _ _) T.2.2.2.2.1
theorem TB.e2 (T : TB G sa KB ZB X a z) : xz X ≤ ZB := Nat.le_trans (Nat.le_add_right _ _) T.2.2.2.2.2
theorem TB.add {k y : Nat} (T : TB G sa KB ZB X (a + k) (z + y)) : TB G sa KB ZB (xadd X k y) a z :=
  ⟨T.1, T.2.1, T.2.2.1, T.2.2.2.1, by have := T.2.2.2.2.1; show xk X + k + a ≤ KB; omega, by have := T.2.2.2.2.2; show xz X + y + z ≤ ZB; omega⟩
theorem j_xset {k y : Nat} {pc : Nat} (h1 : xk X ≤ k) (h2 : xz X ≤ y) (h : JS G nL (xset X k y) Q sp V pc L st) : JS G nL X Q sp V pc L st :=
  fun x0 h0 H locs ls hP hS hl => W.widen h1 h2 (h x0 h0 H locs ls hP hS hl)
end
def QB {ρ : Type} (G : GG) (X : WX) (KB ZB : Nat) (rv : ρ → Option Value) (fin : ρ → VA) (x : ρ) : State → Prop := MQ (xb X) (QR G (xs X).heap.size (rv x) (fin x)) (xa X) (xs X) KB ZB (AA G (xs X).heap.size)
theorem jb_zret {ρ : Type} {G : GG} {sa : Nat → Nat} {KB ZB a z : Nat} {nL : Nat} {X : WX} {rv : ρ → Option Value} {fin : ρ → VA} {x : ρ} {V : VA} {L : List (Nat × Value)} {own : String} {cc : ByteArray} {d : Nat} (C : Cx G nL X own cc d) (T : TB G sa KB ZB X a z) {v : Int32} (pc : Nat) (hr : (xM X).sig.returnType = some .boolean) (hn : narrow .boolean (.int v) = .int v) (hrv : rv x = some (.int v)) (hf : fin x = V) (hd : decode cc pc = .ok (.ireturn, 1)) : JS G nL X (QB G X KB ZB rv fin) (some x) V pc L [.int v] := by
  intro x0 h0 H locs ls hP hS hl
  cases h0
  exact W.widen T.e1 T.e2 (W.zret C.1 C.2.1 hr hn (q_end hrv hf hP hS) hS.2.2 hd C.2.2.2.2.2.2.2.1)
abbrev RMB (d kb zb : Nat) : Room := { frames := d, cells := kb, slots := zb, locals := 35 * d }
def CtB (l : Launch) (y : MethodName) (cc : ByteArray) (nL : Nat) (ret : Option FieldType) (d : Nat) (as : List Value) (G : GG) (sa : Nat → Nat) (V : VA) (rv : Option Value) (V1 : VA) (kb zb : Nat) : Prop :=
  ∀ sz, Met l y (gws y cc nL ret) (RMB d kb zb) (va_Pc as (PcX G sa V sz)) (QR G sz rv V1) kb zb (AA G sz)
theorem ctb_of {ρ : Type} {l : Launch} {y : MethodName} {cc : ByteArray} {nL : Nat} {ret : Option FieldType} {d : Nat} {as : List Value} {G : GG} {sa : Nat → Nat} {V : VA} {rv : ρ → Option Value} {fin : ρ → VA} {sp : Option ρ} {own : String} {kb zb : Nat}
    (hG : Gok G) (hl : l.stackTraces = false) (hy : plainFor y = true) (hown : y.cls = own) (hsl : (lg_sl as).length ≤ nL)
    (body : ∀ X : WX, Cx G nL X own cc d → (xM X).sig.returnType = ret → TB G sa kb zb X kb zb → JS G nL X (QB G X kb zb rv fin) sp V 0 (lv_args 0 as) []) {x : ρ} (hx : sp = some x) : CtB l y cc nL ret d as G sa V (rv x) (fin x) kb zb := by
  intro sz
  refine va_MetF (cc := cc) (maxL := nL) (ret := ret) hy rfl ?_
  intro p e s m args below meth c s₁ B hml hv
  obtain ⟨rfl, ⟨hsz, hP, hK⟩, hXK⟩ := hv
  have hts := atoms_spec (ws := gws y cc nL ret) B.pre
  have hown2 : s.vm.findClass own = some m.cls := hown ▸ findClass_of_methodNamed B.named
  have C : Cx G nL (p, l, e, RMB d kb zb, s, m, as.toArray, below, meth, c, 0, 0) own cc d := ⟨B.exec, B.bytes, hml, hown2, fun w h => hts w (List.mem_cons_of_mem _ h), hK, hG, B.notSynchronized, Nat.le_refl _, Nat.le_refl _, Nat.zero_le _, Nat.zero_le _⟩
  have hl9 := lv_entry as hsl
  subst hsz
  have K := body _ C B.returns ⟨hXK, hl, Nat.le_refl _, Nat.le_refl _, Nat.le_of_eq (Nat.zero_add _), Nat.le_of_eq (Nat.zero_add _)⟩ x hx s.heap [] _ hP va_S.rf hl9
  rw [lg_entry_eq]
  exact K
