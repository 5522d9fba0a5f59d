section
/-- a private method of a class that the tables say can be made, by its rows of tables_1 -/
def lw_okq (q : MethodName × Nat) : Prop := (q.1.cls ≠ "java/lang/invoke/MethodHandle" ∧ q.1.cls ≠ "java/lang/invoke/VarHandle") ∧ Cond.instantiable q.1.cls q.2 ∈ tables_1 ∧ Cond.privateMethod q.1 ∈ tables_1 ∧ Cond.instanceMethod q.1 ∈ tables_1
theorem lw_p0 : lw_okq (⟨"java/lang/Throwable", "fillInStackTrace", "(I)Ljava/lang/Throwable;"⟩, 6) := ⟨⟨by decide +kernel, by decide +kernel⟩, List.mem_of_getElem? (i := 249) (by decide +kernel), List.mem_of_getElem? (i := 247) (by decide +kernel), List.mem_of_getElem? (i := 248) (by decide +kernel)⟩
theorem lw_p1 : lw_okq (⟨"StickPairs", "saveState", "()V"⟩, 8) := ⟨⟨by decide +kernel, by decide +kernel⟩, List.mem_of_getElem? (i := 17) (by decide +kernel), List.mem_of_getElem? (i := 401) (by decide +kernel), List.mem_of_getElem? (i := 402) (by decide +kernel)⟩
theorem lw_p2 : lw_okq (⟨"StickPairs", "moveOldestToEnd", "()V"⟩, 8) := ⟨⟨by decide +kernel, by decide +kernel⟩, List.mem_of_getElem? (i := 17) (by decide +kernel), List.mem_of_getElem? (i := 405) (by decide +kernel), List.mem_of_getElem? (i := 406) (by decide +kernel)⟩
theorem lw_p3 : lw_okq (⟨"StickPairs$State", "readSlotOf", "(I)I"⟩, 9) := ⟨⟨by decide +kernel, by decide +kernel⟩, List.mem_of_getElem? (i := 25) (by decide +kernel), List.mem_of_getElem? (i := 578) (by decide +kernel), List.mem_of_getElem? (i := 579) (by decide +kernel)⟩
theorem lw_p4 : lw_okq (⟨"StickPairs$Layout", "channelOf", "(I)I"⟩, 7) := ⟨⟨by decide +kernel, by decide +kernel⟩, List.mem_of_getElem? (i := 58) (by decide +kernel), List.mem_of_getElem? (i := 586) (by decide +kernel), List.mem_of_getElem? (i := 587) (by decide +kernel)⟩
theorem lw_p5 : lw_okq (⟨"StickPairs$Layout", "indexOf", "(I)I"⟩, 7) := ⟨⟨by decide +kernel, by decide +kernel⟩, List.mem_of_getElem? (i := 58) (by decide +kernel), List.mem_of_getElem? (i := 590) (by decide +kernel), List.mem_of_getElem? (i := 591) (by decide +kernel)⟩
theorem lw_p6 : lw_okq (⟨"StickPairs$Layout", "slotAt", "(II)I"⟩, 7) := ⟨⟨by decide +kernel, by decide +kernel⟩, List.mem_of_getElem? (i := 58) (by decide +kernel), List.mem_of_getElem? (i := 594) (by decide +kernel), List.mem_of_getElem? (i := 595) (by decide +kernel)⟩
theorem lw_p7 : lw_okq (⟨"StickPairs$State", "readRankOf", "(I)I"⟩, 9) := ⟨⟨by decide +kernel, by decide +kernel⟩, List.mem_of_getElem? (i := 25) (by decide +kernel), List.mem_of_getElem? (i := 629) (by decide +kernel), List.mem_of_getElem? (i := 630) (by decide +kernel)⟩
theorem lw_p8 : lw_okq (⟨"StickPairs$Layout", "numberAt", "(II)I"⟩, 7) := ⟨⟨by decide +kernel, by decide +kernel⟩, List.mem_of_getElem? (i := 58) (by decide +kernel), List.mem_of_getElem? (i := 637) (by decide +kernel), List.mem_of_getElem? (i := 638) (by decide +kernel)⟩
theorem lw_p9 : lw_okq (⟨"StickPairs$Clock", "waitFor", "(I)V"⟩, 3) := ⟨⟨by decide +kernel, by decide +kernel⟩, List.mem_of_getElem? (i := 89) (by decide +kernel), List.mem_of_getElem? (i := 657) (by decide +kernel), List.mem_of_getElem? (i := 658) (by decide +kernel)⟩
theorem lw_p10 : lw_okq (⟨"StickPairs$Clock", "occupy", "(II)V"⟩, 3) := ⟨⟨by decide +kernel, by decide +kernel⟩, List.mem_of_getElem? (i := 89) (by decide +kernel), List.mem_of_getElem? (i := 661) (by decide +kernel), List.mem_of_getElem? (i := 662) (by decide +kernel)⟩
theorem lw_p11 : lw_okq (⟨"StickPairs", "sweepTicks", "(I)I"⟩, 8) := ⟨⟨by decide +kernel, by decide +kernel⟩, List.mem_of_getElem? (i := 17) (by decide +kernel), List.mem_of_getElem? (i := 713) (by decide +kernel), List.mem_of_getElem? (i := 714) (by decide +kernel)⟩
theorem lw_p12 : lw_okq (⟨"StickPairs", "trialRank", "(I)I"⟩, 8) := ⟨⟨by decide +kernel, by decide +kernel⟩, List.mem_of_getElem? (i := 17) (by decide +kernel), List.mem_of_getElem? (i := 722) (by decide +kernel), List.mem_of_getElem? (i := 723) (by decide +kernel)⟩
theorem lw_p13 : lw_okq (⟨"StickPairs", "trialDelay", "(I)I"⟩, 8) := ⟨⟨by decide +kernel, by decide +kernel⟩, List.mem_of_getElem? (i := 17) (by decide +kernel), List.mem_of_getElem? (i := 737) (by decide +kernel), List.mem_of_getElem? (i := 738) (by decide +kernel)⟩
theorem lw_p14 : lw_okq (⟨"StickPairs", "blocksIfStarted", "(II)I"⟩, 8) := ⟨⟨by decide +kernel, by decide +kernel⟩, List.mem_of_getElem? (i := 17) (by decide +kernel), List.mem_of_getElem? (i := 752) (by decide +kernel), List.mem_of_getElem? (i := 753) (by decide +kernel)⟩
theorem lw_p15 : lw_okq (⟨"StickPairs", "countOf", "(I)I"⟩, 8) := ⟨⟨by decide +kernel, by decide +kernel⟩, List.mem_of_getElem? (i := 17) (by decide +kernel), List.mem_of_getElem? (i := 776) (by decide +kernel), List.mem_of_getElem? (i := 777) (by decide +kernel)⟩
def lw_privs_1 : List (MethodName × Nat) := [(⟨"java/lang/Throwable", "fillInStackTrace", "(I)Ljava/lang/Throwable;"⟩, 6), (⟨"StickPairs", "saveState", "()V"⟩, 8), (⟨"StickPairs", "moveOldestToEnd", "()V"⟩, 8), (⟨"StickPairs$State", "readSlotOf", "(I)I"⟩, 9), (⟨"StickPairs$Layout", "channelOf", "(I)I"⟩, 7), (⟨"StickPairs$Layout", "indexOf", "(I)I"⟩, 7), (⟨"StickPairs$Layout", "slotAt", "(II)I"⟩, 7), (⟨"StickPairs$State", "readRankOf", "(I)I"⟩, 9), (⟨"StickPairs$Layout", "numberAt", "(II)I"⟩, 7), (⟨"StickPairs$Clock", "waitFor", "(I)V"⟩, 3), (⟨"StickPairs$Clock", "occupy", "(II)V"⟩, 3), (⟨"StickPairs", "sweepTicks", "(I)I"⟩, 8), (⟨"StickPairs", "trialRank", "(I)I"⟩, 8), (⟨"StickPairs", "trialDelay", "(I)I"⟩, 8), (⟨"StickPairs", "blocksIfStarted", "(II)I"⟩, 8), (⟨"StickPairs", "countOf", "(I)I"⟩, 8)]
theorem lw_r1 : ∀ q ∈ lw_privs_1, lw_okq q := List.forall_mem_cons.mpr ⟨lw_p0, List.forall_mem_cons.mpr ⟨lw_p1, List.forall_mem_cons.mpr ⟨lw_p2, List.forall_mem_cons.mpr ⟨lw_p3, List.forall_mem_cons.mpr ⟨lw_p4, List.forall_mem_cons.mpr ⟨lw_p5, List.forall_mem_cons.mpr ⟨lw_p6, List.forall_mem_cons.mpr ⟨lw_p7, List.forall_mem_cons.mpr ⟨lw_p8, List.forall_mem_cons.mpr ⟨lw_p9, List.forall_mem_cons.mpr ⟨lw_p10, List.forall_mem_cons.mpr ⟨lw_p11, List.forall_mem_cons.mpr ⟨lw_p12, List.forall_mem_cons.mpr ⟨lw_p13, List.forall_mem_cons.mpr ⟨lw_p14, List.forall_mem_cons.mpr ⟨lw_p15, fun _ h => absurd h List.not_mem_nil⟩⟩⟩⟩⟩⟩⟩⟩⟩⟩⟩⟩⟩⟩⟩⟩
theorem lw_p16 : lw_okq (⟨"StickPairs$State", "rankOrNone", "(II)I"⟩, 9) := ⟨⟨by decide +kernel, by decide +kernel⟩, List.mem_of_getElem? (i := 25) (by decide +kernel), List.mem_of_getElem? (i := 823) (by decide +kernel), List.mem_of_getElem? (i := 824) (by decide +kernel)⟩
def lw_privs_2 : List (MethodName × Nat) := [(⟨"StickPairs$State", "rankOrNone", "(II)I"⟩, 9)]
theorem lw_r2 : ∀ q ∈ lw_privs_2, lw_okq q := List.forall_mem_cons.mpr ⟨lw_p16, fun _ h => absurd h List.not_mem_nil⟩
def lw_privs : List (MethodName × Nat) := lw_privs_1 ++ (lw_privs_2)
def lw_tbl : List Cond := k2_sels lw_privs ++ tables_1
theorem lw_privs_ok : ∀ q ∈ lw_privs, lw_okq q := by
  show ∀ q ∈ lw_privs_1 ++ (lw_privs_2), lw_okq q
  exact List.forall_mem_append.mpr ⟨lw_r1, lw_r2⟩
/-- the streams that the claim lets the run draw from -/
abbrev lw_cs : List Choice := [Jvm.Choice.named "NaN.bits"]
theorem lw_bits : nanBits ∈ lw_cs := by first | decide | exact List.mem_cons_self | simp [lw_cs, nanBits]
end
section
/-! ===== BEGIN words of one list among another's, by their places ===== -/
theorem goodIn_r {big : List Cond} (ws : List Cond) (ps : List Nat) (hp : ws = ps.filterMap (fun i => big[i]?)) (h : ws.all goodWord = true) : GoodIn big ws := by
  intro w hw
  have h1 := List.all_eq_true.mp h w hw
  rw [hp] at hw
  obtain ⟨i, -, hi⟩ := List.mem_filterMap.mp hw
  have hm : w ∈ big := by first | exact List.mem_of_getElem? hi | exact List.getElem?_mem hi
  exact ⟨hm, good_of_word h1⟩
theorem goodIn_app {big a b : List Cond} (ha : GoodIn big a) (hb : GoodIn big b) : GoodIn big (a ++ b) := fun w h => (List.mem_append.mp h).elim (ha w) (hb w)
theorem goodIn_ca {big a b : List Cond} {c : Cond} (ha : GoodIn big (c :: a)) (hb : GoodIn big b) : GoodIn big (c :: (a ++ b)) := fun w h => (List.mem_cons.mp h).elim (fun e => ha w (List.mem_cons.mpr (Or.inl e))) (fun h => (List.mem_append.mp h).elim (fun h => ha w (List.mem_cons.mpr (Or.inr h))) (hb w))
theorem goodIn_sub {big ws : List Cond} (hm : ∀ w ∈ ws, w ∈ big) (h : ws.all goodWord = true) : GoodIn big ws := fun w hw => ⟨hm w hw, good_of_word (List.all_eq_true.mp h w hw)⟩
/-! ===== END ===== -/

/-! ===== BEGIN exceptions that leave a method, and their catching by the caller (launches without stack traces) ===== -/
section VXA
/-! The laws vx_back, vx_callV, vx_callS, vx_callSW, vx_throw0, vx_throwS follow proofs of the library, with one case more: JvmDerived/Free/Laws.lean (Back.of_free), Shelf42/LK1.lean (callV, callS), Shelf/KitTraced.lean (throwNew0V, throwNewS). -/
/-- where a method has thrown q: the class by its name, the cell, what was written, the world -/
def vx_T (XC : String → State → State → Prop) (st : State) (q : Addr) (t : State) (mc ms : Nat) (free : Addr → Prop) : Prop :=
  ∃ (E : String) (ce : Cell) (L : List Loc), XC E st t ∧ t.heap[q]? = some ce ∧ ce.vm = .none ∧ st.vm.findClass E = some ce.cls ∧ st.WarmedH t.vm ∧ st.sameButNew ({ t with vm := st.vm } : State) L mc ms ∧ ∀ z ∈ L, free z.base
def vx_Q (Qc : Array Value → State → Outcome → State → Prop) (XC : String → State → State → Prop) (mc ms : Nat) (free : Addr → Prop) : Array Value → State → Outcome → State → Prop := fun a st o t =>
  (Qc a st o t ∧ ∃ L, FrameEnd st o t L mc ms ∧ ∀ q ∈ L, free q.base) ∨ ∃ q, o = .threw q ∧ vx_T XC st q t mc ms free
/-- a callee that returns or throws -/
def vx_Met (l : Launch) (y : MethodName) (ws : List Cond) (rm : Room) (Pc : Array Value → State → Prop) (Qc : Array Value → State → Outcome → State → Prop) (XC : String → State → State → Prop) (mc ms : Nat) (free : Addr → Prop) : Prop :=
  MetFree l y (headSpec ws rm) Pc (fun _ _ _ _ _ => True) (vx_Q Qc XC mc ms free)
def vx_Post (XC : String → State → State → Prop) (mc ms : Nat) (free : Addr → Prop) : Pt → Array Value → Addr → Pt → Prop := fun A a q B =>
  ∃ (g : JFrame) (mk : MethodId) (t : State) (L : List Loc) (E : String) (ce : Cell), B.U.heap = t.heap ∧ B.U.vm = t.vm ∧ XC E (A.U.calling g mk a) t ∧ t.heap[q]? = some ce ∧ ce.vm = .none ∧ A.U.vm.findClass E = some ce.cls ∧ B.locs = A.locs ++ L ∧ (∀ z ∈ L, free z.base) ∧ B.cells = A.cells + mc ∧ B.slots = A.slots + ms
def vx_Back (l : Launch) (R : Room) (p : Program) (e : Env) (below : List Frame) (s : State) (sargs : Array Value) (y : MethodName) (len W9 : Nat)
    (Pre : Pt → Array Value → Prop) (Post : Pt → Array Value → Option Value → Pt → Prop) (PostX : Pt → Array Value → Addr → Pt → Prop) : Prop :=
  ∀ (m : MethodId) (meth : Method) (c : Code) (A : Pt) (g : JFrame) (ig : Instr) (mk : MethodId) (a : Array Value),
    Stand p l e R s m sargs below meth c A.U A.locs A.cells A.slots → g.method = m → g.locals.size = c.maxLocals → decode c.code g.pc = .ok (ig, len) →
    2 * g.monitorRoom + (g.stack.map fun v => v.category).sum ≤ W9 → A.U.methodNamed? y = some mk → Pre A a →
    (∃ (v : Option Value) (B : Pt), Stand p l e R s m sargs below meth c B.U B.locs B.cells B.slots ∧ Post A a v B ∧
      Steps p.tables e below (doInvoke e (A.U.setTop g) [] mk a).1 (B.U.setTop { g with pc := g.pc + len, stack := v.toList ++ g.stack })) ∨
    (∃ (q : Addr) (B : Pt), Stand p l e R s m sargs below meth c B.U B.locs B.cells B.slots ∧ PostX A a q B ∧
      Steps p.tables e below (doInvoke e (A.U.setTop g) [] mk a).1 ((B.U.setTop g).pushFrame (.throwing q)))
section Payer
variable {l : Launch} {R : Room} {p : Program} {e : Env} {below : List Frame} {s : State} {sargs : Array Value} {y : MethodName} {len W9 : Nat}
theorem vx_back {ws : List Cond} {rm : Room} {Pc : Array Value → State → Prop} {Qc : Array Value → State → Outcome → State → Prop} {XC : String → State → State → Prop} {mc ms : Nat} {free : Addr → Prop} {bytes : ByteArray} {maxL : Nat} {ret : Option FieldType}
    (hM : vx_Met l y ws rm Pc Qc XC mc ms free) (hblind : FrameBlind Pc) (hrc : rm.cells = mc) (hrs : rm.slots = ms)
    (hframes : rm.frames + 1 ≤ R.frames) (hlocals : W9 + (maxL + 11) + rm.locals ≤ R.locals)
    (hws : ∀ w ∈ ws, ∀ a' U, s.WarmedH U.vm → w.before a' U = true) (hcode : Cond.code y bytes maxL ret ∈ ws) (hinit : ∀ a' U, s.WarmedH U.vm → (Cond.initialized y.cls).before a' U = true) :
    vx_Back l R p e below s sargs y len W9 (PreOf R mc ms Pc) (PostOf Qc mc ms free) (vx_Post XC mc ms free) := by
  intro m meth c A g ig mk a X hg hsize hdg hW hn hp
  have h1 : (headSpec ws rm).pre.before a A.U = true := atoms_intro fun w hw => hws w hw _ _ X.warmed
  have h2 : (Cond.code y bytes maxL ret).before a A.U = true := hws _ hcode _ _ X.warmed
  have h3 : (Cond.initialized y.cls).before a A.U = true := hinit _ _ X.warmed
  have h4 : A.cells + (headSpec ws rm).room.cells ≤ R.cells := by rw [show (headSpec ws rm).room.cells = mc from hrc]; exact hp.1
  have h5 : A.slots + (headSpec ws rm).room.slots ≤ R.slots := by rw [show (headSpec ws rm).room.slots = ms from hrs]; exact hp.2.1
  have hPc : Pc a (A.U.calling g mk a) := hblind _ _ _ _ hp.2.2
  obtain ⟨U, Ls, c0, s0⟩ := A
  dsimp only [Pt.U, Pt.locs, Pt.cells, Pt.slots] at h1 h2 h3 h4 h5 X hn hPc ⊢
  obtain ⟨methY, cY, hmY, hcY, -, hlY, -, -, -, -⟩ := Cond.code_spec hn h2
  obtain ⟨kY, hkY, -⟩ := className_of_methodNamed hn
  have hinitY : kY.init = .initialized := Cond.initialized_spec (findClass_of_methodNamed hn) hkY h3
  have h : At U g.method c below := by rw [hg]; exact X.here
  have hlocals9 : W9 + (maxL + 11) + (headSpec ws rm).room.locals ≤ R.locals := hlocals
  have happ : (headSpec ws rm).appliesLoose y e.platform (U.calling g mk a) = true :=
    Spec.appliesLoose_calling (g := g) h hdg hn hkY hinitY
      (X.room_calling (g := g) (R' := (headSpec ws rm).room) hsize hmY hcY hframes (by rw [hlY]; omega) h4 h5) h1
  obtain ⟨mid, hmid⟩ := h.above
  have hfr : (U.setTop g).frames = (.java g :: mid) ++ below := by rw [State.frames_setTop' g h.top, hmid]; rfl
  obtain ⟨o, s₂, hsteps, -, hend, hq⟩ := Steps.callFree hM p X.admits X.cas X.clock (acts := []) hfr happ hPc trivial
  have hq' : vx_Q Qc XC mc ms free a (U.calling g mk a) o s₂ := hq
  rw [State.frames_setTop' g h.top] at hend
  obtain ⟨g₀, hg0⟩ := Option.isSome_iff_exists.mp h.top
  obtain ⟨r, hr⟩ := State.topJava?_eq_some.mp hg0
  have hr' : (({ U with heap := s₂.heap, slotsUsed := s₂.slotsUsed } : State).setVm s₂.vm).frames = .java g₀ :: r := hr
  rcases hq' with ⟨hqc, L, hfe, hL⟩ | ⟨q, rfl, E, ce, L, hx, hce, hcv, hcl, hW₂, hsm, hL⟩
  · obtain ⟨⟨v, rfl⟩, hW₂, e2, q2, q3, q4, q5, q6⟩ := id hfe
    have e3 : s₂ = ({ (U.calling g mk a).setFrames s₂.frames with heap := s₂.heap, slotsUsed := s₂.slotsUsed } : State).setVm s₂.vm := by
      have : s₂ = ({ s₂ with vm := (U.calling g mk a).vm } : State).setVm s₂.vm := rfl
      rw [e2] at this
      exact this
    obtain ⟨c₂, i₂, len₂, hc₂, hd₂, hf₂⟩ := hend
    have hW' : U.WarmedH s₂.vm := hW₂
    have hcc : c₂ = c := by
      have h1 : s₂.code? g.method = U.code? g.method := by
        rw [State.code?_eq, State.code?_eq, hW'.alike.method?]
      exact Option.some.inj (hc₂.symm.trans (h1.trans h.code))
    subst hcc
    have hlen : len₂ = len := by rw [hdg] at hd₂; cases hd₂; rfl
    subst hlen
    have hs₂ : s₂ = (({ U with heap := s₂.heap, slotsUsed := s₂.slotsUsed } : State).setVm s₂.vm).setTop { g with pc := g.pc + len₂, stack := v.toList ++ g.stack } := by
      refine e3.trans ?_
      rw [hf₂, State.calling_eq h.top, State.setFrames_setFrames, State.setTop_of_frames _ hr', hr]
      rfl
    have hsame : U.sameButNew ({ U with heap := s₂.heap, slotsUsed := s₂.slotsUsed } : State) L mc ms := by
      refine ⟨?_, q2, q3, q4, q5, q6⟩
      obtain ⟨t, ht, -⟩ := State.frames_cons hr
      show ({ U with heap := s₂.heap, slotsUsed := s₂.slotsUsed } : State) = { U.setFrames U.frames with heap := s₂.heap, slotsUsed := s₂.slotsUsed }
      rw [State.setFrames_self ht]
    subst hg
    refine Or.inl ⟨v, ⟨(({ U with heap := s₂.heap, slotsUsed := s₂.slotsUsed } : State).setVm s₂.vm), Ls ++ L, c0 + mc, s0 + ms⟩,
      ⟨X.admits, X.cas, X.clock, X.frames, X.room, X.hears, X.method, X.code, (X.here.setHeapUsed s₂.heap s₂.slotsUsed).setVm hW'.alike, X.tail, State.WarmedH.trans X.warmed hW', X.limits, X.bytes, X.same.trans (hsame.setVm s.vm)⟩,
      ⟨g, mk, s₂, L, rfl, rfl, hqc, rfl, hL, rfl, rfl⟩, ?_⟩
    show Steps p.tables e below _ ((({ U with heap := s₂.heap, slotsUsed := s₂.slotsUsed } : State).setVm s₂.vm).setTop { g with pc := g.pc + len₂, stack := v.toList ++ g.stack })
    rw [← hs₂]
    exact hsteps
  · obtain ⟨e2, q2, q3, q4, q5, q6⟩ := id hsm
    have e3 : s₂ = ({ (U.calling g mk a).setFrames s₂.frames with heap := s₂.heap, slotsUsed := s₂.slotsUsed } : State).setVm s₂.vm := by
      have : s₂ = ({ s₂ with vm := (U.calling g mk a).vm } : State).setVm s₂.vm := rfl
      rw [e2] at this
      exact this
    have hf₂ : s₂.frames = .throwing q :: .java g :: U.frames.tail := hend
    have hW' : U.WarmedH s₂.vm := hW₂
    have hs₂ : s₂ = ((({ U with heap := s₂.heap, slotsUsed := s₂.slotsUsed } : State).setVm s₂.vm).setTop g).pushFrame (.throwing q) := by
      refine e3.trans ?_
      rw [hf₂, State.calling_eq h.top, State.setFrames_setFrames, State.pushFrame, State.frames_setTop _ hr', State.setTop_of_frames _ hr', State.setFrames_setFrames, hr]
      rfl
    have hsame : U.sameButNew ({ U with heap := s₂.heap, slotsUsed := s₂.slotsUsed } : State) L mc ms := by
      refine ⟨?_, q2, q3, q4, q5, q6⟩
      obtain ⟨t, ht, -⟩ := State.frames_cons hr
      show ({ U with heap := s₂.heap, slotsUsed := s₂.slotsUsed } : State) = { U.setFrames U.frames with heap := s₂.heap, slotsUsed := s₂.slotsUsed }
      rw [State.setFrames_self ht]
    subst hg
    refine Or.inr ⟨q, ⟨(({ U with heap := s₂.heap, slotsUsed := s₂.slotsUsed } : State).setVm s₂.vm), Ls ++ L, c0 + mc, s0 + ms⟩,
      ⟨X.admits, X.cas, X.clock, X.frames, X.room, X.hears, X.method, X.code, (X.here.setHeapUsed s₂.heap s₂.slotsUsed).setVm hW'.alike, X.tail, State.WarmedH.trans X.warmed hW', X.limits, X.bytes, X.same.trans (hsame.setVm s.vm)⟩,
      ⟨g, mk, s₂, L, E, ce, rfl, rfl, hx, hce, hcv, hcl, rfl, hL, rfl, rfl⟩, ?_⟩
    show Steps p.tables e below _ (((({ U with heap := s₂.heap, slotsUsed := s₂.slotsUsed } : State).setVm s₂.vm).setTop g).pushFrame (.throwing q))
    rw [← hs₂]
    exact hsteps
end Payer
section Calls
variable {p : Program} {l : Launch} {e : Env} {R : Room} {s : State} {m : MethodId} {args : Array Value} {below : List Frame} {meth : Method} {c : Code} {T : State} {locs : List Loc} {cells slots : Nat}
theorem vx_callV (X : Stand p l e R s m args below meth c T locs cells slots) (hexec : p.tables.exec = Jvm.exec) {own C : String} {index : Nat} {y : MethodName} {bytes : ByteArray} {maxL : Nat} {ret : Option FieldType}
    (hown : s.vm.findClass own = some m.cls) (hlink : (Cond.methodLink own index y).before args s = true) (hinst : (Cond.instanceMethod y).before args s = true) (hsel : (Cond.selects C y y).before args s = true)
    (hcode : (Cond.code y bytes maxL ret).before args s = true) (hy : y.cls ≠ "java/lang/invoke/MethodHandle" ∧ y.cls ≠ "java/lang/invoke/VarHandle")
    {W9 : Nat} {Pre : Pt → Array Value → Prop} {Post : Pt → Array Value → Option Value → Pt → Prop} {PostX : Pt → Array Value → Addr → Pt → Prop} (hK : vx_Back l R p e below s args y 3 W9 Pre Post PostX)
    {b : Addr} {cellB : Cell} (hcell : T.heap[b]? = some cellB) (hobj : cellB.vm.isStatics = false) (hcls : s.vm.findClass C = some cellB.cls)
    {g : JFrame} (hg : g.method = m) (hsize : g.locals.size = c.maxLocals) {argsL rest : List Value} (hlen : ∀ sig, parseMethodDescriptor y.desc = some sig → argsL.length = sig.parameters.length)
    (hstack : g.stack = argsL.reverse ++ .ref b :: rest) (hW : 2 * g.monitorRoom + (rest.map fun v => v.category).sum ≤ W9) (hdg : decode c.code g.pc = .ok (.invokevirtual index, 3))
    (hpre : ∀ vm₁, s.WarmedH vm₁ → Pre ⟨T.setVm vm₁, locs, cells, slots⟩ (Value.ref b :: argsL).toArray) :
    (∃ (v : Option Value) (vm₁ : Vm) (B : Pt), s.WarmedH vm₁ ∧ Stand p l e R s m args below meth c B.U B.locs B.cells B.slots ∧ Post ⟨T.setVm vm₁, locs, cells, slots⟩ (Value.ref b :: argsL).toArray v B ∧
      ∀ target, Steps p.tables e below (B.U.setTop { g with pc := g.pc + 3, stack := v.toList ++ rest }) target → Steps p.tables e below (T.setTop g) target) ∨
    (∃ (q : Addr) (vm₁ : Vm) (B : Pt), s.WarmedH vm₁ ∧ Stand p l e R s m args below meth c B.U B.locs B.cells B.slots ∧ PostX ⟨T.setVm vm₁, locs, cells, slots⟩ (Value.ref b :: argsL).toArray q B ∧
      Steps p.tables e below (T.setTop g) ((B.U.setTop { g with stack := rest }).pushFrame (.throwing q))) := by
  obtain ⟨mk, methM, hnamed, hmethM, hstM, habM⟩ := Cond.instanceMethod_spec hinst
  obtain ⟨methM', cM, hmethM', -, -, -, -, -, -, hsigM⟩ := Cond.code_spec hnamed hcode
  cases hmethM.symm.trans hmethM'
  obtain ⟨c2, r2, m2, q1, q2, q3, q4, kP, hkP, hkPi⟩ := Cond.selects_spec hsel
  cases hcls.symm.trans q1
  cases (State.methodFound?_of_named hnamed hy).symm.trans q2
  cases hnamed.symm.trans q3
  have hselP : selectMethod e.platform s.vm cellB.cls mk = .method mk := by rw [Launch.admits_selectMethod X.admits]; exact q4
  obtain ⟨vm₁, X₁, hstep₁⟩ := X.invokevirtual hexec hown hlink hnamed hmethM hstM hkP hkPi hy (a := b) (cell := cellB) hcell
    (fun z h => by rw [h] at hobj; cases hobj) hselP hmethM habM hkP hkPi (g := g) hg (argsL := argsL) (rest := rest) (hlen _ hsigM) hstack hdg
  rcases hK m meth c ⟨T.setVm vm₁, locs, cells, slots⟩ { g with stack := rest } (.invokevirtual index) mk (Value.ref b :: argsL).toArray X₁ hg hsize hdg hW (X₁.named hnamed) (hpre vm₁ X₁.warmed) with ⟨v, B, X', hpost, hsteps⟩ | ⟨q, B, X', hpost, hsteps⟩
  · exact Or.inl ⟨v, vm₁, B, X₁.warmed, X', hpost, fun target h => hstep₁ _ fun acts => by rw [doInvoke_state]; exact hsteps.trans h⟩
  · exact Or.inr ⟨q, vm₁, B, X₁.warmed, X', hpost, hstep₁ _ fun acts => by rw [doInvoke_state]; exact hsteps⟩
theorem vx_callS (X : Stand p l e R s m args below meth c T locs cells slots) (hexec : p.tables.exec = Jvm.exec) {own : String} {index : Nat} {y : MethodName} {bytes : ByteArray} {maxL : Nat} {ret : Option FieldType}
    (hown : s.vm.findClass own = some m.cls) (hlink : (Cond.methodLink own index y).before args s = true) (hstat : (Cond.static y).before args s = true) (hinit : (Cond.initialized y.cls).before args s = true)
    (hcode : (Cond.code y bytes maxL ret).before args s = true) (hy : y.cls ≠ "java/lang/invoke/MethodHandle" ∧ y.cls ≠ "java/lang/invoke/VarHandle")
    {W9 : Nat} {Pre : Pt → Array Value → Prop} {Post : Pt → Array Value → Option Value → Pt → Prop} {PostX : Pt → Array Value → Addr → Pt → Prop} (hK : vx_Back l R p e below s args y 3 W9 Pre Post PostX)
    {g : JFrame} (hg : g.method = m) (hsize : g.locals.size = c.maxLocals) {argsL rest : List Value} (hlen : ∀ sig, parseMethodDescriptor y.desc = some sig → argsL.length = sig.parameters.length)
    (hstack : g.stack = argsL.reverse ++ rest) (hW : 2 * g.monitorRoom + (rest.map fun v => v.category).sum ≤ W9) (hdg : decode c.code g.pc = .ok (.invokestatic index, 3))
    (hpre : ∀ vm₁, s.WarmedH vm₁ → Pre ⟨T.setVm vm₁, locs, cells, slots⟩ argsL.toArray) :
    (∃ (v : Option Value) (vm₁ : Vm) (B : Pt), s.WarmedH vm₁ ∧ Stand p l e R s m args below meth c B.U B.locs B.cells B.slots ∧ Post ⟨T.setVm vm₁, locs, cells, slots⟩ argsL.toArray v B ∧
      ∀ target, Steps p.tables e below (B.U.setTop { g with pc := g.pc + 3, stack := v.toList ++ rest }) target → Steps p.tables e below (T.setTop g) target) ∨
    (∃ (q : Addr) (vm₁ : Vm) (B : Pt), s.WarmedH vm₁ ∧ Stand p l e R s m args below meth c B.U B.locs B.cells B.slots ∧ PostX ⟨T.setVm vm₁, locs, cells, slots⟩ argsL.toArray q B ∧
      Steps p.tables e below (T.setTop g) ((B.U.setTop { g with stack := rest }).pushFrame (.throwing q))) := by
  obtain ⟨mk, hnamed⟩ := Cond.code_named hcode
  obtain ⟨methM, cM, hmethM, -, -, -, -, -, -, hsigM⟩ := Cond.code_spec hnamed hcode
  have hstatic : methM.isStatic = true := Cond.static_spec hnamed hmethM hstat
  obtain ⟨kP, hkP, -⟩ := className_of_methodNamed hnamed
  have hinitP : kP.init = .initialized := Cond.initialized_spec (findClass_of_methodNamed hnamed) hkP hinit
  obtain ⟨vm₁, X₁, hstep₁⟩ := X.invokestatic hexec hown hlink hnamed hmethM hstatic hkP hinitP hy (g := g) hg (argsL := argsL) (rest := rest) (hlen _ hsigM) hstack hdg
  rcases hK m meth c ⟨T.setVm vm₁, locs, cells, slots⟩ { g with stack := rest } (.invokestatic index) mk argsL.toArray X₁ hg hsize hdg hW (X₁.named hnamed) (hpre vm₁ X₁.warmed) with ⟨v, B, X', hpost, hsteps⟩ | ⟨q, B, X', hpost, hsteps⟩
  · exact Or.inl ⟨v, vm₁, B, X₁.warmed, X', hpost, fun target h => hstep₁ _ fun acts => by rw [doInvoke_state]; exact hsteps.trans h⟩
  · exact Or.inr ⟨q, vm₁, B, X₁.warmed, X', hpost, hstep₁ _ fun acts => by rw [doInvoke_state]; exact hsteps⟩
end Calls
theorem vx_cls {s : State} {T : State} {vm₁ : Vm} {E : String} {k : ClassId} (hW : s.WarmedH vm₁) (h : (T.setVm vm₁).vm.findClass E = some k) : s.vm.findClass E = some k := by
  have h1 : vm₁.findClass E = some k := h
  rw [hW.alike.findClass] at h1
  exact h1
/-- the method's frame g, with q thrown over it -/
def vx_W (p : Program) (l : Launch) (e : Env) (R : Room) (s : State) (m : MethodId) (args : Array Value) (below : List Frame) (meth : Method) (c : Code) (H : Heap) (locs : List Loc) (cells slots : Nat) (Q : State → Prop) (g : JFrame) (q : Addr) : Prop :=
  ∀ T : State, T.heap = H → Stand p l e R s m args below meth c T locs cells slots → ∃ t, Steps p.tables e below ((T.setTop g).pushFrame (.throwing q)) t ∧ Q t
def vx_Run (p : Program) (l : Launch) (e : Env) (R : Room) (s : State) (m : MethodId) (args : Array Value) (below : List Frame) (meth : Method) (c : Code) (H : Heap) (locs : List Loc) (cells slots mc ms : Nat) (g : JFrame) (rest : List Value) (Qa : State → Outcome → State → Prop) (XC : String → State → State → Prop) (free : Addr → Prop) : Prop :=
  ∀ T : State, T.heap = H → Stand p l e R s m args below meth c T locs cells slots →
    (∃ (v : Option Value) (st₀ t T' : State) (L : List Loc), st₀.heap = H ∧ Stand p l e R s m args below meth c T' (locs ++ L) (cells + mc) (slots + ms) ∧ (∀ q ∈ L, free q.base) ∧ T'.heap = t.heap ∧ T'.vm = t.vm ∧ Qa st₀ (.returned v) t ∧
      Goes p e below T g T' { g with pc := g.pc + 3, stack := v.toList ++ rest }) ∨
    (∃ (q : Addr) (st₀ t T' : State) (L : List Loc) (E : String) (ce : Cell), st₀.heap = H ∧ Stand p l e R s m args below meth c T' (locs ++ L) (cells + mc) (slots + ms) ∧ (∀ z ∈ L, free z.base) ∧ T'.heap = t.heap ∧ T'.vm = t.vm ∧ XC E st₀ t ∧ t.heap[q]? = some ce ∧ ce.vm = .none ∧ s.vm.findClass E = some ce.cls ∧
      Steps p.tables e below (T.setTop g) ((T'.setTop { g with stack := rest }).pushFrame (.throwing q)))
def vx_X {S : Type} (px : S → Prop) (B : String → S → State → Prop) (A : Nat → Prop) : String → State → State → Prop := fun E st t => ∃ u : S, px u ∧ B E u t ∧ va_F A st t
section Runs
variable {p : Program} {l : Launch} {e : Env} {R : Room} {s : State} {m : MethodId} {args : Array Value} {below : List Frame} {meth : Method} {c : Code} {H : Heap} {locs : List Loc} {cells slots : Nat}
variable {y : MethodName} {bytes cc : ByteArray} {maxL nL mc ms n index : Nat} {ret : Option FieldType} {ws : List Cond} {rm : Room} {Pc : Array Value → State → Prop} {Qc : Array Value → State → Outcome → State → Prop} {XC : String → State → State → Prop} {free : Addr → Prop} {Ts : List Cond} {own C : String} {b : Addr} {As rest : List Value} {g : JFrame}
theorem vx_callBack (cb : CallB R s args own index y bytes maxL ret ws rm mc ms n) (hM : vx_Met l y ws rm Pc Qc XC mc ms free) (hbl : FrameBlind Pc) : vx_Back l R p e below s args y 3 8 (PreOf R mc ms Pc) (PostOf Qc mc ms free) (vx_Post XC mc ms free) := by
  obtain ⟨hrc, hrs, hfr, hlo, hws, hcw, -, hini, -⟩ := cb
  exact vx_back (bytes := bytes) (maxL := maxL) (ret := ret) hM hbl hrc hrs hfr hlo hws hcw (fun a' U hW => word_at hW (Or.inl (by first | rfl | simp [Cond.onTables, Cond.keeps, Cond.steady])) hini)
theorem vx_runV (S : CallFix p m c cc nL s args Ts own) (hM : vx_Met l y ws rm Pc Qc XC mc ms free) (cw : CallW R s args own C index y bytes maxL ret ws rm mc ms n) (hp : PreV s H C b Pc As)
    (hg : g.method = m) (hn : As.length = n) (hsize : g.locals.size = nL) (hstack : g.stack = As.reverse ++ .ref b :: rest) (hW : 2 * g.monitorRoom + (rest.map fun v => v.category).sum ≤ 8) (hdg : decode cc g.pc = .ok (.invokevirtual index, 3)) (hf : cells + mc ≤ R.cells ∧ slots + ms ≤ R.slots) :
    vx_Run p l e R s m args below meth c H locs cells slots mc ms g rest (Qc (Value.ref b :: As).toArray) XC free := by
  have hK : vx_Back l R p e below s args y 3 8 (PreOf R mc ms Pc) (PostOf Qc mc ms free) (vx_Post XC mc ms free) := vx_callBack cw.1 hM hp.1
  obtain ⟨⟨-, -, -, -, -, -, hcode, -, hy, hlen, hl⟩, hin, hse⟩ := cw
  obtain ⟨hx, hb, hml, ho, -⟩ := S
  obtain ⟨-, ⟨cellB, hcB, hoB, hclB⟩, hPc⟩ := hp
  intro T hT X
  rcases vx_callV X hx (C := C) (bytes := bytes) (maxL := maxL) (ret := ret) ho hl hin hse hcode hy hK (by rw [hT]; exact hcB) hoB hclB hg (hsize.trans hml.symm) (argsL := As) (rest := rest) (fun sig h => hn.trans (hlen sig h)) hstack hW (by rw [hb]; exact hdg)
    (fun vm₁ hW₁ => ⟨hf.1, hf.2, hPc (T.setVm vm₁) hT hW₁⟩) with ⟨v, vm₁, ⟨U', l2, c2, s2⟩, hW₁, X', ⟨g', mk, t, L, e1, e2, hq, h1, hL, h2, h3⟩, st⟩ | ⟨q, vm₁, ⟨U', l2, c2, s2⟩, hW₁, X', ⟨g', mk, t, L, E, ce, e1, e2, hq, hce, hcv, hcl, h1, hL, h2, h3⟩, st⟩
  · dsimp only [Pt.U, Pt.locs, Pt.cells, Pt.slots] at X' e1 e2 h1 h2 h3 st
    subst h1; subst h2; subst h3
    exact Or.inl ⟨v, (T.setVm vm₁).calling g' mk (Value.ref b :: As).toArray, t, U', L, hT, X', hL, e1, e2, hq, st⟩
  · dsimp only [Pt.U, Pt.locs, Pt.cells, Pt.slots] at X' e1 e2 h1 h2 h3 st hcl
    subst h1; subst h2; subst h3
    exact Or.inr ⟨q, (T.setVm vm₁).calling g' mk (Value.ref b :: As).toArray, t, U', L, E, ce, hT, X', hL, e1, e2, hq, hce, hcv, vx_cls hW₁ hcl, st⟩
theorem vx_runS (S : CallFix p m c cc nL s args Ts own) (hM : vx_Met l y ws rm Pc Qc XC mc ms free) (cw : CallB R s args own index y bytes maxL ret ws rm mc ms n ∧ (Cond.static y).before args s = true) (hp : PreS s H Pc As)
    (hg : g.method = m) (hn : As.length = n) (hsize : g.locals.size = nL) (hstack : g.stack = As.reverse ++ rest) (hW : 2 * g.monitorRoom + (rest.map fun v => v.category).sum ≤ 8) (hdg : decode cc g.pc = .ok (.invokestatic index, 3)) (hf : cells + mc ≤ R.cells ∧ slots + ms ≤ R.slots) :
    vx_Run p l e R s m args below meth c H locs cells slots mc ms g rest (Qc As.toArray) XC free := by
  have hK : vx_Back l R p e below s args y 3 8 (PreOf R mc ms Pc) (PostOf Qc mc ms free) (vx_Post XC mc ms free) := vx_callBack cw.1 hM hp.1
  obtain ⟨⟨-, -, -, -, -, -, hcode, hini, hy, hlen, hl⟩, hstt⟩ := cw
  obtain ⟨hx, hb, hml, ho, -⟩ := S
  intro T hT X
  rcases vx_callS X hx (bytes := bytes) (maxL := maxL) (ret := ret) ho hl hstt hini hcode hy hK hg (hsize.trans hml.symm) (argsL := As) (rest := rest) (fun sig h => hn.trans (hlen sig h)) hstack hW (by rw [hb]; exact hdg)
    (fun vm₁ hW₁ => ⟨hf.1, hf.2, hp.2 (T.setVm vm₁) hT hW₁⟩) with ⟨v, vm₁, ⟨U', l2, c2, s2⟩, hW₁, X', ⟨g', mk, t, L, e1, e2, hq, h1, hL, h2, h3⟩, st⟩ | ⟨q, vm₁, ⟨U', l2, c2, s2⟩, hW₁, X', ⟨g', mk, t, L, E, ce, e1, e2, hq, hce, hcv, hcl, h1, hL, h2, h3⟩, st⟩
  · dsimp only [Pt.U, Pt.locs, Pt.cells, Pt.slots] at X' e1 e2 h1 h2 h3 st
    subst h1; subst h2; subst h3
    exact Or.inl ⟨v, (T.setVm vm₁).calling g' mk As.toArray, t, U', L, hT, X', hL, e1, e2, hq, st⟩
  · dsimp only [Pt.U, Pt.locs, Pt.cells, Pt.slots] at X' e1 e2 h1 h2 h3 st hcl
    subst h1; subst h2; subst h3
    exact Or.inr ⟨q, (T.setVm vm₁).calling g' mk As.toArray, t, U', L, E, ce, hT, X', hL, e1, e2, hq, hce, hcv, vx_cls hW₁ hcl, st⟩
end Runs
section Rows
variable {p : Program} {l : Launch} {e : Env} {R : Room} {s : State} {m : MethodId} {args : Array Value} {below : List Frame} {meth : Method} {c : Code} {H : Heap} {locs : List Loc} {cells slots : Nat} {Q : State → Prop}
variable {mc ms : Nat} {free : Addr → Prop} {A0 A1 : Nat → Prop} {H0 : Heap} {a : Array Value} {pc : Nat} {ls : Array Slot} {st0 rest : List Value}
theorem vx_keep {st₀ t T' : State} {L : List Loc} (h0 : st₀.heap = H) (e1 : T'.heap = t.heap) (hS : va_S A0 H0 H locs) (hA : ∀ q, q < H.size → A1 q → A0 q) (hf : ∀ q, free q → A0 q) (hL : ∀ q ∈ L, free q.base) (hF : va_F A1 st₀ t) :
    H.size ≤ T'.heap.size ∧ (∀ q : Nat, q < H.size → ¬ A1 q → T'.heap[q]? = H[q]?) ∧ va_S A0 H0 T'.heap (locs ++ L) := by
  obtain ⟨hz, hk⟩ := hF
  rw [h0] at hz hk
  exact ⟨by rw [e1]; exact hz, fun q h1 h2 => by rw [e1]; exact hk q h1 h2,
    ⟨Nat.le_trans hS.1 (by rw [e1]; exact hz), fun q h1 h2 => by rw [e1, hk q (Nat.lt_of_lt_of_le h1 hS.1) (fun z => h2 (hA q (Nat.lt_of_lt_of_le h1 hS.1) z))]; exact hS.2.1 q h1 h2, fun q hq => by
      rcases List.mem_append.mp hq with h | h
      · exact hS.2.2 q h
      · exact hf _ (hL q h)⟩⟩
theorem vx_calli {S SX : Type} {post : Int32 → S → Prop} {px : SX → Prop} {B : S → State → Prop} {BX : String → SX → State → Prop} {AX : Nat → Prop} (hr : vx_Run p l e R s m args below meth c H locs cells slots mc ms (F0 m pc ls st0) rest (va_Qi post B A1 a) (vx_X px BX AX) free) (hS : va_S A0 H0 H locs) (hA : ∀ q, q < H.size → A1 q → A0 q) (hf : ∀ q, free q → A0 q) (hAX : ∀ q, q < H.size → AX q → A0 q)
    (kx : ∀ (E : String) (ce : Cell) (q9 : Addr) (u : SX) (t : State) (H1 : Heap) (locs1 : List Loc), t.heap = H1 → s.vm.Alike t.vm → px u → BX E u t → H.size ≤ H1.size → (∀ q : Nat, q < H.size → ¬ AX q → H1[q]? = H[q]?) → va_S A0 H0 H1 locs1 → H1[q9]? = some ce → ce.vm = .none → s.vm.findClass E = some ce.cls → vx_W p l e R s m args below meth c H1 locs1 (cells + mc) (slots + ms) Q (F0 m pc ls rest) q9)
    (kk : ∀ (r : Int32) (u : S) (t : State) (H1 : Heap) (locs1 : List Loc), t.heap = H1 → s.vm.Alike t.vm → post r u → B u t → H.size ≤ H1.size → (∀ q : Nat, q < H.size → ¬ A1 q → H1[q]? = H[q]?) → va_S A0 H0 H1 locs1 → W p l e R s m args below meth c H1 locs1 (cells + mc) (slots + ms) Q (F0 m (pc + 3) ls (.int r :: rest))) : W p l e R s m args below meth c H locs cells slots Q (F0 m pc ls st0) := by
  intro T hT X
  rcases hr T hT X with ⟨v, st₀, t, T', L, h0, X', hL, e1, e2, ⟨⟨r, u, hv, hp, hb⟩, hF⟩, st⟩ | ⟨q, st₀, t, T', L, E, ce, h0, X', hL, e1, e2, ⟨u, hp, hb, hF⟩, hce, hcv, hcl, st⟩
  · cases hv
    obtain ⟨k1, k2, k3⟩ := vx_keep h0 e1 hS hA hf hL hF
    obtain ⟨t2, a1, b1⟩ := kk r u t T'.heap (locs ++ L) e1.symm (by rw [← e2]; exact X'.warmed.alike) hp hb k1 k2 k3 T' rfl X'
    exact ⟨t2, st t2 a1, b1⟩
  · obtain ⟨k1, k2, k3⟩ := vx_keep h0 e1 hS hAX hf hL hF
    obtain ⟨t2, a1, b1⟩ := kx E ce q u t T'.heap (locs ++ L) e1.symm (by rw [← e2]; exact X'.warmed.alike) hp hb k1 k2 k3 (by rw [e1]; exact hce) hcv hcl T' rfl X'
    exact ⟨t2, st.trans a1, b1⟩
theorem vx_calll {S SX : Type} {post : Int64 → S → Prop} {px : SX → Prop} {B : S → State → Prop} {BX : String → SX → State → Prop} {AX : Nat → Prop} (hr : vx_Run p l e R s m args below meth c H locs cells slots mc ms (F0 m pc ls st0) rest (va_Ql post B A1 a) (vx_X px BX AX) free) (hS : va_S A0 H0 H locs) (hA : ∀ q, q < H.size → A1 q → A0 q) (hf : ∀ q, free q → A0 q) (hAX : ∀ q, q < H.size → AX q → A0 q)
    (kx : ∀ (E : String) (ce : Cell) (q9 : Addr) (u : SX) (t : State) (H1 : Heap) (locs1 : List Loc), t.heap = H1 → s.vm.Alike t.vm → px u → BX E u t → H.size ≤ H1.size → (∀ q : Nat, q < H.size → ¬ AX q → H1[q]? = H[q]?) → va_S A0 H0 H1 locs1 → H1[q9]? = some ce → ce.vm = .none → s.vm.findClass E = some ce.cls → vx_W p l e R s m args below meth c H1 locs1 (cells + mc) (slots + ms) Q (F0 m pc ls rest) q9)
    (kk : ∀ (r : Int64) (u : S) (t : State) (H1 : Heap) (locs1 : List Loc), t.heap = H1 → s.vm.Alike t.vm → post r u → B u t → H.size ≤ H1.size → (∀ q : Nat, q < H.size → ¬ A1 q → H1[q]? = H[q]?) → va_S A0 H0 H1 locs1 → W p l e R s m args below meth c H1 locs1 (cells + mc) (slots + ms) Q (F0 m (pc + 3) ls (.long r :: rest))) : W p l e R s m args below meth c H locs cells slots Q (F0 m pc ls st0) := by
  intro T hT X
  rcases hr T hT X with ⟨v, st₀, t, T', L, h0, X', hL, e1, e2, ⟨⟨r, u, hv, hp, hb⟩, hF⟩, st⟩ | ⟨q, st₀, t, T', L, E, ce, h0, X', hL, e1, e2, ⟨u, hp, hb, hF⟩, hce, hcv, hcl, st⟩
  · cases hv
    obtain ⟨k1, k2, k3⟩ := vx_keep h0 e1 hS hA hf hL hF
    obtain ⟨t2, a1, b1⟩ := kk r u t T'.heap (locs ++ L) e1.symm (by rw [← e2]; exact X'.warmed.alike) hp hb k1 k2 k3 T' rfl X'
    exact ⟨t2, st t2 a1, b1⟩
  · obtain ⟨k1, k2, k3⟩ := vx_keep h0 e1 hS hAX hf hL hF
    obtain ⟨t2, a1, b1⟩ := kx E ce q u t T'.heap (locs ++ L) e1.symm (by rw [← e2]; exact X'.warmed.alike) hp hb k1 k2 k3 (by rw [e1]; exact hce) hcv hcl T' rfl X'
    exact ⟨t2, st.trans a1, b1⟩
theorem vx_callf {S SX : Type} {post : UInt32 → S → Prop} {px : SX → Prop} {B : S → State → Prop} {BX : String → SX → State → Prop} {AX : Nat → Prop} (hr : vx_Run p l e R s m args below meth c H locs cells slots mc ms (F0 m pc ls st0) rest (va_Qf post B A1 a) (vx_X px BX AX) free) (hS : va_S A0 H0 H locs) (hA : ∀ q, q < H.size → A1 q → A0 q) (hf : ∀ q, free q → A0 q) (hAX : ∀ q, q < H.size → AX q → A0 q)
    (kx : ∀ (E : String) (ce : Cell) (q9 : Addr) (u : SX) (t : State) (H1 : Heap) (locs1 : List Loc), t.heap = H1 → s.vm.Alike t.vm → px u → BX E u t → H.size ≤ H1.size → (∀ q : Nat, q < H.size → ¬ AX q → H1[q]? = H[q]?) → va_S A0 H0 H1 locs1 → H1[q9]? = some ce → ce.vm = .none → s.vm.findClass E = some ce.cls → vx_W p l e R s m args below meth c H1 locs1 (cells + mc) (slots + ms) Q (F0 m pc ls rest) q9)
    (kk : ∀ (r : UInt32) (u : S) (t : State) (H1 : Heap) (locs1 : List Loc), t.heap = H1 → s.vm.Alike t.vm → post r u → B u t → H.size ≤ H1.size → (∀ q : Nat, q < H.size → ¬ A1 q → H1[q]? = H[q]?) → va_S A0 H0 H1 locs1 → W p l e R s m args below meth c H1 locs1 (cells + mc) (slots + ms) Q (F0 m (pc + 3) ls (.float r :: rest))) : W p l e R s m args below meth c H locs cells slots Q (F0 m pc ls st0) := by
  intro T hT X
  rcases hr T hT X with ⟨v, st₀, t, T', L, h0, X', hL, e1, e2, ⟨⟨r, u, hv, hp, hb⟩, hF⟩, st⟩ | ⟨q, st₀, t, T', L, E, ce, h0, X', hL, e1, e2, ⟨u, hp, hb, hF⟩, hce, hcv, hcl, st⟩
  · cases hv
    obtain ⟨k1, k2, k3⟩ := vx_keep h0 e1 hS hA hf hL hF
    obtain ⟨t2, a1, b1⟩ := kk r u t T'.heap (locs ++ L) e1.symm (by rw [← e2]; exact X'.warmed.alike) hp hb k1 k2 k3 T' rfl X'
    exact ⟨t2, st t2 a1, b1⟩
  · obtain ⟨k1, k2, k3⟩ := vx_keep h0 e1 hS hAX hf hL hF
    obtain ⟨t2, a1, b1⟩ := kx E ce q u t T'.heap (locs ++ L) e1.symm (by rw [← e2]; exact X'.warmed.alike) hp hb k1 k2 k3 (by rw [e1]; exact hce) hcv hcl T' rfl X'
    exact ⟨t2, st.trans a1, b1⟩
theorem vx_calld {S SX : Type} {post : UInt64 → S → Prop} {px : SX → Prop} {B : S → State → Prop} {BX : String → SX → State → Prop} {AX : Nat → Prop} (hr : vx_Run p l e R s m args below meth c H locs cells slots mc ms (F0 m pc ls st0) rest (va_Qd post B A1 a) (vx_X px BX AX) free) (hS : va_S A0 H0 H locs) (hA : ∀ q, q < H.size → A1 q → A0 q) (hf : ∀ q, free q → A0 q) (hAX : ∀ q, q < H.size → AX q → A0 q)
    (kx : ∀ (E : String) (ce : Cell) (q9 : Addr) (u : SX) (t : State) (H1 : Heap) (locs1 : List Loc), t.heap = H1 → s.vm.Alike t.vm → px u → BX E u t → H.size ≤ H1.size → (∀ q : Nat, q < H.size → ¬ AX q → H1[q]? = H[q]?) → va_S A0 H0 H1 locs1 → H1[q9]? = some ce → ce.vm = .none → s.vm.findClass E = some ce.cls → vx_W p l e R s m args below meth c H1 locs1 (cells + mc) (slots + ms) Q (F0 m pc ls rest) q9)
    (kk : ∀ (r : UInt64) (u : S) (t : State) (H1 : Heap) (locs1 : List Loc), t.heap = H1 → s.vm.Alike t.vm → post r u → B u t → H.size ≤ H1.size → (∀ q : Nat, q < H.size → ¬ A1 q → H1[q]? = H[q]?) → va_S A0 H0 H1 locs1 → W p l e R s m args below meth c H1 locs1 (cells + mc) (slots + ms) Q (F0 m (pc + 3) ls (.double r :: rest))) : W p l e R s m args below meth c H locs cells slots Q (F0 m pc ls st0) := by
  intro T hT X
  rcases hr T hT X with ⟨v, st₀, t, T', L, h0, X', hL, e1, e2, ⟨⟨r, u, hv, hp, hb⟩, hF⟩, st⟩ | ⟨q, st₀, t, T', L, E, ce, h0, X', hL, e1, e2, ⟨u, hp, hb, hF⟩, hce, hcv, hcl, st⟩
  · cases hv
    obtain ⟨k1, k2, k3⟩ := vx_keep h0 e1 hS hA hf hL hF
    obtain ⟨t2, a1, b1⟩ := kk r u t T'.heap (locs ++ L) e1.symm (by rw [← e2]; exact X'.warmed.alike) hp hb k1 k2 k3 T' rfl X'
    exact ⟨t2, st t2 a1, b1⟩
  · obtain ⟨k1, k2, k3⟩ := vx_keep h0 e1 hS hAX hf hL hF
    obtain ⟨t2, a1, b1⟩ := kx E ce q u t T'.heap (locs ++ L) e1.symm (by rw [← e2]; exact X'.warmed.alike) hp hb k1 k2 k3 (by rw [e1]; exact hce) hcv hcl T' rfl X'
    exact ⟨t2, st.trans a1, b1⟩
theorem vx_callv {S SX : Type} {post : S → Prop} {px : SX → Prop} {B : S → State → Prop} {BX : String → SX → State → Prop} {AX : Nat → Prop} (hr : vx_Run p l e R s m args below meth c H locs cells slots mc ms (F0 m pc ls st0) rest (va_Qv post B A1 a) (vx_X px BX AX) free) (hS : va_S A0 H0 H locs) (hA : ∀ q, q < H.size → A1 q → A0 q) (hf : ∀ q, free q → A0 q) (hAX : ∀ q, q < H.size → AX q → A0 q)
    (kx : ∀ (E : String) (ce : Cell) (q9 : Addr) (u : SX) (t : State) (H1 : Heap) (locs1 : List Loc), t.heap = H1 → s.vm.Alike t.vm → px u → BX E u t → H.size ≤ H1.size → (∀ q : Nat, q < H.size → ¬ AX q → H1[q]? = H[q]?) → va_S A0 H0 H1 locs1 → H1[q9]? = some ce → ce.vm = .none → s.vm.findClass E = some ce.cls → vx_W p l e R s m args below meth c H1 locs1 (cells + mc) (slots + ms) Q (F0 m pc ls rest) q9)
    (kk : ∀ (u : S) (t : State) (H1 : Heap) (locs1 : List Loc), t.heap = H1 → s.vm.Alike t.vm → post u → B u t → H.size ≤ H1.size → (∀ q : Nat, q < H.size → ¬ A1 q → H1[q]? = H[q]?) → va_S A0 H0 H1 locs1 → W p l e R s m args below meth c H1 locs1 (cells + mc) (slots + ms) Q (F0 m (pc + 3) ls (rest))) : W p l e R s m args below meth c H locs cells slots Q (F0 m pc ls st0) := by
  intro T hT X
  rcases hr T hT X with ⟨v, st₀, t, T', L, h0, X', hL, e1, e2, ⟨⟨u, hv, hp, hb⟩, hF⟩, st⟩ | ⟨q, st₀, t, T', L, E, ce, h0, X', hL, e1, e2, ⟨u, hp, hb, hF⟩, hce, hcv, hcl, st⟩
  · cases hv
    obtain ⟨k1, k2, k3⟩ := vx_keep h0 e1 hS hA hf hL hF
    obtain ⟨t2, a1, b1⟩ := kk u t T'.heap (locs ++ L) e1.symm (by rw [← e2]; exact X'.warmed.alike) hp hb k1 k2 k3 T' rfl X'
    exact ⟨t2, st t2 a1, b1⟩
  · obtain ⟨k1, k2, k3⟩ := vx_keep h0 e1 hS hAX hf hL hF
    obtain ⟨t2, a1, b1⟩ := kx E ce q u t T'.heap (locs ++ L) e1.symm (by rw [← e2]; exact X'.warmed.alike) hp hb k1 k2 k3 (by rw [e1]; exact hce) hcv hcl T' rfl X'
    exact ⟨t2, st.trans a1, b1⟩
/-- caught by the row x of this method's table; the rows ahead don't take it -/
theorem vx_catch {own name : String} {E : String} {ce : Cell} {q : Addr} (hown : s.vm.findClass own = some m.cls) (pre : List ExceptionTableEntry) (x : ExceptionTableEntry) (suf : List ExceptionTableEntry) (hsplit : c.exceptionTable.toList = pre ++ x :: suf)
    (hpass : ∀ z ∈ pre, covers z pc = false ∨ (z.catchType ≠ 0 ∧ ∃ nm : String, (Cond.classLink own z.catchType nm).before args s = true ∧ va_Nc E nm s)) (hx : covers x pc = true) (h0 : x.catchType ≠ 0)
    (hlink : (Cond.classLink own x.catchType name).before args s = true) (hcast : (Cond.castable E name).before args s = true) (hcell : H[q]? = some ce) (hv : ce.vm = .none) (hcl : s.vm.findClass E = some ce.cls)
    (kk : W p l e R s m args below meth c H locs cells slots Q (F0 m x.handlerPc ls [.ref q])) : vx_W p l e R s m args below meth c H locs cells slots Q (F0 m pc ls rest) q := by
  intro T hT X
  have hpl : e.platform.magicAccessors = ({} : Platform).magicAccessors := by rw [X.admits.platform]
  obtain ⟨c3, c4, hc3, hc4, hasg⟩ := Cond.castable_spec hcast
  cases Option.some.inj (hc3.symm.trans hcl)
  obtain ⟨c5, hc5, hcl5⟩ := Cond.classLink_spec hown hlink e.platform hpl
  cases Option.some.inj (hc4.symm.trans hc5)
  obtain ⟨vm', X', st⟩ := X.thenCaughtThrough q (g := F0 m pc ls rest) rfl (Steps.refl _) (by rw [hT]; exact hcell) (by rw [hv]; rfl) (by obtain ⟨k9, h9, -⟩ := Vm.findClass_spec hcl; exact ⟨k9, h9⟩) pre x suf hsplit
    (fun z hz => by
      rcases hpass z hz with h | ⟨hz0, nm, hl1, hn1⟩
      · exact Or.inl h
      · obtain ⟨c6, hc6, hcl6⟩ := Cond.classLink_spec hown hl1 e.platform hpl
        obtain ⟨a8, b8, h1, h2, h3⟩ := hn1
        cases Option.some.inj (h1.symm.trans hcl)
        cases Option.some.inj (h2.symm.trans hc6)
        exact Or.inr ⟨hz0, _, hcl6, h3⟩) hx (Or.inr ⟨h0, c4, hcl5, hasg⟩)
  obtain ⟨t, a1, b1⟩ := kk (T.setVm vm') hT X'
  exact ⟨t, st.trans a1, b1⟩
end Rows
section Ends
variable {p : Program} {l : Launch} {e : Env} {R : Room} {s : State} {m : MethodId} {args : Array Value} {below : List Frame} {meth : Method} {c : Code} {H : Heap} {locs : List Loc} {cells slots : Nat} {Q : State → Prop}
variable {mc ms : Nat} {free : Addr → Prop} {A0 A1 : Nat → Prop} {H0 : Heap} {a : Array Value} {ls : Array Slot} {st0 rest : List Value}
variable {Qc : Array Value → State → Outcome → State → Prop} {XC : String → State → State → Prop}
/-- what a body that may throw owes at its end -/
def vx_MQ (below : List Frame) (Qc : Array Value → State → Outcome → State → Prop) (XC : String → State → State → Prop) (a : Array Value) (s : State) (mc ms : Nat) (free : Addr → Prop) : State → Prop := fun t =>
  ∃ o, t.status = .running ∧ Ended t below o ∧ vx_Q Qc XC mc ms free a s o t
theorem vx_ret {g : JFrame} {mc ms : Nat} (k : W p l e R s m args below meth c H locs cells slots (MQ below Qc args s mc ms free) g) : W p l e R s m args below meth c H locs cells slots (vx_MQ below Qc XC args s mc ms free) g := by
  intro T hT X
  obtain ⟨t, a1, o, b1, b2, b3, b4⟩ := k T hT X
  exact ⟨t, a1, o, b1, b2, Or.inl ⟨b3, b4⟩⟩
/-- not caught here: it goes on to the caller -/
theorem vx_widen {g : JFrame} {q : Addr} {k n : Nat} (h1 : cells ≤ k) (h2 : slots ≤ n) (kk : vx_W p l e R s m args below meth c H locs k n Q g q) : vx_W p l e R s m args below meth c H locs cells slots Q g q := fun T hT X => kk T hT (stand_widen X h1 h2)
theorem vx_out {pc : Nat} {E : String} {ce : Cell} {q : Addr} {mc ms : Nat} (hout : ∀ x ∈ c.exceptionTable.toList, covers x pc = false) (hlocks : meth.locks = false) (hcell : H[q]? = some ce) (hv : ce.vm = .none) (hcl : s.vm.findClass E = some ce.cls)
    (hx : ∀ t : State, t.heap = H → s.vm.Alike t.vm → XC E s t) (hf : ∀ z ∈ locs, free z.base) (hc : cells ≤ mc) (hs : slots ≤ ms) :
    vx_W p l e R s m args below meth c H locs cells slots (vx_MQ below Qc XC args s mc ms free) (F0 m pc ls rest) q := by
  intro T hT X
  obtain ⟨st1, hrun, hend, hW, hsm⟩ := X.leaveThrown q (g := F0 m pc ls rest) rfl rfl rfl hout hlocks
  have hcell9 : (T.setFrames (.throwing q :: below)).heap[q]? = some ce := by
    show T.heap[q]? = some ce
    rw [hT]; exact hcell
  exact ⟨_, st1, .threw q, hrun, hend, Or.inr ⟨q, rfl, E, ce, locs, hx _ hT hW.alike, hcell9, hv, hcl, hW, hsm.mono hc hs, hf⟩⟩
theorem vx_frame {U : State} {k n : Nat} (h : s.sameButNew ({ U with vm := s.vm } : State) locs k n) : s.heap.size ≤ U.heap.size ∧ ∀ q : Nat, q < s.heap.size → (∀ z ∈ locs, z.base ≠ q) → U.heap[q]? = s.heap[q]? := by
  obtain ⟨-, h2, -, -, -, h6⟩ := h
  refine ⟨h2, fun q hq hz => ?_⟩
  obtain ⟨c9, e1, e2, e3, e4⟩ := h6 q _ (Array.getElem?_eq_getElem hq)
  have hs : c9.slots = (s.heap[q]).slots := Array.ext_getElem? fun i => e4 i fun hm => hz _ hm rfl
  have h9 : c9 = s.heap[q] := by
    rw [hs] at e2
    exact e2
  have e5 : U.heap[q]? = some c9 := e1
  rw [e5, h9, Array.getElem?_eq_getElem hq]
/-- the words of a throw but the four that speak of the heap -/
def vx_no (w : Cond) : Bool := decide (w ≠ .isRef (.static Bundle.tN "UNASSIGNED_STACK" Bundle.steD)) && decide (w ≠ .isRef (.static Bundle.tN "SUPPRESSED_SENTINEL" Bundle.listD)) && decide (w ≠ .laysStatic Bundle.tN "UNASSIGNED_STACK" Bundle.steD) && decide (w ≠ .laysStatic Bundle.tN "SUPPRESSED_SENTINEL" Bundle.listD)
def vx_at0 (own : String) (ic : Nat) (X : String) (names : List String) : List Cond := (Bundle.ownAtoms0 own ic X names).filter vx_no
def vx_atS (own : String) (ic : Nat) (X : String) (names : List String) : List Cond := (Bundle.ownAtoms own ic X names).filter vx_no
/-- a word that the tables alone decide, or a good one -/
def vx_ot (w : Cond) : Bool := w.onTables || goodWord w
theorem vx_ot_at {args a' : Array Value} {s U : State} {w : Cond} (hW : s.WarmedH U.vm) (hvm : s.vm = U.vm) (hg : vx_ot w = true) (h : w.before args s = true) : w.before a' U = true := by
  simp only [vx_ot, Bool.or_eq_true] at hg
  rcases hg with hg | hg
  · exact va_tabs hg hvm h
  · exact word_at hW (good_of_word hg) h
/-- a list's words: the good ones out of the method's own list, the others by premises of their own -/
theorem vx_hat {args : Array Value} {s : State} {L B : List Cond} (h1 : ∀ w ∈ L.filter goodWord, w.before args s = true) (h2 : ∀ w ∈ L.filter (fun w => !goodWord w), w ∈ B) (h3 : ∀ w ∈ B, w.before args s = true) : ∀ w ∈ L, w.before args s = true := by
  intro w hw
  by_cases g : goodWord w = true
  · exact h1 w (List.mem_filter.mpr ⟨hw, g⟩)
  · refine h3 w (h2 w (List.mem_filter.mpr ⟨hw, ?_⟩))
    show (!goodWord w) = true
    cases hgw : goodWord w
    · rfl
    · exact absurd hgw g
theorem vx_c {args : Array Value} {s : State} {w : Cond} {B : List Cond} (h : w.before args s = true) (t : ∀ w ∈ B, w.before args s = true) : ∀ w' ∈ w :: B, w'.before args s = true := fun w' h' => (List.mem_cons.mp h').elim (fun e => by rw [e]; exact h) (t w')
theorem vx_n {args : Array Value} {s : State} : ∀ w ∈ ([] : List Cond), w.before args s = true := fun _ h => nomatch h
theorem vx_own {args : Array Value} {s : State} {L : List Cond} (h1 : ∀ w ∈ L.filter vx_no, w.before args s = true)
    (hU : (Cond.isRef (.static Bundle.tN "UNASSIGNED_STACK" Bundle.steD)).before args s = true) (hN : (Cond.isRef (.static Bundle.tN "SUPPRESSED_SENTINEL" Bundle.listD)).before args s = true)
    (lU : (Cond.laysStatic Bundle.tN "UNASSIGNED_STACK" Bundle.steD).before args s = true) (lN : (Cond.laysStatic Bundle.tN "SUPPRESSED_SENTINEL" Bundle.listD).before args s = true) : ∀ w ∈ L, w.before args s = true := by
  intro w hw
  by_cases e1 : w = .isRef (.static Bundle.tN "UNASSIGNED_STACK" Bundle.steD)
  · rw [e1]; exact hU
  · by_cases e2 : w = .isRef (.static Bundle.tN "SUPPRESSED_SENTINEL" Bundle.listD)
    · rw [e2]; exact hN
    · by_cases e3 : w = .laysStatic Bundle.tN "UNASSIGNED_STACK" Bundle.steD
      · rw [e3]; exact lU
      · by_cases e4 : w = .laysStatic Bundle.tN "SUPPRESSED_SENTINEL" Bundle.listD
        · rw [e4]; exact lN
        · exact h1 w (List.mem_filter.mpr ⟨hw, by unfold vx_no; rw [decide_eq_true e1, decide_eq_true e2, decide_eq_true e3, decide_eq_true e4]; rfl⟩)
/-- where a static field lies, its class's statics cell in H -/
def vx_L (C n d : String) (A : Nat → Prop) (U : State) (H : Heap) : Prop := ∃ (c : ClassId) (k : Class) (i : Nat) (f : Field) (a : Nat) (cell : Cell), U.vm.findClass C = some c ∧ U.fieldFound? C n d = some (c, k, i, f) ∧ f.isStatic = true ∧ k.statics = some a ∧ H[a]? = some cell ∧ cell.vm.isStatics = true ∧ cell.cls = c ∧ f.slot < cell.slots.size ∧ k.staticTypes[f.slot]? = some f.type ∧ ¬ A a
theorem vx_L.moved {C n d : String} {A : Nat → Prop} {u U : State} {H : Heap} (hvm : u.vm.Alike U.vm) (h : vx_L C n d A u H) : vx_L C n d A U H := by
  obtain ⟨c, k, i, f, a, cell, h1, h2, h3, h4, h5, h6, h7, h8, h9, h10⟩ := h
  obtain ⟨k', hi', he⟩ := State.fieldFound?_setVm hvm h2
  exact ⟨c, k', i, f, a, cell, by rw [hvm.findClass]; exact h1, hi', h3, by rw [he]; exact h4, h5, h6, h7, h8, by rw [he]; exact h9, h10⟩
theorem vx_L.kept {C n d : String} {A : Nat → Prop} {U : State} {H H1 : Heap} (h : vx_L C n d A U H) (hq : ∀ a : Nat, a < H.size → ¬ A a → H1[a]? = H[a]?) : vx_L C n d A U H1 := by
  obtain ⟨c, k, i, f, a, cell, h1, h2, h3, h4, h5, h6, h7, h8, h9, h10⟩ := h
  exact ⟨c, k, i, f, a, cell, h1, h2, h3, h4, by rw [hq a (Array.getElem?_eq_some_iff.mp h5).1 h10]; exact h5, h6, h7, h8, h9, h10⟩
theorem vx_L.narrow {C n d : String} {A B : Nat → Prop} {U : State} {H : Heap} (h : vx_L C n d A U H) (hAB : ∀ q, B q → A q) : vx_L C n d B U H := by
  obtain ⟨c, k, i, f, a, cell, h1, h2, h3, h4, h5, h6, h7, h8, h9, h10⟩ := h
  exact ⟨c, k, i, f, a, cell, h1, h2, h3, h4, h5, h6, h7, h8, h9, fun z => h10 (hAB _ z)⟩
theorem vx_L.word {C n d : String} {A : Nat → Prop} {s : State} {args : Array Value} (h : vx_L C n d A s s.heap) : (Cond.laysStatic C n d).before args s = true := by
  obtain ⟨c, k, i, f, a, cell, h1, h2, h3, h4, h5, h6, h7, h8, h9, -⟩ := h
  show (Cond.laysStatic C n d).holds args s none s [] = true
  exact Cond.laysStatic_of h1 h2 h3 h4 h5 h6 h7 h8 h9
/-- .. and what it holds: null or some reference -/
def vx_Zq (C n d : String) (A : Nat → Prop) (U : State) (H : Heap) : Prop := va_Zq C n d A U H ∧ vx_L C n d A U H
theorem vx_Zq.moved {C n d : String} {A : Nat → Prop} {u U : State} {H : Heap} (hvm : u.vm.Alike U.vm) (h : vx_Zq C n d A u H) : vx_Zq C n d A U H := ⟨va_Zq.moved hvm h.1, vx_L.moved hvm h.2⟩
theorem vx_Zq.kept {C n d : String} {A : Nat → Prop} {U : State} {H H1 : Heap} (h : vx_Zq C n d A U H) (hq : ∀ a : Nat, a < H.size → ¬ A a → H1[a]? = H[a]?) : vx_Zq C n d A U H1 := ⟨va_Zq.kept h.1 hq, vx_L.kept h.2 hq⟩
theorem vx_Zq.narrow {C n d : String} {A B : Nat → Prop} {U : State} {H : Heap} (h : vx_Zq C n d A U H) (hAB : ∀ q, B q → A q) : vx_Zq C n d B U H := ⟨va_Zq.narrow h.1 hAB, vx_L.narrow h.2 hAB⟩
theorem vx_Zqof {args : Array Value} {s : State} {C n d : String} {A : Nat → Prop} (hl : (Cond.laysStatic C n d).before args s = true) (hini : (Cond.initialized C).before args s = true) (h : (Cond.isRef (.static C n d)).before args s = true) (hA : ∀ a : Nat, a < s.heap.size → ¬ A a) : vx_Zq C n d A s s.heap := by
  refine ⟨va_Zqof hl hini h hA, ?_⟩
  obtain ⟨c, k, i, f, a, cell, h1, h2, h3, h4, h5, h6, h7, h8, h9⟩ := Cond.laysStatic_spec hl
  exact ⟨c, k, i, f, a, cell, h1, h2, h3, h4, h5, h6, h7, h8, h9, hA a (Array.getElem?_eq_some_iff.mp h5).1⟩
theorem vx_isRef {C n d : String} {v : Value} {A : Nat → Prop} {s : State} {args : Array Value} (h : va_Z C n d v A s s.heap) (hv : v.isRef = true) : (Cond.isRef (.static C n d)).before args s = true := by
  obtain ⟨cf, kf, fi, f, a, cell, h1, h2, h3, h4, h5, h6, h7, -⟩ := h
  have he : (Term.static C n d).eval args s none [] s = some v := by
    simp [Term.eval, State.fieldNamed?, h1, h2, h4, h5, h6, h7]
  simp only [Cond.before, Cond.holds, Cond.value, he]
  cases v <;> simp_all [Value.isRef]
theorem vx_isRefq {C n d : String} {A : Nat → Prop} {s : State} {args : Array Value} (h : va_Zq C n d A s s.heap) : (Cond.isRef (.static C n d)).before args s = true := by
  rcases h with h | ⟨t, h⟩
  · exact vx_isRef h rfl
  · exact vx_isRef h rfl
/-- the same frame, seen from here: as if the method were called anew in this heap -/
theorem vx_rebase {T : State} (X : Stand p l e R s m args below meth c T locs cells slots) {R' : Room} (hf : R'.frames ≤ R.frames) (hl : R'.locals ≤ R.locals) (hc : cells + R'.cells ≤ R.cells) (hs : slots + R'.slots ≤ R.slots) :
    Stand p l e R' ((T.setVm s.vm).setFrames (.invoking m args :: below)) m args below meth c T [] 0 0 := by
  have htop : (T.setVm s.vm).topJava?.isSome := X.here.top
  have hF : ((T.setVm s.vm).setFrames (.invoking m args :: below)).frames = .invoking m args :: below := State.frames_setFrames _ (State.cur_lt_of_top htop)
  obtain ⟨g₀, hg0⟩ := Option.isSome_iff_exists.mp htop
  obtain ⟨r, hr⟩ := State.topJava?_eq_some.mp hg0
  have hl9 : e.platform.stackLimits (T.setVm s.vm).me = e.platform.stackLimits s.me := X.limits
  have hb9 : (T.setVm s.vm).me.stackBytes = s.me.stackBytes := X.bytes
  refine ⟨X.admits, X.cas, X.clock, hF, ?_, X.hears, X.method, X.code, X.here, X.tail, X.warmed, ?_, ?_, ?_⟩
  · have h := X.room
    have hU : ((T.setVm s.vm).setFrames (.invoking m args :: below)).localsInUse = s.localsInUse := by
      rw [State.localsInUse_invoking hF (meth := meth) (c := c) X.method X.code, State.localsInUse_invoking X.frames X.method X.code]
    simp only [State.hasRoom, Bool.and_eq_true, decide_eq_true_eq] at h ⊢
    obtain ⟨⟨⟨⟨h1, h2, h3, h4, h5, h6⟩, h7⟩, h8⟩, h9⟩ := h
    rw [X.frames, List.length_cons] at h2 h3
    have q1 := X.heapSize
    have q2 := X.used
    simp only [hF, hU, List.length_cons, State.stackLimits_setFrames, State.stackBytes_setFrames, hl9, hb9]
    refine ⟨⟨⟨⟨by omega, by omega, by omega, by omega, by omega, h6⟩, ?_⟩, ?_⟩, X.book⟩
    · show T.heap.size + R'.cells ≤ e.platform.maxCells
      omega
    · show T.slotsUsed + R'.slots ≤ e.platform.maxSlots
      omega
  · rw [State.stackLimits_setFrames]; rfl
  · rw [State.stackBytes_setFrames]; rfl
  · refine ⟨?_, Nat.le_refl _, Nat.le_refl _, ?_, ?_, fun a c9 h9 => ⟨c9, h9, rfl, rfl, fun _ _ => rfl⟩⟩
    · obtain ⟨t, ht, -⟩ := State.frames_cons hr
      show T.setVm s.vm = { ((T.setVm s.vm).setFrames (.invoking m args :: below)).setFrames (T.setVm s.vm).frames with heap := T.heap, slotsUsed := T.slotsUsed }
      rw [State.setFrames_setFrames, State.setFrames_self ht]
      rfl
    · show T.slotsUsed = T.slotsUsed + ((T.heap.toList.drop T.heap.size).map (·.slots.size)).sum
      rw [List.drop_eq_nil_of_le (Nat.le_of_eq Array.length_toList)]
      rfl
    · show ((T.heap.toList.drop T.heap.size).map (·.slots.size)).sum ≤ 0
      rw [List.drop_eq_nil_of_le (Nat.le_of_eq Array.length_toList)]
      exact Nat.le_refl _
/-- 'throw new E()': new; dup; invokespecial; athrow -/
theorem vx_throw0 {cc : ByteArray} {pc : Nat} (hexec : p.tables.exec = Jvm.exec) (hb : c.code = cc) (hl : l.stackTraces = false) {own cls : String} {names : List String} {ik ic mc ms : Nat} {A : Nat → Prop}
    (hown : s.vm.findClass own = some m.cls) (hcls : Bundle.fit cls = true) (hnames : ∀ n ∈ names, Bundle.fit n = true)
    (hk : (Cond.classLink own ik cls).before args s = true) (hini : (Cond.initialized cls).before args s = true) (hat : ∀ w ∈ vx_at0 own ic cls names, w.before args s = true)
    (hgood : ∀ w ∈ Cond.classLink own ik cls :: Cond.initialized cls :: vx_at0 own ic cls names, vx_ot w = true)
    (hU : vx_Zq Bundle.tN "UNASSIGNED_STACK" Bundle.steD A s s.heap) (hN : vx_Zq Bundle.tN "SUPPRESSED_SENTINEL" Bundle.listD A s s.heap) (hS : va_S A s.heap H locs) (hsize : ls.size = c.maxLocals)
    (d0 : decode cc pc = .ok (.new ik, 3)) (d3 : decode cc (pc + 3) = .ok (.dup, 1)) (d4 : decode cc (pc + 4) = .ok (.invokespecial ic, 3)) (d7 : decode cc (pc + 7) = .ok (.athrow, 1))
    (hout : ∀ x ∈ c.exceptionTable.toList, covers x (pc + 7) = false)
    (hRframes : names.length + 3 < R.frames) (hRlocals : (rest.map fun v => v.category).sum + (13 * (names.length + 1) + 42) ≤ R.locals) (hRcells : cells + 1 ≤ R.cells) (hRslots : slots + 6 ≤ R.slots) (hlocks : meth.locks = false)
    (hx : ∀ t : State, s.vm.Alike t.vm → H.size ≤ t.heap.size → (∀ q : Nat, q < H.size → t.heap[q]? = H[q]?) → XC cls s t)
    (hf : ∀ z ∈ locs, free z.base) (hc : cells + 1 ≤ mc) (hs : slots + 6 ≤ ms) :
    W p l e R s m args below meth c H locs cells slots (vx_MQ below Qc XC args s mc ms free) (F0 m pc ls rest) := by
  intro T hT X
  have htr : e.platform.stackTraces = false := (show e.platform.stackTraces = l.stackTraces by rw [X.admits.platform]).trans hl
  have Y := vx_rebase X (R' := { frames := R.frames, locals := R.locals, cells := 1, slots := 6 }) (Nat.le_refl _) (Nat.le_refl _) hRcells hRslots
  obtain ⟨s', hA⟩ : ∃ z, z = (T.setVm s.vm).setFrames (.invoking m args :: below) := ⟨_, rfl⟩
  rw [← hA] at Y
  have hvm : s'.vm = s.vm := by rw [hA]; rfl
  have hhp : s'.heap = H := by rw [hA]; exact hT
  have hW0 : s.WarmedH s'.vm := by rw [hvm]; exact State.WarmedH.refl s
  have hat' : ∀ w ∈ vx_at0 own ic cls names, w.before args s' = true := fun w hw => vx_ot_at hW0 hvm.symm (hgood w (List.mem_cons_of_mem _ (List.mem_cons_of_mem _ hw))) (hat w hw)
  have hk' : (Cond.classLink own ik cls).before args s' = true := vx_ot_at hW0 hvm.symm (hgood _ List.mem_cons_self) hk
  have hini' : (Cond.initialized cls).before args s' = true := vx_ot_at hW0 hvm.symm (hgood _ (List.mem_cons_of_mem _ List.mem_cons_self)) hini
  have hU' : vx_Zq Bundle.tN "UNASSIGNED_STACK" Bundle.steD A s' s'.heap := by rw [hhp]; exact vx_Zq.moved hW0.alike (hU.kept hS.2.1)
  have hN' : vx_Zq Bundle.tN "SUPPRESSED_SENTINEL" Bundle.listD A s' s'.heap := by rw [hhp]; exact vx_Zq.moved hW0.alike (hN.kept hS.2.1)
  have h : ∀ w ∈ Bundle.ownAtoms0 own ic cls names, w.before args s' = true := vx_own hat' (vx_isRefq hU'.1) (vx_isRefq hN'.1) hU'.2.word hN'.2.word
  have hown' : s'.vm.findClass own = some m.cls := by rw [hvm]; exact hown
  have hins : (Cond.instantiable cls 6).before args s' = true := h _ (by simp [Bundle.ownAtoms0])
  obtain ⟨vm₁, cX, kX, hfX, hkX, -, -, X₁, st1⟩ := Y.newCold hexec (own := own) (C := cls) (index := ik) (n := 6) hown' hk' hins hini'
    (g := F0 m pc ls rest) rfl (by rw [hb]; exact d0) (Nat.le_refl _) (Nat.le_refl _)
  generalize hT1 : (T.setVm vm₁).pushCell { cls := cX, slots := kX.instanceTypes.map defaultValue, vm := .none } = T1 at X₁ st1
  have hcat : (Value.ref T.heap.size).category = 1 := rfl
  have hcellA : T1.heap[T.heap.size]? = some (freshCell cX kX) := by rw [← hT1]; exact State.heap_pushCell_size _ _
  have d3' : decode c.code (pc + 3) = .ok (.dup, 1) := by rw [hb]; exact d3
  obtain ⟨U, hsteps, hrun, hend, hW, hsame, ce, hce, hO⟩ := X₁.ctorThrow0 hexec htr (own := own) (cls := cls) (names := names) (ic := ic) hown' hcls hnames h (fun x hx => nomatch hx) hfX hkX hcellA (by rw [hhp, hT]; exact Nat.le_refl _)
    (g := { method := m, pc := pc + 4, locals := ls, stack := .ref T.heap.size :: .ref T.heap.size :: rest, locked := none }) rfl hsize rfl rfl (rest := rest) rfl
    (by rw [hb]; exact d4) (by rw [hb]; exact d7) hout hRframes (by simp only [List.map_cons, List.sum_cons, hcat]; omega) hlocks
  obtain ⟨f1, f2⟩ := vx_frame hsame
  rw [hhp] at f1 f2
  have hWs : s.WarmedH U.vm := State.WarmedH.trans hW0 hW
  have hcl : s.vm.findClass cls = some ce.cls := by
    have h9 := hO.cls
    rw [hvm] at h9
    exact h9
  have hall : s.sameButNew ({ U with vm := s.vm } : State) locs mc ms := by
    subst hA
    obtain ⟨e1, e2⟩ := hsame
    rw [State.setFrames_setFrames] at e1
    have h2 : (T.setVm s.vm).sameButNew ({ U with vm := s.vm } : State) [] (0 + 1) (0 + 6) := ⟨e1, e2⟩
    have h3 := X.same.trans h2
    rw [List.append_nil] at h3
    exact h3.mono hc hs
  refine ⟨U, ?_, .threw T.heap.size, hrun, hend, Or.inr ⟨T.heap.size, rfl, cls, ce, locs, hx U hWs.alike f1 (fun q hq => f2 q hq (fun z hz => nomatch hz)), hce, hO.vm, hcl, hWs, hall, hf⟩⟩
  refine st1 _ ?_
  show Steps p.tables e below (T1.setTop { method := m, pc := pc + 3, locals := ls, stack := .ref T.heap.size :: rest, locked := none }) _
  jvm_step X₁.here [X₁.here.top, hexec, d3', Value.category]
  exact hsteps
/-- 'throw new E("text")': new; dup; ldc; invokespecial; athrow -/
theorem vx_throwS {cc : ByteArray} {pc : Nat} (hexec : p.tables.exec = Jvm.exec) (hb : c.code = cc) (hl : l.stackTraces = false) {own cls text : String} {names : List String} {ik is ic mc ms sa : Nat} {A : Nat → Prop}
    (hown : s.vm.findClass own = some m.cls) (hcls : Bundle.fit cls = true) (hnames : ∀ n ∈ names, Bundle.fit n = true)
    (hk : (Cond.classLink own ik cls).before args s = true) (hini : (Cond.initialized cls).before args s = true) (hstr : vk_R own is text sa s) (hat : ∀ w ∈ vx_atS own ic cls names, w.before args s = true)
    (hgood : ∀ w ∈ Cond.classLink own ik cls :: Cond.initialized cls :: vx_atS own ic cls names, vx_ot w = true)
    (hU : vx_Zq Bundle.tN "UNASSIGNED_STACK" Bundle.steD A s s.heap) (hN : vx_Zq Bundle.tN "SUPPRESSED_SENTINEL" Bundle.listD A s s.heap) (hS : va_S A s.heap H locs) (hsize : ls.size = c.maxLocals)
    (d0 : decode cc pc = .ok (.new ik, 3)) (d3 : decode cc (pc + 3) = .ok (.dup, 1)) (d4 : decode cc (pc + 4) = .ok (.ldc is, 2)) (d6 : decode cc (pc + 6) = .ok (.invokespecial ic, 3)) (d9 : decode cc (pc + 9) = .ok (.athrow, 1))
    (hout : ∀ x ∈ c.exceptionTable.toList, covers x (pc + 9) = false)
    (hRframes : names.length + 3 < R.frames) (hRlocals : (rest.map fun v => v.category).sum + (13 * (names.length + 1) + 43) ≤ R.locals) (hRcells : cells + 1 ≤ R.cells) (hRslots : slots + 6 ≤ R.slots) (hlocks : meth.locks = false)
    (hx : ∀ t : State, s.vm.Alike t.vm → H.size ≤ t.heap.size → (∀ q : Nat, q < H.size → t.heap[q]? = H[q]?) → XC cls s t)
    (hf : ∀ z ∈ locs, free z.base) (hc : cells + 1 ≤ mc) (hs : slots + 6 ≤ ms) :
    W p l e R s m args below meth c H locs cells slots (vx_MQ below Qc XC args s mc ms free) (F0 m pc ls rest) := by
  intro T hT X
  have htr : e.platform.stackTraces = false := (show e.platform.stackTraces = l.stackTraces by rw [X.admits.platform]).trans hl
  have Y := vx_rebase X (R' := { frames := R.frames, locals := R.locals, cells := 1, slots := 6 }) (Nat.le_refl _) (Nat.le_refl _) hRcells hRslots
  obtain ⟨s', hA⟩ : ∃ z, z = (T.setVm s.vm).setFrames (.invoking m args :: below) := ⟨_, rfl⟩
  rw [← hA] at Y
  have hvm : s'.vm = s.vm := by rw [hA]; rfl
  have hhp : s'.heap = H := by rw [hA]; exact hT
  have hW0 : s.WarmedH s'.vm := by rw [hvm]; exact State.WarmedH.refl s
  have hat' : ∀ w ∈ vx_atS own ic cls names, w.before args s' = true := fun w hw => vx_ot_at hW0 hvm.symm (hgood w (List.mem_cons_of_mem _ (List.mem_cons_of_mem _ hw))) (hat w hw)
  have hk' : (Cond.classLink own ik cls).before args s' = true := vx_ot_at hW0 hvm.symm (hgood _ List.mem_cons_self) hk
  have hini' : (Cond.initialized cls).before args s' = true := vx_ot_at hW0 hvm.symm (hgood _ (List.mem_cons_of_mem _ List.mem_cons_self)) hini
  have hU' : vx_Zq Bundle.tN "UNASSIGNED_STACK" Bundle.steD A s' s'.heap := by rw [hhp]; exact vx_Zq.moved hW0.alike (hU.kept hS.2.1)
  have hN' : vx_Zq Bundle.tN "SUPPRESSED_SENTINEL" Bundle.listD A s' s'.heap := by rw [hhp]; exact vx_Zq.moved hW0.alike (hN.kept hS.2.1)
  have h : ∀ w ∈ Bundle.ownAtoms own ic cls names, w.before args s' = true := vx_own hat' (vx_isRefq hU'.1) (vx_isRefq hN'.1) hU'.2.word hN'.2.word
  have hown' : s'.vm.findClass own = some m.cls := by rw [hvm]; exact hown
  have hins : (Cond.instantiable cls 6).before args s' = true := h _ (by simp [Bundle.ownAtoms])
  obtain ⟨vm₁, cX, kX, hfX, hkX, -, -, X₁, st1⟩ := Y.newCold hexec (own := own) (C := cls) (index := ik) (n := 6) hown' hk' hins hini'
    (g := F0 m pc ls rest) rfl (by rw [hb]; exact d0) (Nat.le_refl _) (Nat.le_refl _)
  generalize hT1 : (T.setVm vm₁).pushCell { cls := cX, slots := kX.instanceTypes.map defaultValue, vm := .none } = T1 at X₁ st1
  have hcat : (Value.ref T.heap.size).category = 1 := rfl
  have hcellA : T1.heap[T.heap.size]? = some (freshCell cX kX) := by rw [← hT1]; exact State.heap_pushCell_size _ _
  have d3' : decode c.code (pc + 3) = .ok (.dup, 1) := by rw [hb]; exact d3
  have d4' : decode c.code (pc + 4) = .ok (.ldc is, 2) := by rw [hb]; exact d4
  have hstr' : vk_R own is text sa s' := vk_R.warm hW0 hstr
  obtain ⟨U, hsteps, hrun, hend, hW, hsame, ce, hce, hO⟩ := X₁.ctorThrowS hexec htr (own := own) (cls := cls) (names := names) (ic := ic) hown' hcls hnames h (fun x hx => nomatch hx) hfX hkX hcellA (by rw [hhp, hT]; exact Nat.le_refl _) (msg := .ref sa) rfl
    (g := { method := m, pc := pc + 6, locals := ls, stack := .ref sa :: .ref T.heap.size :: .ref T.heap.size :: rest, locked := none }) rfl hsize rfl rfl (rest := rest) rfl
    (by rw [hb]; exact d6) (by rw [hb]; exact d9) hout hRframes (by simp only [List.map_cons, List.sum_cons, hcat]; omega) hlocks
  obtain ⟨f1, f2⟩ := vx_frame hsame
  rw [hhp] at f1 f2
  have hWs : s.WarmedH U.vm := State.WarmedH.trans hW0 hW
  have hcl : s.vm.findClass cls = some ce.cls := by
    have h9 := hO.cls
    rw [hvm] at h9
    exact h9
  have hall : s.sameButNew ({ U with vm := s.vm } : State) locs mc ms := by
    subst hA
    obtain ⟨e1, e2⟩ := hsame
    rw [State.setFrames_setFrames] at e1
    have h2 : (T.setVm s.vm).sameButNew ({ U with vm := s.vm } : State) [] (0 + 1) (0 + 6) := ⟨e1, e2⟩
    have h3 := X.same.trans h2
    rw [List.append_nil] at h3
    exact h3.mono hc hs
  refine ⟨U, ?_, .threw T.heap.size, hrun, hend, Or.inr ⟨T.heap.size, rfl, cls, ce, locs, hx U hWs.alike f1 (fun q hq => f2 q hq (fun z hz => nomatch hz)), hce, hO.vm, hcl, hWs, hall, hf⟩⟩
  refine st1 _ ?_
  show Steps p.tables e below (T1.setTop { method := m, pc := pc + 3, locals := ls, stack := .ref T.heap.size :: rest, locked := none }) _
  jvm_step X₁.here [X₁.here.top, hexec, d3', Value.category]
  exact X₁.ldcString hexec (own := own) (text := text) (index := is) (a := sa) hown' hstr'.1 hstr'.2
    (g := { method := m, pc := pc + 4, locals := ls, stack := .ref T.heap.size :: .ref T.heap.size :: rest, locked := none }) rfl d4' _ hsteps
/-- 'throw new E("text")', the text by a wide index -/
theorem vx_throwSW {cc : ByteArray} {pc : Nat} (hexec : p.tables.exec = Jvm.exec) (hb : c.code = cc) (hl : l.stackTraces = false) {own cls text : String} {names : List String} {ik is ic mc ms sa : Nat} {A : Nat → Prop}
    (hown : s.vm.findClass own = some m.cls) (hcls : Bundle.fit cls = true) (hnames : ∀ n ∈ names, Bundle.fit n = true)
    (hk : (Cond.classLink own ik cls).before args s = true) (hini : (Cond.initialized cls).before args s = true) (hstr : vk_R own is text sa s) (hat : ∀ w ∈ vx_atS own ic cls names, w.before args s = true)
    (hgood : ∀ w ∈ Cond.classLink own ik cls :: Cond.initialized cls :: vx_atS own ic cls names, vx_ot w = true)
    (hU : vx_Zq Bundle.tN "UNASSIGNED_STACK" Bundle.steD A s s.heap) (hN : vx_Zq Bundle.tN "SUPPRESSED_SENTINEL" Bundle.listD A s s.heap) (hS : va_S A s.heap H locs) (hsize : ls.size = c.maxLocals)
    (d0 : decode cc pc = .ok (.new ik, 3)) (d3 : decode cc (pc + 3) = .ok (.dup, 1)) (d4 : decode cc (pc + 4) = .ok (.ldc_w is, 3)) (d7 : decode cc (pc + 7) = .ok (.invokespecial ic, 3)) (d10 : decode cc (pc + 10) = .ok (.athrow, 1))
    (hout : ∀ x ∈ c.exceptionTable.toList, covers x (pc + 10) = false)
    (hRframes : names.length + 3 < R.frames) (hRlocals : (rest.map fun v => v.category).sum + (13 * (names.length + 1) + 43) ≤ R.locals) (hRcells : cells + 1 ≤ R.cells) (hRslots : slots + 6 ≤ R.slots) (hlocks : meth.locks = false)
    (hx : ∀ t : State, s.vm.Alike t.vm → H.size ≤ t.heap.size → (∀ q : Nat, q < H.size → t.heap[q]? = H[q]?) → XC cls s t)
    (hf : ∀ z ∈ locs, free z.base) (hc : cells + 1 ≤ mc) (hs : slots + 6 ≤ ms) :
    W p l e R s m args below meth c H locs cells slots (vx_MQ below Qc XC args s mc ms free) (F0 m pc ls rest) := by
  intro T hT X
  have htr : e.platform.stackTraces = false := (show e.platform.stackTraces = l.stackTraces by rw [X.admits.platform]).trans hl
  have Y := vx_rebase X (R' := { frames := R.frames, locals := R.locals, cells := 1, slots := 6 }) (Nat.le_refl _) (Nat.le_refl _) hRcells hRslots
  obtain ⟨s', hA⟩ : ∃ z, z = (T.setVm s.vm).setFrames (.invoking m args :: below) := ⟨_, rfl⟩
  rw [← hA] at Y
  have hvm : s'.vm = s.vm := by rw [hA]; rfl
  have hhp : s'.heap = H := by rw [hA]; exact hT
  have hW0 : s.WarmedH s'.vm := by rw [hvm]; exact State.WarmedH.refl s
  have hat' : ∀ w ∈ vx_atS own ic cls names, w.before args s' = true := fun w hw => vx_ot_at hW0 hvm.symm (hgood w (List.mem_cons_of_mem _ (List.mem_cons_of_mem _ hw))) (hat w hw)
  have hk' : (Cond.classLink own ik cls).before args s' = true := vx_ot_at hW0 hvm.symm (hgood _ List.mem_cons_self) hk
  have hini' : (Cond.initialized cls).before args s' = true := vx_ot_at hW0 hvm.symm (hgood _ (List.mem_cons_of_mem _ List.mem_cons_self)) hini
  have hU' : vx_Zq Bundle.tN "UNASSIGNED_STACK" Bundle.steD A s' s'.heap := by rw [hhp]; exact vx_Zq.moved hW0.alike (hU.kept hS.2.1)
  have hN' : vx_Zq Bundle.tN "SUPPRESSED_SENTINEL" Bundle.listD A s' s'.heap := by rw [hhp]; exact vx_Zq.moved hW0.alike (hN.kept hS.2.1)
  have h : ∀ w ∈ Bundle.ownAtoms own ic cls names, w.before args s' = true := vx_own hat' (vx_isRefq hU'.1) (vx_isRefq hN'.1) hU'.2.word hN'.2.word
  have hown' : s'.vm.findClass own = some m.cls := by rw [hvm]; exact hown
  have hins : (Cond.instantiable cls 6).before args s' = true := h _ (by simp [Bundle.ownAtoms])
  obtain ⟨vm₁, cX, kX, hfX, hkX, -, -, X₁, st1⟩ := Y.newCold hexec (own := own) (C := cls) (index := ik) (n := 6) hown' hk' hins hini'
    (g := F0 m pc ls rest) rfl (by rw [hb]; exact d0) (Nat.le_refl _) (Nat.le_refl _)
  generalize hT1 : (T.setVm vm₁).pushCell { cls := cX, slots := kX.instanceTypes.map defaultValue, vm := .none } = T1 at X₁ st1
  have hcat : (Value.ref T.heap.size).category = 1 := rfl
  have hcellA : T1.heap[T.heap.size]? = some (freshCell cX kX) := by rw [← hT1]; exact State.heap_pushCell_size _ _
  have d3' : decode c.code (pc + 3) = .ok (.dup, 1) := by rw [hb]; exact d3
  have d4' : decode c.code (pc + 4) = .ok (.ldc_w is, 3) := by rw [hb]; exact d4
  have hstr' : vk_R own is text sa s' := vk_R.warm hW0 hstr
  obtain ⟨U, hsteps, hrun, hend, hW, hsame, ce, hce, hO⟩ := X₁.ctorThrowS hexec htr (own := own) (cls := cls) (names := names) (ic := ic) hown' hcls hnames h (fun x hx => nomatch hx) hfX hkX hcellA (by rw [hhp, hT]; exact Nat.le_refl _) (msg := .ref sa) rfl
    (g := { method := m, pc := pc + 7, locals := ls, stack := .ref sa :: .ref T.heap.size :: .ref T.heap.size :: rest, locked := none }) rfl hsize rfl rfl (rest := rest) rfl
    (by rw [hb]; exact d7) (by rw [hb]; exact d10) hout hRframes (by simp only [List.map_cons, List.sum_cons, hcat]; omega) hlocks
  obtain ⟨f1, f2⟩ := vx_frame hsame
  rw [hhp] at f1 f2
  have hWs : s.WarmedH U.vm := State.WarmedH.trans hW0 hW
  have hcl : s.vm.findClass cls = some ce.cls := by
    have h9 := hO.cls
    rw [hvm] at h9
    exact h9
  have hall : s.sameButNew ({ U with vm := s.vm } : State) locs mc ms := by
    subst hA
    obtain ⟨e1, e2⟩ := hsame
    rw [State.setFrames_setFrames] at e1
    have h2 : (T.setVm s.vm).sameButNew ({ U with vm := s.vm } : State) [] (0 + 1) (0 + 6) := ⟨e1, e2⟩
    have h3 := X.same.trans h2
    rw [List.append_nil] at h3
    exact h3.mono hc hs
  refine ⟨U, ?_, .threw T.heap.size, hrun, hend, Or.inr ⟨T.heap.size, rfl, cls, ce, locs, hx U hWs.alike f1 (fun q hq => f2 q hq (fun z hz => nomatch hz)), hce, hO.vm, hcl, hWs, hall, hf⟩⟩
  refine st1 _ ?_
  show Steps p.tables e below (T1.setTop { method := m, pc := pc + 3, locals := ls, stack := .ref T.heap.size :: rest, locked := none }) _
  jvm_step X₁.here [X₁.here.top, hexec, d3', Value.category]
  exact X₁.ldcStringW hexec (own := own) (text := text) (index := is) (a := sa) hown' hstr'.1 hstr'.2
    (g := { method := m, pc := pc + 4, locals := ls, stack := .ref T.heap.size :: .ref T.heap.size :: rest, locked := none }) rfl d4' _ hsteps
end Ends
section Bodies
variable {l : Launch}
theorem vx_ofW {y : MethodName} {ws ws' : List Cond} {rm : Room} {Pc : Array Value → State → Prop} {Qc : Array Value → State → Outcome → State → Prop} {XC : String → State → State → Prop} {mc ms : Nat} {free : Addr → Prop} {cc : ByteArray} {maxL : Nat} {ret : Option FieldType}
    (hy : plainName y.cls = true) (hw : ws = Cond.code y cc maxL ret :: ws')
    (body : ∀ p e s m args below meth c s₁, BodyLoose p l y (headSpec ws rm) cc maxL ret e s m args below meth c s₁ → c.maxLocals = maxL → (∀ x ∈ c.exceptionTable.toList, False) → Pc args s →
      W p l e (headSpec ws rm).room s m args below meth c s.heap [] 0 0 (vx_MQ below Qc XC args s mc ms free) (entryFrame m args maxL)) : vx_Met l y ws rm Pc Qc XC mc ms free := by
  refine MetFree.of_bodyS (code := cc) (maxLocals := maxL) (ret := ret) hy ?_ ?_
  · intro args s m h hn
    obtain ⟨meth, c, h1, h2, h3, h4, h5, h6, -, -⟩ := Cond.code_spec hn (atoms_spec (ws := ws) h _ (by rw [hw]; exact List.mem_cons_self))
    exact ⟨meth, c, h1, h2, h3, h4, h5, h6⟩
  · intro p e s m args below meth c s₁ B hml hP _
    have hh0 : s₁.heap = s.heap := by rw [B.state]; rfl
    have ht : ∀ x ∈ c.exceptionTable.toList, False := by
      obtain ⟨meth9, c9, h1, h2, -, -, -, -, h7, -⟩ := Cond.code_spec B.named (atoms_spec (ws := ws) B.pre _ (by rw [hw]; exact List.mem_cons_self))
      cases Option.some.inj (h1.symm.trans B.method)
      cases Option.some.inj (h2.symm.trans (Stand.of_body B).code)
      intro x hx
      rw [Array.isEmpty_iff.mp h7] at hx
      cases hx
    obtain ⟨t, a1, o, b1, b2, b3⟩ := body p e s m args below meth c s₁ B hml ht hP s₁ hh0 (Stand.of_body B)
    exact ⟨t, o, a1, b1, b2, b3⟩
/-- the table of a body with handlers -/
theorem vx_table {p : Program} {x y : MethodName} {S : Spec} {cc bytes : ByteArray} {maxL maxL' : Nat} {ret ret' : Option FieldType} {e : Env} {s s₁ : State} {m : MethodId} {args : Array Value} {below : List Frame} {meth : Method} {c : Code} {hh : List (Nat × Nat × Nat × Nat)}
    (B : BodyLoose p l y S cc maxL ret e s m args below meth c s₁) (h : (Cond.codeWith y bytes maxL' ret' hh).before args s = true) : c.exceptionTable.toList = tableOf hh := by
  obtain ⟨m9, meth9, c9, hn9, h1, h2, -, -, h6, -⟩ := Cond.codeWith_spec h
  cases Option.some.inj (hn9.symm.trans B.named)
  cases Option.some.inj (h1.symm.trans B.method)
  cases Option.some.inj (h2.symm.trans (Stand.of_body B).code)
  rw [← h6, table_eq]
end Bodies
end VXA
/-! ===== END ===== -/
/-! ===== BEGIN a static call of a method with an exception table ===== -/
section VXS
variable {p : Program} {l : Launch} {e : Env} {R : Room} {s : State} {m : MethodId} {args : Array Value} {below : List Frame} {meth : Method} {c : Code} {T : State} {H : Heap} {locs : List Loc} {cells slots : Nat}
abbrev vx_CSW (R : Room) (s : State) (args : Array Value) (own : String) (index : Nat) (y : MethodName) (bytes : ByteArray) (maxL : Nat) (ret : Option FieldType) (hh : List (Nat × Nat × Nat × Nat)) (ws : List Cond) (rm : Room) (mc ms n : Nat) : Prop :=
  (rm.cells = mc ∧ rm.slots = ms ∧ rm.frames + 1 ≤ R.frames ∧ 8 + (maxL + 11) + rm.locals ≤ R.locals ∧ (∀ w ∈ ws, ∀ (a' : Array Value) (U : State), s.WarmedH U.vm → w.before a' U = true) ∧ Cond.codeWith y bytes maxL ret hh ∈ ws) ∧
  (Cond.codeWith y bytes maxL ret hh).before args s = true ∧ (Cond.initialized y.cls).before args s = true ∧ (y.cls ≠ "java/lang/invoke/MethodHandle" ∧ y.cls ≠ "java/lang/invoke/VarHandle") ∧
  (∀ sig, parseMethodDescriptor y.desc = some sig → n = sig.parameters.length) ∧ (Cond.methodLink own index y).before args s = true ∧ (Cond.static y).before args s = true
theorem vx_cwSW {own : String} {index maxL mc ms : Nat} {y : MethodName} {bytes : ByteArray} {ret : Option FieldType} {hh : List (Nat × Nat × Nat × Nat)} {Ts ws ws' : List Cond} {rm : Room} (n : Nat) (ht : ∀ w ∈ Ts, w.before args s = true) (hT : GoodIn Ts (va_wsS own index y ws)) (hw : ws = Cond.codeWith y bytes maxL ret hh :: ws') (hrc : rm.cells = mc) (hrs : rm.slots = ms)
    (hd : y.cls ≠ "java/lang/invoke/MethodHandle" ∧ y.cls ≠ "java/lang/invoke/VarHandle" ∧ (parseMethodDescriptor y.desc).map (fun d => d.parameters.length) = some n) (hR : rm.frames + 1 ≤ R.frames ∧ 8 + (maxL + 11) + rm.locals ≤ R.locals) :
    vx_CSW R s args own index y bytes maxL ret hh ws rm mc ms n := by
  have ok : ∀ w ∈ va_wsS own index y ws, w.before args s = true := fun w h => ht w (hT w h).1
  have hG : GoodIn Ts ws := fun w h => hT w (by unfold va_wsS; exact List.mem_append_right _ h)
  have hc : Cond.codeWith y bytes maxL ret hh ∈ ws := by rw [hw]; exact List.mem_cons_self
  refine ⟨⟨hrc, hrs, hR.1, hR.2, pay_in ht hG, hc⟩, ht _ (hG _ hc).1, ok _ (by simp [va_wsS]), ⟨hd.1, hd.2.1⟩, fun sig h => ?_, ok _ (by simp [va_wsS]), ok _ (by simp [va_wsS])⟩
  have h2 := hd.2.2
  rw [h] at h2
  exact (Option.some.inj h2).symm
theorem vx_callSW (X : Stand p l e R s m args below meth c T locs cells slots) (hexec : p.tables.exec = Jvm.exec) {own : String} {index : Nat} {y : MethodName} {bytes : ByteArray} {maxL : Nat} {ret : Option FieldType} {hh : List (Nat × Nat × Nat × Nat)}
    (hown : s.vm.findClass own = some m.cls) (hlink : (Cond.methodLink own index y).before args s = true) (hstat : (Cond.static y).before args s = true) (hinit : (Cond.initialized y.cls).before args s = true)
    (hcode : (Cond.codeWith y bytes maxL ret hh).before args s = true) (hy : y.cls ≠ "java/lang/invoke/MethodHandle" ∧ y.cls ≠ "java/lang/invoke/VarHandle")
    {W9 : Nat} {Pre : Pt → Array Value → Prop} {Post : Pt → Array Value → Option Value → Pt → Prop} (hK : Back l R p e below s args y 3 W9 Pre Post)
    {g : JFrame} (hg : g.method = m) (hsize : g.locals.size = c.maxLocals) {argsL rest : List Value} (hlen : ∀ sig, parseMethodDescriptor y.desc = some sig → argsL.length = sig.parameters.length)
    (hstack : g.stack = argsL.reverse ++ rest) (hW : 2 * g.monitorRoom + (rest.map fun v => v.category).sum ≤ W9) (hdg : decode c.code g.pc = .ok (.invokestatic index, 3))
    (hpre : ∀ vm₁, s.WarmedH vm₁ → Pre ⟨T.setVm vm₁, locs, cells, slots⟩ argsL.toArray) :
    ∃ (v : Option Value) (vm₁ : Vm) (B : Pt), s.WarmedH vm₁ ∧ Stand p l e R s m args below meth c B.U B.locs B.cells B.slots ∧ Post ⟨T.setVm vm₁, locs, cells, slots⟩ argsL.toArray v B ∧
      ∀ target, Steps p.tables e below (B.U.setTop { g with pc := g.pc + 3, stack := v.toList ++ rest }) target → Steps p.tables e below (T.setTop g) target := by
  obtain ⟨mk, methM, cM, hnamed, hmethM, -, -, -, -, -, -, hsigM⟩ := Cond.codeWith_spec hcode
  have hstatic : methM.isStatic = true := Cond.static_spec hnamed hmethM hstat
  obtain ⟨kP, hkP, -⟩ := className_of_methodNamed hnamed
  have hinitP : kP.init = .initialized := Cond.initialized_spec (findClass_of_methodNamed hnamed) hkP hinit
  obtain ⟨vm₁, X₁, hstep₁⟩ := X.invokestatic hexec hown hlink hnamed hmethM hstatic hkP hinitP hy (g := g) hg (argsL := argsL) (rest := rest) (hlen _ hsigM) hstack hdg
  obtain ⟨v, B, X', hpost, hsteps⟩ := hK m meth c ⟨T.setVm vm₁, locs, cells, slots⟩ { g with stack := rest } (.invokestatic index) mk argsL.toArray X₁ hg hsize hdg hW (X₁.named hnamed) (hpre vm₁ X₁.warmed)
  exact ⟨v, vm₁, B, X₁.warmed, X', hpost, fun target h => hstep₁ _ fun acts => by rw [doInvoke_state]; exact hsteps.trans h⟩
theorem vx_runSW {y : MethodName} {bytes cc : ByteArray} {maxL nL mc ms n index : Nat} {ret : Option FieldType} {hh : List (Nat × Nat × Nat × Nat)} {ws : List Cond} {rm : Room} {Pc : Array Value → State → Prop} {Qc : Array Value → State → Outcome → State → Prop} {free : Addr → Prop} {Ts : List Cond} {own : String} {As rest : List Value} {g : JFrame}
    (S : CallFix p m c cc nL s args Ts own) (hM : Met l y ws rm Pc Qc mc ms free) (cw : vx_CSW R s args own index y bytes maxL ret hh ws rm mc ms n) (hp : PreS s H Pc As)
    (hg : g.method = m) (hn : As.length = n) (hsize : g.locals.size = nL) (hstack : g.stack = As.reverse ++ rest) (hW : 2 * g.monitorRoom + (rest.map fun v => v.category).sum ≤ 8) (hdg : decode cc g.pc = .ok (.invokestatic index, 3)) (hf : cells + mc ≤ R.cells ∧ slots + ms ≤ R.slots) :
    va_Run p l e R s m args below meth c H locs cells slots mc ms g rest (Qc As.toArray) (free) := by
  obtain ⟨⟨hrc, hrs, hfr, hlo, hws, hcw⟩, hcode, hini, hy, hlen, hl, hstt⟩ := cw
  have hK : Back l R p e below s args y 3 8 (PreOf R mc ms Pc) (PostOf Qc mc ms free) := va_backW (hh := hh) (bytes := bytes) (maxL := maxL) (ret := ret) hM hp.1 hrc hrs hfr hlo hws hcw (fun a' U hW => word_at hW (Or.inl (by first | rfl | simp [Cond.onTables, Cond.keeps, Cond.steady])) hini)
  obtain ⟨hx, hb, hml, ho, -⟩ := S
  intro T hT X
  obtain ⟨v, vm₁, ⟨U', l2, c2, s2⟩, hW₁, X', ⟨g', mk, t, L, e1, e2, hq, h1, hL, h2, h3⟩, st⟩ := vx_callSW X hx (hh := hh) (bytes := bytes) (maxL := maxL) (ret := ret) ho hl hstt hini hcode hy hK hg (hsize.trans hml.symm) (argsL := As) (rest := rest) (fun sig h => hn.trans (hlen sig h)) hstack hW (by rw [hb]; exact hdg)
    (fun vm₁ hW₁ => ⟨hf.1, hf.2, hp.2 (T.setVm vm₁) hT hW₁⟩)
  dsimp only [Pt.U, Pt.locs, Pt.cells, Pt.slots] at X' e1 e2 h1 h2 h3 st
  subst h1; subst h2; subst h3
  exact ⟨v, (T.setVm vm₁).calling g' mk As.toArray, t, U', L, hT, X', hL, e1, e2, hq, st⟩
/-- not caught here, past rows that name other classes: it goes on to the caller -/
theorem vx_outP {p : Program} {l : Launch} {e : Env} {R : Room} {s : State} {m : MethodId} {args : Array Value} {below : List Frame} {meth : Method} {c : Code} {H : Heap} {locs : List Loc} {cells slots : Nat} {free : Addr → Prop} {ls : Array Slot} {rest : List Value} {Qc : Array Value → State → Outcome → State → Prop} {XC : String → State → State → Prop}
    {pc : Nat} {own E : String} {ce : Cell} {q : Addr} {mc ms : Nat} (hown : s.vm.findClass own = some m.cls) (hlocks : meth.locks = false)
    (hpass : ∀ z ∈ c.exceptionTable.toList, covers z pc = false ∨ (z.catchType ≠ 0 ∧ ∃ nm : String, (Cond.classLink own z.catchType nm).before args s = true ∧ va_Nc E nm s)) (hcell : H[q]? = some ce) (hv : ce.vm = .none) (hcl : s.vm.findClass E = some ce.cls)
    (hx : ∀ t : State, t.heap = H → s.vm.Alike t.vm → XC E s t) (hf : ∀ z ∈ locs, free z.base) (hc : cells ≤ mc) (hs : slots ≤ ms) :
    vx_W p l e R s m args below meth c H locs cells slots (vx_MQ below Qc XC args s mc ms free) (F0 m pc ls rest) q := by
  intro T hT X
  have hpl : e.platform.magicAccessors = ({} : Platform).magicAccessors := by rw [X.admits.platform]
  obtain ⟨vm', hW', X', st⟩ := X.outThrough hlocks q (g := F0 m pc ls rest) rfl rfl rfl (cell := ce) (by rw [hT]; exact hcell) (by rw [hv]; rfl)
    (by obtain ⟨k9, h9, -⟩ := Vm.findClass_spec hcl; exact ⟨k9, h9⟩) (fun z hz => by
      rcases hpass z hz with h | ⟨hz0, nm, hl1, hn1⟩
      · exact Or.inl h
      · obtain ⟨c6, hc6, hcl6⟩ := Cond.classLink_spec hown hl1 e.platform hpl
        obtain ⟨a8, b8, h1, h2, h3⟩ := hn1
        cases Option.some.inj (h1.symm.trans hcl)
        cases Option.some.inj (h2.symm.trans hc6)
        exact Or.inr ⟨hz0, _, hcl6, h3⟩)
  obtain ⟨g₀, hfr⟩ := X'.frames_eq
  have hcell9 : ((T.setVm vm').setFrames (.throwing q :: below)).heap[q]? = some ce := by
    show T.heap[q]? = some ce
    rw [hT]; exact hcell
  have hend : Ended ((T.setVm vm').setFrames (.throwing q :: below)) below (.threw q) := State.frames_setFrames _ (State.cur_lt_of_frames hfr)
  refine ⟨(T.setVm vm').setFrames (.throwing q :: below), ?_, .threw q, X'.here.running, hend, Or.inr ⟨q, rfl, E, ce, locs, hx _ hT (X'.ends _).1.alike, hcell9, hv, hcl, (X'.ends _).1, (X'.ends _).2.mono hc hs, hf⟩⟩
  rw [X.pushThrowing_eq]
  exact st
/-- a thing of a world lies in the heap -/
theorem vx_lt {D : va_G} {cl : List vw_C} {ws : va_W} {H1 : Heap} (h : va_P D cl ws H1) {k : Nat} {q : Nat × va_E} (hk : ws[k]? = some q) : q.1 < H1.size := (h k q hk).lt
end VXS
/-! ===== END ===== -/
/-! ===== BEGIN methods with a table of their own: called by a name, returning or throwing ===== -/
section VXH
/-! vx_backW, vx_callVX, vx_callSX, vx_callVW, vx_runVW, vx_runVX, vx_runSX, vx_ofWH follow the same proofs as their sisters above (Free/Laws.lean, Shelf42/LK1.lean); vx_outP calls Shelf42/NT130.lean (outThrough). -/
section
variable {l : Launch} {R : Room} {p : Program} {e : Env} {below : List Frame} {s : State} {sargs : Array Value} {y : MethodName} {len W9 : Nat}
theorem vx_backW {ws : List Cond} {rm : Room} {Pc : Array Value → State → Prop} {Qc : Array Value → State → Outcome → State → Prop} {XC : String → State → State → Prop} {mc ms : Nat} {free : Addr → Prop} {bytes : ByteArray} {maxL : Nat} {ret : Option FieldType} {hh : List (Nat × Nat × Nat × Nat)}
    (hM : vx_Met l y ws rm Pc Qc XC mc ms free) (hblind : FrameBlind Pc) (hrc : rm.cells = mc) (hrs : rm.slots = ms)
    (hframes : rm.frames + 1 ≤ R.frames) (hlocals : W9 + (maxL + 11) + rm.locals ≤ R.locals)
    (hws : ∀ w ∈ ws, ∀ a' U, s.WarmedH U.vm → w.before a' U = true) (hcode : Cond.codeWith y bytes maxL ret hh ∈ ws) (hinit : ∀ a' U, s.WarmedH U.vm → (Cond.initialized y.cls).before a' U = true) :
    vx_Back l R p e below s sargs y len W9 (PreOf R mc ms Pc) (PostOf Qc mc ms free) (vx_Post XC mc ms free) := by
  intro m meth c A g ig mk a X hg hsize hdg hW hn hp
  have h1 : (headSpec ws rm).pre.before a A.U = true := atoms_intro fun w hw => hws w hw _ _ X.warmed
  have h2 : (Cond.codeWith y bytes maxL ret hh).before a A.U = true := hws _ hcode _ _ X.warmed
  have h3 : (Cond.initialized y.cls).before a A.U = true := hinit _ _ X.warmed
  have h4 : A.cells + (headSpec ws rm).room.cells ≤ R.cells := by rw [show (headSpec ws rm).room.cells = mc from hrc]; exact hp.1
  have h5 : A.slots + (headSpec ws rm).room.slots ≤ R.slots := by rw [show (headSpec ws rm).room.slots = ms from hrs]; exact hp.2.1
  have hPc : Pc a (A.U.calling g mk a) := hblind _ _ _ _ hp.2.2
  obtain ⟨U, Ls, c0, s0⟩ := A
  dsimp only [Pt.U, Pt.locs, Pt.cells, Pt.slots] at h1 h2 h3 h4 h5 X hn hPc ⊢
  obtain ⟨m9, methY, cY, hn9, hmY, hcY, -, hlY, -⟩ := Cond.codeWith_spec h2
  cases Option.some.inj (hn9.symm.trans hn)
  obtain ⟨kY, hkY, -⟩ := className_of_methodNamed hn
  have hinitY : kY.init = .initialized := Cond.initialized_spec (findClass_of_methodNamed hn) hkY h3
  have h : At U g.method c below := by rw [hg]; exact X.here
  have hlocals9 : W9 + (maxL + 11) + (headSpec ws rm).room.locals ≤ R.locals := hlocals
  have happ : (headSpec ws rm).appliesLoose y e.platform (U.calling g mk a) = true :=
    Spec.appliesLoose_calling (g := g) h hdg hn hkY hinitY
      (X.room_calling (g := g) (R' := (headSpec ws rm).room) hsize hmY hcY hframes (by rw [hlY]; omega) h4 h5) h1
  obtain ⟨mid, hmid⟩ := h.above
  have hfr : (U.setTop g).frames = (.java g :: mid) ++ below := by rw [State.frames_setTop' g h.top, hmid]; rfl
  obtain ⟨o, s₂, hsteps, -, hend, hq⟩ := Steps.callFree hM p X.admits X.cas X.clock (acts := []) hfr happ hPc trivial
  have hq' : vx_Q Qc XC mc ms free a (U.calling g mk a) o s₂ := hq
  rw [State.frames_setTop' g h.top] at hend
  obtain ⟨g₀, hg0⟩ := Option.isSome_iff_exists.mp h.top
  obtain ⟨r, hr⟩ := State.topJava?_eq_some.mp hg0
  have hr' : (({ U with heap := s₂.heap, slotsUsed := s₂.slotsUsed } : State).setVm s₂.vm).frames = .java g₀ :: r := hr
  rcases hq' with ⟨hqc, L, hfe, hL⟩ | ⟨q, rfl, E, ce, L, hx, hce, hcv, hcl, hW₂, hsm, hL⟩
  · obtain ⟨⟨v, rfl⟩, hW₂, e2, q2, q3, q4, q5, q6⟩ := id hfe
    have e3 : s₂ = ({ (U.calling g mk a).setFrames s₂.frames with heap := s₂.heap, slotsUsed := s₂.slotsUsed } : State).setVm s₂.vm := by
      have : s₂ = ({ s₂ with vm := (U.calling g mk a).vm } : State).setVm s₂.vm := rfl
      rw [e2] at this
      exact this
    obtain ⟨c₂, i₂, len₂, hc₂, hd₂, hf₂⟩ := hend
    have hW' : U.WarmedH s₂.vm := hW₂
    have hcc : c₂ = c := by
      have h1 : s₂.code? g.method = U.code? g.method := by
        rw [State.code?_eq, State.code?_eq, hW'.alike.method?]
      exact Option.some.inj (hc₂.symm.trans (h1.trans h.code))
    subst hcc
    have hlen : len₂ = len := by rw [hdg] at hd₂; cases hd₂; rfl
    subst hlen
    have hs₂ : s₂ = (({ U with heap := s₂.heap, slotsUsed := s₂.slotsUsed } : State).setVm s₂.vm).setTop { g with pc := g.pc + len₂, stack := v.toList ++ g.stack } := by
      refine e3.trans ?_
      rw [hf₂, State.calling_eq h.top, State.setFrames_setFrames, State.setTop_of_frames _ hr', hr]
      rfl
    have hsame : U.sameButNew ({ U with heap := s₂.heap, slotsUsed := s₂.slotsUsed } : State) L mc ms := by
      refine ⟨?_, q2, q3, q4, q5, q6⟩
      obtain ⟨t, ht, -⟩ := State.frames_cons hr
      show ({ U with heap := s₂.heap, slotsUsed := s₂.slotsUsed } : State) = { U.setFrames U.frames with heap := s₂.heap, slotsUsed := s₂.slotsUsed }
      rw [State.setFrames_self ht]
    subst hg
    refine Or.inl ⟨v, ⟨(({ U with heap := s₂.heap, slotsUsed := s₂.slotsUsed } : State).setVm s₂.vm), Ls ++ L, c0 + mc, s0 + ms⟩,
      ⟨X.admits, X.cas, X.clock, X.frames, X.room, X.hears, X.method, X.code, (X.here.setHeapUsed s₂.heap s₂.slotsUsed).setVm hW'.alike, X.tail, State.WarmedH.trans X.warmed hW', X.limits, X.bytes, X.same.trans (hsame.setVm s.vm)⟩,
      ⟨g, mk, s₂, L, rfl, rfl, hqc, rfl, hL, rfl, rfl⟩, ?_⟩
    show Steps p.tables e below _ ((({ U with heap := s₂.heap, slotsUsed := s₂.slotsUsed } : State).setVm s₂.vm).setTop { g with pc := g.pc + len₂, stack := v.toList ++ g.stack })
    rw [← hs₂]
    exact hsteps
  · obtain ⟨e2, q2, q3, q4, q5, q6⟩ := id hsm
    have e3 : s₂ = ({ (U.calling g mk a).setFrames s₂.frames with heap := s₂.heap, slotsUsed := s₂.slotsUsed } : State).setVm s₂.vm := by
      have : s₂ = ({ s₂ with vm := (U.calling g mk a).vm } : State).setVm s₂.vm := rfl
      rw [e2] at this
      exact this
    have hf₂ : s₂.frames = .throwing q :: .java g :: U.frames.tail := hend
    have hW' : U.WarmedH s₂.vm := hW₂
    have hs₂ : s₂ = ((({ U with heap := s₂.heap, slotsUsed := s₂.slotsUsed } : State).setVm s₂.vm).setTop g).pushFrame (.throwing q) := by
      refine e3.trans ?_
      rw [hf₂, State.calling_eq h.top, State.setFrames_setFrames, State.pushFrame, State.frames_setTop _ hr', State.setTop_of_frames _ hr', State.setFrames_setFrames, hr]
      rfl
    have hsame : U.sameButNew ({ U with heap := s₂.heap, slotsUsed := s₂.slotsUsed } : State) L mc ms := by
      refine ⟨?_, q2, q3, q4, q5, q6⟩
      obtain ⟨t, ht, -⟩ := State.frames_cons hr
      show ({ U with heap := s₂.heap, slotsUsed := s₂.slotsUsed } : State) = { U.setFrames U.frames with heap := s₂.heap, slotsUsed := s₂.slotsUsed }
      rw [State.setFrames_self ht]
    subst hg
    refine Or.inr ⟨q, ⟨(({ U with heap := s₂.heap, slotsUsed := s₂.slotsUsed } : State).setVm s₂.vm), Ls ++ L, c0 + mc, s0 + ms⟩,
      ⟨X.admits, X.cas, X.clock, X.frames, X.room, X.hears, X.method, X.code, (X.here.setHeapUsed s₂.heap s₂.slotsUsed).setVm hW'.alike, X.tail, State.WarmedH.trans X.warmed hW', X.limits, X.bytes, X.same.trans (hsame.setVm s.vm)⟩,
      ⟨g, mk, s₂, L, E, ce, rfl, rfl, hx, hce, hcv, hcl, rfl, hL, rfl, rfl⟩, ?_⟩
    show Steps p.tables e below _ (((({ U with heap := s₂.heap, slotsUsed := s₂.slotsUsed } : State).setVm s₂.vm).setTop g).pushFrame (.throwing q))
    rw [← hs₂]
    exact hsteps
end
variable {p : Program} {l : Launch} {e : Env} {R : Room} {s : State} {m : MethodId} {args : Array Value} {below : List Frame} {meth : Method} {c : Code} {T : State} {H : Heap} {locs : List Loc} {cells slots : Nat}
theorem vx_callVX (X : Stand p l e R s m args below meth c T locs cells slots) (hexec : p.tables.exec = Jvm.exec) {own C : String} {index : Nat} {y : MethodName} {bytes : ByteArray} {maxL : Nat} {ret : Option FieldType} {hh : List (Nat × Nat × Nat × Nat)}
    (hown : s.vm.findClass own = some m.cls) (hlink : (Cond.methodLink own index y).before args s = true) (hinst : (Cond.instanceMethod y).before args s = true) (hsel : (Cond.selects C y y).before args s = true)
    (hcode : (Cond.codeWith y bytes maxL ret hh).before args s = true) (hy : y.cls ≠ "java/lang/invoke/MethodHandle" ∧ y.cls ≠ "java/lang/invoke/VarHandle")
    {W9 : Nat} {Pre : Pt → Array Value → Prop} {Post : Pt → Array Value → Option Value → Pt → Prop} {PostX : Pt → Array Value → Addr → Pt → Prop} (hK : vx_Back l R p e below s args y 3 W9 Pre Post PostX)
    {b : Addr} {cellB : Cell} (hcell : T.heap[b]? = some cellB) (hobj : cellB.vm.isStatics = false) (hcls : s.vm.findClass C = some cellB.cls)
    {g : JFrame} (hg : g.method = m) (hsize : g.locals.size = c.maxLocals) {argsL rest : List Value} (hlen : ∀ sig, parseMethodDescriptor y.desc = some sig → argsL.length = sig.parameters.length)
    (hstack : g.stack = argsL.reverse ++ .ref b :: rest) (hW : 2 * g.monitorRoom + (rest.map fun v => v.category).sum ≤ W9) (hdg : decode c.code g.pc = .ok (.invokevirtual index, 3))
    (hpre : ∀ vm₁, s.WarmedH vm₁ → Pre ⟨T.setVm vm₁, locs, cells, slots⟩ (Value.ref b :: argsL).toArray) :
    (∃ (v : Option Value) (vm₁ : Vm) (B : Pt), s.WarmedH vm₁ ∧ Stand p l e R s m args below meth c B.U B.locs B.cells B.slots ∧ Post ⟨T.setVm vm₁, locs, cells, slots⟩ (Value.ref b :: argsL).toArray v B ∧
      ∀ target, Steps p.tables e below (B.U.setTop { g with pc := g.pc + 3, stack := v.toList ++ rest }) target → Steps p.tables e below (T.setTop g) target) ∨
    (∃ (q : Addr) (vm₁ : Vm) (B : Pt), s.WarmedH vm₁ ∧ Stand p l e R s m args below meth c B.U B.locs B.cells B.slots ∧ PostX ⟨T.setVm vm₁, locs, cells, slots⟩ (Value.ref b :: argsL).toArray q B ∧
      Steps p.tables e below (T.setTop g) ((B.U.setTop { g with stack := rest }).pushFrame (.throwing q))) := by
  obtain ⟨mk, methM, hnamed, hmethM, hstM, habM⟩ := Cond.instanceMethod_spec hinst
  obtain ⟨m8, methM', cM, hn8, hmethM', -, -, -, -, -, -, hsigM⟩ := Cond.codeWith_spec hcode
  cases Option.some.inj (hn8.symm.trans hnamed)
  cases hmethM.symm.trans hmethM'
  obtain ⟨c2, r2, m2, q1, q2, q3, q4, kP, hkP, hkPi⟩ := Cond.selects_spec hsel
  cases hcls.symm.trans q1
  cases (State.methodFound?_of_named hnamed hy).symm.trans q2
  cases hnamed.symm.trans q3
  have hselP : selectMethod e.platform s.vm cellB.cls mk = .method mk := by rw [Launch.admits_selectMethod X.admits]; exact q4
  obtain ⟨vm₁, X₁, hstep₁⟩ := X.invokevirtual hexec hown hlink hnamed hmethM hstM hkP hkPi hy (a := b) (cell := cellB) hcell
    (fun z h => by rw [h] at hobj; cases hobj) hselP hmethM habM hkP hkPi (g := g) hg (argsL := argsL) (rest := rest) (hlen _ hsigM) hstack hdg
  rcases hK m meth c ⟨T.setVm vm₁, locs, cells, slots⟩ { g with stack := rest } (.invokevirtual index) mk (Value.ref b :: argsL).toArray X₁ hg hsize hdg hW (X₁.named hnamed) (hpre vm₁ X₁.warmed) with ⟨v, B, X', hpost, hsteps⟩ | ⟨q, B, X', hpost, hsteps⟩
  · exact Or.inl ⟨v, vm₁, B, X₁.warmed, X', hpost, fun target h => hstep₁ _ fun acts => by rw [doInvoke_state]; exact hsteps.trans h⟩
  · exact Or.inr ⟨q, vm₁, B, X₁.warmed, X', hpost, hstep₁ _ fun acts => by rw [doInvoke_state]; exact hsteps⟩
theorem vx_callSX (X : Stand p l e R s m args below meth c T locs cells slots) (hexec : p.tables.exec = Jvm.exec) {own : String} {index : Nat} {y : MethodName} {bytes : ByteArray} {maxL : Nat} {ret : Option FieldType} {hh : List (Nat × Nat × Nat × Nat)}
    (hown : s.vm.findClass own = some m.cls) (hlink : (Cond.methodLink own index y).before args s = true) (hstat : (Cond.static y).before args s = true) (hinit : (Cond.initialized y.cls).before args s = true)
    (hcode : (Cond.codeWith y bytes maxL ret hh).before args s = true) (hy : y.cls ≠ "java/lang/invoke/MethodHandle" ∧ y.cls ≠ "java/lang/invoke/VarHandle")
    {W9 : Nat} {Pre : Pt → Array Value → Prop} {Post : Pt → Array Value → Option Value → Pt → Prop} {PostX : Pt → Array Value → Addr → Pt → Prop} (hK : vx_Back l R p e below s args y 3 W9 Pre Post PostX)
    {g : JFrame} (hg : g.method = m) (hsize : g.locals.size = c.maxLocals) {argsL rest : List Value} (hlen : ∀ sig, parseMethodDescriptor y.desc = some sig → argsL.length = sig.parameters.length)
    (hstack : g.stack = argsL.reverse ++ rest) (hW : 2 * g.monitorRoom + (rest.map fun v => v.category).sum ≤ W9) (hdg : decode c.code g.pc = .ok (.invokestatic index, 3))
    (hpre : ∀ vm₁, s.WarmedH vm₁ → Pre ⟨T.setVm vm₁, locs, cells, slots⟩ argsL.toArray) :
    (∃ (v : Option Value) (vm₁ : Vm) (B : Pt), s.WarmedH vm₁ ∧ Stand p l e R s m args below meth c B.U B.locs B.cells B.slots ∧ Post ⟨T.setVm vm₁, locs, cells, slots⟩ argsL.toArray v B ∧
      ∀ target, Steps p.tables e below (B.U.setTop { g with pc := g.pc + 3, stack := v.toList ++ rest }) target → Steps p.tables e below (T.setTop g) target) ∨
    (∃ (q : Addr) (vm₁ : Vm) (B : Pt), s.WarmedH vm₁ ∧ Stand p l e R s m args below meth c B.U B.locs B.cells B.slots ∧ PostX ⟨T.setVm vm₁, locs, cells, slots⟩ argsL.toArray q B ∧
      Steps p.tables e below (T.setTop g) ((B.U.setTop { g with stack := rest }).pushFrame (.throwing q))) := by
  obtain ⟨mk, methM, cM, hnamed, hmethM, -, -, -, -, -, -, hsigM⟩ := Cond.codeWith_spec hcode
  have hstatic : methM.isStatic = true := Cond.static_spec hnamed hmethM hstat
  obtain ⟨kP, hkP, -⟩ := className_of_methodNamed hnamed
  have hinitP : kP.init = .initialized := Cond.initialized_spec (findClass_of_methodNamed hnamed) hkP hinit
  obtain ⟨vm₁, X₁, hstep₁⟩ := X.invokestatic hexec hown hlink hnamed hmethM hstatic hkP hinitP hy (g := g) hg (argsL := argsL) (rest := rest) (hlen _ hsigM) hstack hdg
  rcases hK m meth c ⟨T.setVm vm₁, locs, cells, slots⟩ { g with stack := rest } (.invokestatic index) mk argsL.toArray X₁ hg hsize hdg hW (X₁.named hnamed) (hpre vm₁ X₁.warmed) with ⟨v, B, X', hpost, hsteps⟩ | ⟨q, B, X', hpost, hsteps⟩
  · exact Or.inl ⟨v, vm₁, B, X₁.warmed, X', hpost, fun target h => hstep₁ _ fun acts => by rw [doInvoke_state]; exact hsteps.trans h⟩
  · exact Or.inr ⟨q, vm₁, B, X₁.warmed, X', hpost, hstep₁ _ fun acts => by rw [doInvoke_state]; exact hsteps⟩
theorem vx_callVW (X : Stand p l e R s m args below meth c T locs cells slots) (hexec : p.tables.exec = Jvm.exec) {own C : String} {index : Nat} {y : MethodName} {bytes : ByteArray} {maxL : Nat} {ret : Option FieldType} {hh : List (Nat × Nat × Nat × Nat)}
    (hown : s.vm.findClass own = some m.cls) (hlink : (Cond.methodLink own index y).before args s = true) (hinst : (Cond.instanceMethod y).before args s = true) (hsel : (Cond.selects C y y).before args s = true)
    (hcode : (Cond.codeWith y bytes maxL ret hh).before args s = true) (hy : y.cls ≠ "java/lang/invoke/MethodHandle" ∧ y.cls ≠ "java/lang/invoke/VarHandle")
    {W9 : Nat} {Pre : Pt → Array Value → Prop} {Post : Pt → Array Value → Option Value → Pt → Prop} (hK : Back l R p e below s args y 3 W9 Pre Post)
    {b : Addr} {cellB : Cell} (hcell : T.heap[b]? = some cellB) (hobj : cellB.vm.isStatics = false) (hcls : s.vm.findClass C = some cellB.cls)
    {g : JFrame} (hg : g.method = m) (hsize : g.locals.size = c.maxLocals) {argsL rest : List Value} (hlen : ∀ sig, parseMethodDescriptor y.desc = some sig → argsL.length = sig.parameters.length)
    (hstack : g.stack = argsL.reverse ++ .ref b :: rest) (hW : 2 * g.monitorRoom + (rest.map fun v => v.category).sum ≤ W9) (hdg : decode c.code g.pc = .ok (.invokevirtual index, 3))
    (hpre : ∀ vm₁, s.WarmedH vm₁ → Pre ⟨T.setVm vm₁, locs, cells, slots⟩ (Value.ref b :: argsL).toArray) :
    ∃ (v : Option Value) (vm₁ : Vm) (B : Pt), s.WarmedH vm₁ ∧ Stand p l e R s m args below meth c B.U B.locs B.cells B.slots ∧ Post ⟨T.setVm vm₁, locs, cells, slots⟩ (Value.ref b :: argsL).toArray v B ∧
      ∀ target, Steps p.tables e below (B.U.setTop { g with pc := g.pc + 3, stack := v.toList ++ rest }) target → Steps p.tables e below (T.setTop g) target := by
  obtain ⟨mk, methM, hnamed, hmethM, hstM, habM⟩ := Cond.instanceMethod_spec hinst
  obtain ⟨m8, methM', cM, hn8, hmethM', -, -, -, -, -, -, hsigM⟩ := Cond.codeWith_spec hcode
  cases Option.some.inj (hn8.symm.trans hnamed)
  cases hmethM.symm.trans hmethM'
  obtain ⟨c2, r2, m2, q1, q2, q3, q4, kP, hkP, hkPi⟩ := Cond.selects_spec hsel
  cases hcls.symm.trans q1
  cases (State.methodFound?_of_named hnamed hy).symm.trans q2
  cases hnamed.symm.trans q3
  have hselP : selectMethod e.platform s.vm cellB.cls mk = .method mk := by rw [Launch.admits_selectMethod X.admits]; exact q4
  obtain ⟨vm₁, X₁, hstep₁⟩ := X.invokevirtual hexec hown hlink hnamed hmethM hstM hkP hkPi hy (a := b) (cell := cellB) hcell
    (fun z h => by rw [h] at hobj; cases hobj) hselP hmethM habM hkP hkPi (g := g) hg (argsL := argsL) (rest := rest) (hlen _ hsigM) hstack hdg
  obtain ⟨v, B, X', hpost, hsteps⟩ := hK m meth c ⟨T.setVm vm₁, locs, cells, slots⟩ { g with stack := rest } (.invokevirtual index) mk (Value.ref b :: argsL).toArray X₁ hg hsize hdg hW (X₁.named hnamed) (hpre vm₁ X₁.warmed)
  exact ⟨v, vm₁, B, X₁.warmed, X', hpost, fun target h => hstep₁ _ fun acts => by rw [doInvoke_state]; exact hsteps.trans h⟩
abbrev vx_CVW (R : Room) (s : State) (args : Array Value) (own C : String) (index : Nat) (y : MethodName) (bytes : ByteArray) (maxL : Nat) (ret : Option FieldType) (hh : List (Nat × Nat × Nat × Nat)) (ws : List Cond) (rm : Room) (mc ms n : Nat) : Prop :=
  (rm.cells = mc ∧ rm.slots = ms ∧ rm.frames + 1 ≤ R.frames ∧ 8 + (maxL + 11) + rm.locals ≤ R.locals ∧ (∀ w ∈ ws, ∀ (a' : Array Value) (U : State), s.WarmedH U.vm → w.before a' U = true) ∧ Cond.codeWith y bytes maxL ret hh ∈ ws) ∧
  (Cond.codeWith y bytes maxL ret hh).before args s = true ∧ (Cond.initialized y.cls).before args s = true ∧ (y.cls ≠ "java/lang/invoke/MethodHandle" ∧ y.cls ≠ "java/lang/invoke/VarHandle") ∧
  (∀ sig, parseMethodDescriptor y.desc = some sig → n = sig.parameters.length) ∧ (Cond.methodLink own index y).before args s = true ∧ (Cond.instanceMethod y).before args s = true ∧ (Cond.selects C y y).before args s = true
theorem vx_cwVW {own C : String} {index maxL mc ms : Nat} {y : MethodName} {bytes : ByteArray} {ret : Option FieldType} {hh : List (Nat × Nat × Nat × Nat)} {Ts ws ws' : List Cond} {rm : Room} (n : Nat) (ht : ∀ w ∈ Ts, w.before args s = true) (hT : GoodIn Ts (wsV own index C y ws)) (hw : ws = Cond.codeWith y bytes maxL ret hh :: ws') (hrc : rm.cells = mc) (hrs : rm.slots = ms)
    (hd : y.cls = C ∧ y.cls ≠ "java/lang/invoke/MethodHandle" ∧ y.cls ≠ "java/lang/invoke/VarHandle" ∧ (parseMethodDescriptor y.desc).map (fun d => d.parameters.length) = some n) (hR : rm.frames + 1 ≤ R.frames ∧ 8 + (maxL + 11) + rm.locals ≤ R.locals) :
    vx_CVW R s args own C index y bytes maxL ret hh ws rm mc ms n := by
  obtain ⟨hC, hd⟩ := hd
  subst hC
  have ok : ∀ w ∈ wsV own index y.cls y ws, w.before args s = true := fun w h => ht w (hT w h).1
  have hG : GoodIn Ts ws := fun w h => hT w (by unfold wsV; exact List.mem_append_right _ h)
  have hc : Cond.codeWith y bytes maxL ret hh ∈ ws := by rw [hw]; exact List.mem_cons_self
  refine ⟨⟨hrc, hrs, hR.1, hR.2, pay_in ht hG, hc⟩, ht _ (hG _ hc).1, ok _ (by simp [wsV]), ⟨hd.1, hd.2.1⟩, fun sig h => ?_, ok _ (by simp [wsV]), ok _ (by simp [wsV]), ok _ (by simp [wsV])⟩
  have h2 := hd.2.2
  rw [h] at h2
  exact (Option.some.inj h2).symm
theorem vx_runVW {y : MethodName} {bytes cc : ByteArray} {maxL nL mc ms n index : Nat} {ret : Option FieldType} {hh : List (Nat × Nat × Nat × Nat)} {ws : List Cond} {rm : Room} {Pc : Array Value → State → Prop} {Qc : Array Value → State → Outcome → State → Prop} {free : Addr → Prop} {Ts : List Cond} {own C : String} {b : Addr} {As rest : List Value} {g : JFrame}
    (S : CallFix p m c cc nL s args Ts own) (hM : Met l y ws rm Pc Qc mc ms free) (cw : vx_CVW R s args own C index y bytes maxL ret hh ws rm mc ms n) (hp : PreV s H C b Pc As)
    (hg : g.method = m) (hn : As.length = n) (hsize : g.locals.size = nL) (hstack : g.stack = As.reverse ++ .ref b :: rest) (hW : 2 * g.monitorRoom + (rest.map fun v => v.category).sum ≤ 8) (hdg : decode cc g.pc = .ok (.invokevirtual index, 3)) (hf : cells + mc ≤ R.cells ∧ slots + ms ≤ R.slots) :
    va_Run p l e R s m args below meth c H locs cells slots mc ms g rest (Qc (Value.ref b :: As).toArray) free := by
  obtain ⟨⟨hrc, hrs, hfr, hlo, hws, hcw⟩, hcode, hini, hy, hlen, hl, hin, hse⟩ := cw
  have hK : Back l R p e below s args y 3 8 (PreOf R mc ms Pc) (PostOf Qc mc ms free) := va_backW (hh := hh) (bytes := bytes) (maxL := maxL) (ret := ret) hM hp.1 hrc hrs hfr hlo hws hcw (fun a' U hW => word_at hW (Or.inl (by first | rfl | simp [Cond.onTables, Cond.keeps, Cond.steady])) hini)
  obtain ⟨hx, hb, hml, ho, -⟩ := S
  obtain ⟨-, ⟨cellB, hcB, hoB, hclB⟩, hPc⟩ := hp
  intro T hT X
  obtain ⟨v, vm₁, ⟨U', l2, c2, s2⟩, hW₁, X', ⟨g', mk, t, L, e1, e2, hq, h1, hL, h2, h3⟩, st⟩ := vx_callVW X hx (C := C) (hh := hh) (bytes := bytes) (maxL := maxL) (ret := ret) ho hl hin hse hcode hy hK (by rw [hT]; exact hcB) hoB hclB hg (hsize.trans hml.symm) (argsL := As) (rest := rest) (fun sig h => hn.trans (hlen sig h)) hstack hW (by rw [hb]; exact hdg)
    (fun vm₁ hW₁ => ⟨hf.1, hf.2, hPc (T.setVm vm₁) hT hW₁⟩)
  dsimp only [Pt.U, Pt.locs, Pt.cells, Pt.slots] at X' e1 e2 h1 h2 h3 st
  subst h1; subst h2; subst h3
  exact ⟨v, (T.setVm vm₁).calling g' mk (Value.ref b :: As).toArray, t, U', L, hT, X', hL, e1, e2, hq, st⟩
section
variable {y : MethodName} {bytes cc : ByteArray} {maxL nL mc ms n index : Nat} {ret : Option FieldType} {ws : List Cond} {rm : Room} {Pc : Array Value → State → Prop} {Qc : Array Value → State → Outcome → State → Prop} {XC : String → State → State → Prop} {free : Addr → Prop} {Ts : List Cond} {own C : String} {b : Addr} {As rest : List Value} {g : JFrame}
theorem vx_runVX {hh : List (Nat × Nat × Nat × Nat)} (S : CallFix p m c cc nL s args Ts own) (hM : vx_Met l y ws rm Pc Qc XC mc ms free) (cw : vx_CVW R s args own C index y bytes maxL ret hh ws rm mc ms n) (hp : PreV s H C b Pc As)
    (hg : g.method = m) (hn : As.length = n) (hsize : g.locals.size = nL) (hstack : g.stack = As.reverse ++ .ref b :: rest) (hW : 2 * g.monitorRoom + (rest.map fun v => v.category).sum ≤ 8) (hdg : decode cc g.pc = .ok (.invokevirtual index, 3)) (hf : cells + mc ≤ R.cells ∧ slots + ms ≤ R.slots) :
    vx_Run p l e R s m args below meth c H locs cells slots mc ms g rest (Qc (Value.ref b :: As).toArray) XC free := by
  obtain ⟨⟨hrc, hrs, hfr, hlo, hws, hcw⟩, hcode, hini, hy, hlen, hl, hin, hse⟩ := cw
  have hK : vx_Back l R p e below s args y 3 8 (PreOf R mc ms Pc) (PostOf Qc mc ms free) (vx_Post XC mc ms free) := vx_backW (hh := hh) (bytes := bytes) (maxL := maxL) (ret := ret) hM hp.1 hrc hrs hfr hlo hws hcw (fun a' U hW => word_at hW (Or.inl (by first | rfl | simp [Cond.onTables, Cond.keeps, Cond.steady])) hini)
  obtain ⟨hx, hb, hml, ho, -⟩ := S
  obtain ⟨-, ⟨cellB, hcB, hoB, hclB⟩, hPc⟩ := hp
  intro T hT X
  rcases vx_callVX X hx (C := C) (hh := hh) (bytes := bytes) (maxL := maxL) (ret := ret) ho hl hin hse hcode hy hK (by rw [hT]; exact hcB) hoB hclB hg (hsize.trans hml.symm) (argsL := As) (rest := rest) (fun sig h => hn.trans (hlen sig h)) hstack hW (by rw [hb]; exact hdg)
    (fun vm₁ hW₁ => ⟨hf.1, hf.2, hPc (T.setVm vm₁) hT hW₁⟩) with ⟨v, vm₁, ⟨U', l2, c2, s2⟩, hW₁, X', ⟨g', mk, t, L, e1, e2, hq, h1, hL, h2, h3⟩, st⟩ | ⟨q, vm₁, ⟨U', l2, c2, s2⟩, hW₁, X', ⟨g', mk, t, L, E, ce, e1, e2, hq, hce, hcv, hcl, h1, hL, h2, h3⟩, st⟩
  · dsimp only [Pt.U, Pt.locs, Pt.cells, Pt.slots] at X' e1 e2 h1 h2 h3 st
    subst h1; subst h2; subst h3
    exact Or.inl ⟨v, (T.setVm vm₁).calling g' mk (Value.ref b :: As).toArray, t, U', L, hT, X', hL, e1, e2, hq, st⟩
  · dsimp only [Pt.U, Pt.locs, Pt.cells, Pt.slots] at X' e1 e2 h1 h2 h3 st hcl
    subst h1; subst h2; subst h3
    exact Or.inr ⟨q, (T.setVm vm₁).calling g' mk (Value.ref b :: As).toArray, t, U', L, E, ce, hT, X', hL, e1, e2, hq, hce, hcv, vx_cls hW₁ hcl, st⟩
theorem vx_runSX {hh : List (Nat × Nat × Nat × Nat)} (S : CallFix p m c cc nL s args Ts own) (hM : vx_Met l y ws rm Pc Qc XC mc ms free) (cw : vx_CSW R s args own index y bytes maxL ret hh ws rm mc ms n) (hp : PreS s H Pc As)
    (hg : g.method = m) (hn : As.length = n) (hsize : g.locals.size = nL) (hstack : g.stack = As.reverse ++ rest) (hW : 2 * g.monitorRoom + (rest.map fun v => v.category).sum ≤ 8) (hdg : decode cc g.pc = .ok (.invokestatic index, 3)) (hf : cells + mc ≤ R.cells ∧ slots + ms ≤ R.slots) :
    vx_Run p l e R s m args below meth c H locs cells slots mc ms g rest (Qc As.toArray) XC free := by
  obtain ⟨⟨hrc, hrs, hfr, hlo, hws, hcw⟩, hcode, hini, hy, hlen, hl, hstt⟩ := cw
  have hK : vx_Back l R p e below s args y 3 8 (PreOf R mc ms Pc) (PostOf Qc mc ms free) (vx_Post XC mc ms free) := vx_backW (hh := hh) (bytes := bytes) (maxL := maxL) (ret := ret) hM hp.1 hrc hrs hfr hlo hws hcw (fun a' U hW => word_at hW (Or.inl (by first | rfl | simp [Cond.onTables, Cond.keeps, Cond.steady])) hini)
  obtain ⟨hx, hb, hml, ho, -⟩ := S
  intro T hT X
  rcases vx_callSX X hx (hh := hh) (bytes := bytes) (maxL := maxL) (ret := ret) ho hl hstt hini hcode hy hK hg (hsize.trans hml.symm) (argsL := As) (rest := rest) (fun sig h => hn.trans (hlen sig h)) hstack hW (by rw [hb]; exact hdg)
    (fun vm₁ hW₁ => ⟨hf.1, hf.2, hp.2 (T.setVm vm₁) hT hW₁⟩) with ⟨v, vm₁, ⟨U', l2, c2, s2⟩, hW₁, X', ⟨g', mk, t, L, e1, e2, hq, h1, hL, h2, h3⟩, st⟩ | ⟨q, vm₁, ⟨U', l2, c2, s2⟩, hW₁, X', ⟨g', mk, t, L, E, ce, e1, e2, hq, hce, hcv, hcl, h1, hL, h2, h3⟩, st⟩
  · dsimp only [Pt.U, Pt.locs, Pt.cells, Pt.slots] at X' e1 e2 h1 h2 h3 st
    subst h1; subst h2; subst h3
    exact Or.inl ⟨v, (T.setVm vm₁).calling g' mk As.toArray, t, U', L, hT, X', hL, e1, e2, hq, st⟩
  · dsimp only [Pt.U, Pt.locs, Pt.cells, Pt.slots] at X' e1 e2 h1 h2 h3 st hcl
    subst h1; subst h2; subst h3
    exact Or.inr ⟨q, (T.setVm vm₁).calling g' mk As.toArray, t, U', L, E, ce, hT, X', hL, e1, e2, hq, hce, hcv, vx_cls hW₁ hcl, st⟩
end
end VXH
theorem vx_ofWH {l : Launch} {y : MethodName} {ws ws' : List Cond} {rm : Room} {Pc : Array Value → State → Prop} {Qc : Array Value → State → Outcome → State → Prop} {XC : String → State → State → Prop} {mc ms : Nat} {free : Addr → Prop} {cc : ByteArray} {maxL : Nat} {ret : Option FieldType} {hh : List (Nat × Nat × Nat × Nat)}
    (hy : plainName y.cls = true) (hw : ws = Cond.codeWith y cc maxL ret hh :: ws')
    (body : ∀ p e s m args below meth c s₁, BodyLoose p l y (headSpec ws rm) cc maxL ret e s m args below meth c s₁ → c.maxLocals = maxL → Pc args s →
      W p l e (headSpec ws rm).room s m args below meth c s.heap [] 0 0 (vx_MQ below Qc XC args s mc ms free) (entryFrame m args maxL)) : vx_Met l y ws rm Pc Qc XC mc ms free := by
  refine MetFree.of_bodyS (code := cc) (maxLocals := maxL) (ret := ret) hy ?_ ?_
  · intro args s m h hn
    obtain ⟨m9, meth, c, hn9, h1, h2, h3, h4, -, h5, h6, -⟩ := Cond.codeWith_spec (atoms_spec (ws := ws) h _ (by rw [hw]; exact List.mem_cons_self))
    cases hn.symm.trans hn9
    exact ⟨meth, c, h1, h2, h3, h4, h5, h6⟩
  · intro p e s m args below meth c s₁ B hml hP _
    have hh0 : s₁.heap = s.heap := by rw [B.state]; rfl
    obtain ⟨t, a1, o, b1, b2, b3⟩ := body p e s m args below meth c s₁ B hml hP s₁ hh0 (Stand.of_body B)
    exact ⟨t, o, a1, b1, b2, b3⟩
/-! ===== END ===== -/
end
section
def RX0 : String := "StickPairs$Clock"
def TX0 : u_T := fun k => match k with
  | 0 => ("StickPairs$Clock", "free", "[I", true)
  | 1 => ("StickPairs$Clock", "tick", "I", false)
  | _ => ("StickPairs$Clock", "waited", "I", false)
def tyX0 : Nat → FieldType := fun k => match k with
  | 0 => .array .int
  | 1 => .int
  | _ => .int
abbrev wsX00 : List Cond := u_ws RX0 TX0 3
theorem nmX0 : ∀ a, a < 3 → ∀ b, b < 3 → a ≠ b → (TX0 a).2.1 ≠ (TX0 b).2.1 := by decide +kernel
theorem tyX0_ok : ∀ k, k < 3 → parseFieldDescriptor (TX0 k).2.2.1 = some (tyX0 k) := by decide +kernel
abbrev cX0_init : ByteArray := prog_2_method_1_code
def yX0_init : MethodName := ⟨RX0, "<init>", "()V"⟩
abbrev cX0_copyFrom : ByteArray := prog_2_method_2_code
def yX0_copyFrom : MethodName := ⟨RX0, "copyFrom", "(LStickPairs$Clock;)V"⟩
abbrev cX0_reset : ByteArray := prog_2_method_3_code
def yX0_reset : MethodName := ⟨RX0, "reset", "()V"⟩
abbrev cX0_freeAllNow : ByteArray := prog_2_method_4_code
def yX0_freeAllNow : MethodName := ⟨RX0, "freeAllNow", "()V"⟩
abbrev cX0_freeSlot : ByteArray := prog_2_method_5_code
def yX0_freeSlot : MethodName := ⟨RX0, "freeSlot", "(I)V"⟩
abbrev cX0_freeFrom : ByteArray := prog_2_method_6_code
def yX0_freeFrom : MethodName := ⟨RX0, "freeFrom", "(II)I"⟩
abbrev cX0_pass : ByteArray := prog_2_method_7_code
def yX0_pass : MethodName := ⟨RX0, "pass", "(I)V"⟩
abbrev cX0_readSingle : ByteArray := prog_2_method_8_code
def yX0_readSingle : MethodName := ⟨RX0, "readSingle", "(II)V"⟩
abbrev cX0_readPair : ByteArray := prog_2_method_9_code
def yX0_readPair : MethodName := ⟨RX0, "readPair", "(IIII)V"⟩
abbrev cX0_waitFor : ByteArray := prog_2_method_10_code
def yX0_waitFor : MethodName := ⟨RX0, "waitFor", "(I)V"⟩
abbrev cX0_occupy : ByteArray := prog_2_method_11_code
def yX0_occupy : MethodName := ⟨RX0, "occupy", "(II)V"⟩
def RX1 : String := "StickPairs$Layout"
def TX1 : u_T := fun k => match k with
  | 0 => ("StickPairs$Layout", "kind", "I", false)
  | 1 => ("StickPairs$Layout", "sizes", "[I", true)
  | 2 => ("StickPairs$Layout", "room0", "I", false)
  | 3 => ("StickPairs$Layout", "room1", "I", false)
  | 4 => ("StickPairs$Layout", "lesserRoom", "I", false)
  | 5 => ("StickPairs$Layout", "blocks", "I", false)
  | _ => ("StickPairs$Layout", "wide", "I", false)
def tyX1 : Nat → FieldType := fun k => match k with
  | 0 => .int
  | 1 => .array .int
  | 2 => .int
  | 3 => .int
  | 4 => .int
  | 5 => .int
  | _ => .int
abbrev wsX10 : List Cond := u_ws RX1 TX1 7
theorem nmX1 : ∀ a, a < 7 → ∀ b, b < 7 → a ≠ b → (TX1 a).2.1 ≠ (TX1 b).2.1 := by decide +kernel
theorem tyX1_ok : ∀ k, k < 7 → parseFieldDescriptor (TX1 k).2.2.1 = some (tyX1 k) := by decide +kernel
abbrev cX1_init : ByteArray := prog_3_method_1_code
def yX1_init : MethodName := ⟨RX1, "<init>", "()V"⟩
abbrev cX1_copyFrom : ByteArray := prog_3_method_2_code
def yX1_copyFrom : MethodName := ⟨RX1, "copyFrom", "(LStickPairs$Layout;)V"⟩
abbrev cX1_isLaid : ByteArray := prog_3_method_3_code
def yX1_isLaid : MethodName := ⟨RX1, "isLaid", "()Z"⟩
abbrev cX1_lay : ByteArray := prog_3_method_4_code
def yX1_lay : MethodName := ⟨RX1, "lay", "(ILStickPairs$Sticks;)V"⟩
abbrev cX1_clear : ByteArray := prog_3_method_5_code
def yX1_clear : MethodName := ⟨RX1, "clear", "()V"⟩
abbrev cX1_isWide : ByteArray := prog_3_method_6_code
def yX1_isWide : MethodName := ⟨RX1, "isWide", "(I)Z"⟩
abbrev cX1_isMirrored : ByteArray := prog_3_method_7_code
def yX1_isMirrored : MethodName := ⟨RX1, "isMirrored", "()Z"⟩
abbrev cX1_beginsPair : ByteArray := prog_3_method_8_code
def yX1_beginsPair : MethodName := ⟨RX1, "beginsPair", "(I)Z"⟩
abbrev cX1_channelOf : ByteArray := prog_3_method_9_code
def yX1_channelOf : MethodName := ⟨RX1, "channelOf", "(I)I"⟩
abbrev cX1_indexOf : ByteArray := prog_3_method_10_code
def yX1_indexOf : MethodName := ⟨RX1, "indexOf", "(I)I"⟩
abbrev cX1_slotAt : ByteArray := prog_3_method_11_code
def yX1_slotAt : MethodName := ⟨RX1, "slotAt", "(II)I"⟩
abbrev cX1_numberAt : ByteArray := prog_3_method_12_code
def yX1_numberAt : MethodName := ⟨RX1, "numberAt", "(II)I"⟩
abbrev cX1_slotOf : ByteArray := prog_3_method_13_code
def yX1_slotOf : MethodName := ⟨RX1, "slotOf", "(I)I"⟩
abbrev cX1_numberOf : ByteArray := prog_3_method_14_code
def yX1_numberOf : MethodName := ⟨RX1, "numberOf", "(I)I"⟩
abbrev cX1_slotAgainOf : ByteArray := prog_3_method_15_code
def yX1_slotAgainOf : MethodName := ⟨RX1, "slotAgainOf", "(I)I"⟩
abbrev cX1_numberAgainOf : ByteArray := prog_3_method_16_code
def yX1_numberAgainOf : MethodName := ⟨RX1, "numberAgainOf", "(I)I"⟩
abbrev cX1_blockAt : ByteArray := prog_3_method_17_code
def yX1_blockAt : MethodName := ⟨RX1, "blockAt", "(II)I"⟩
abbrev cX1_usedIn : ByteArray := prog_3_method_18_code
def yX1_usedIn : MethodName := ⟨RX1, "usedIn", "(I)I"⟩
def RX2 : String := "StickPairs$State"
def TX2 : u_T := fun k => match k with
  | 0 => ("StickPairs$State", "sticks", "LStickPairs$Sticks;", true)
  | 1 => ("StickPairs$State", "layout", "LStickPairs$Layout;", true)
  | 2 => ("StickPairs$State", "clock", "LStickPairs$Clock;", true)
  | 3 => ("StickPairs$State", "values", "[I", true)
  | 4 => ("StickPairs$State", "mapSetting", "I", false)
  | 5 => ("StickPairs$State", "pairSetting", "I", false)
  | 6 => ("StickPairs$State", "blocksRead", "I", false)
  | 7 => ("StickPairs$State", "pairsRead", "I", false)
  | _ => ("StickPairs$State", "starts", "I", false)
def tyX2 : Nat → FieldType := fun k => match k with
  | 0 => .object "StickPairs$Sticks"
  | 1 => .object "StickPairs$Layout"
  | 2 => .object "StickPairs$Clock"
  | 3 => .array .int
  | 4 => .int
  | 5 => .int
  | 6 => .int
  | 7 => .int
  | _ => .int
abbrev wsX20 : List Cond := u_ws RX2 TX2 9
theorem nmX2 : ∀ a, a < 9 → ∀ b, b < 9 → a ≠ b → (TX2 a).2.1 ≠ (TX2 b).2.1 := by decide +kernel
theorem tyX2_ok : ∀ k, k < 9 → parseFieldDescriptor (TX2 k).2.2.1 = some (tyX2 k) := by decide +kernel
abbrev cX2_init : ByteArray := prog_4_method_1_code
def yX2_init : MethodName := ⟨RX2, "<init>", "()V"⟩
abbrev cX2_copyFrom : ByteArray := prog_4_method_2_code
def yX2_copyFrom : MethodName := ⟨RX2, "copyFrom", "(LStickPairs$State;)V"⟩
abbrev cX2_begin : ByteArray := prog_4_method_3_code
def yX2_begin : MethodName := ⟨RX2, "begin", "()V"⟩
abbrev cX2_end : ByteArray := prog_4_method_4_code
def yX2_end : MethodName := ⟨RX2, "end", "()V"⟩
abbrev cX2_settingOf : ByteArray := prog_4_method_5_code
def yX2_settingOf : MethodName := ⟨RX2, "settingOf", "(I)I"⟩
abbrev cX2_exchangeSetting : ByteArray := prog_4_method_6_code
def yX2_exchangeSetting : MethodName := ⟨RX2, "exchangeSetting", "(II)I"⟩
abbrev cX2_usedPlaces : ByteArray := prog_4_method_7_code
def yX2_usedPlaces : MethodName := ⟨RX2, "usedPlaces", "(I)I"⟩
abbrev cX2_hasBlock : ByteArray := prog_4_method_8_code
def yX2_hasBlock : MethodName := ⟨RX2, "hasBlock", "(I)Z"⟩
abbrev cX2_canRead : ByteArray := prog_4_method_9_code
def yX2_canRead : MethodName := ⟨RX2, "canRead", "(I)Z"⟩
abbrev cX2_heldBy : ByteArray := prog_4_method_10_code
def yX2_heldBy : MethodName := ⟨RX2, "heldBy", "(I)I"⟩
abbrev cX2_exchange : ByteArray := prog_4_method_11_code
def yX2_exchange : MethodName := ⟨RX2, "exchange", "(II)I"⟩
abbrev cX2_readSlotOf : ByteArray := prog_4_method_12_code
def yX2_readSlotOf : MethodName := ⟨RX2, "readSlotOf", "(I)I"⟩
abbrev cX2_readRankOf : ByteArray := prog_4_method_13_code
def yX2_readRankOf : MethodName := ⟨RX2, "readRankOf", "(I)I"⟩
abbrev cX2_readOne : ByteArray := prog_4_method_14_code
def yX2_readOne : MethodName := ⟨RX2, "readOne", "(I)I"⟩
abbrev cX2_slotNumber : ByteArray := prog_4_method_18_code
def yX2_slotNumber : MethodName := ⟨RX2, "slotNumber", "(II)I"⟩
abbrev cX2_blockNumber : ByteArray := prog_4_method_19_code
def yX2_blockNumber : MethodName := ⟨RX2, "blockNumber", "(II)I"⟩
abbrev cX2_rankOrNone : ByteArray := prog_4_method_20_code
def yX2_rankOrNone : MethodName := ⟨RX2, "rankOrNone", "(II)I"⟩
abbrev cX2_lostBlocks : ByteArray := prog_4_method_21_code
def yX2_lostBlocks : MethodName := ⟨RX2, "lostBlocks", "()I"⟩
abbrev cX2_sumOfValues : ByteArray := prog_4_method_22_code
def yX2_sumOfValues : MethodName := ⟨RX2, "sumOfValues", "()I"⟩
def RX3 : String := "StickPairs$Sticks"
def TX3 : u_T := fun k => match k with
  | 0 => ("StickPairs$Sticks", "sizes", "[I", true)
  | 1 => ("StickPairs$Sticks", "ranks", "[I", true)
  | 2 => ("StickPairs$Sticks", "delays", "[I", true)
  | 3 => ("StickPairs$Sticks", "reads", "[I", true)
  | 4 => ("StickPairs$Sticks", "failed", "[Z", true)
  | _ => ("StickPairs$Sticks", "mapped", "[Z", true)
def tyX3 : Nat → FieldType := fun k => match k with
  | 0 => .array .int
  | 1 => .array .int
  | 2 => .array .int
  | 3 => .array .int
  | 4 => .array .boolean
  | _ => .array .boolean
abbrev wsX30 : List Cond := u_ws RX3 TX3 6
theorem nmX3 : ∀ a, a < 6 → ∀ b, b < 6 → a ≠ b → (TX3 a).2.1 ≠ (TX3 b).2.1 := by decide +kernel
theorem tyX3_ok : ∀ k, k < 6 → parseFieldDescriptor (TX3 k).2.2.1 = some (tyX3 k) := by decide +kernel
abbrev cX3_init : ByteArray := prog_5_method_1_code
def yX3_init : MethodName := ⟨RX3, "<init>", "()V"⟩
abbrev cX3_copyFrom : ByteArray := prog_5_method_2_code
def yX3_copyFrom : MethodName := ⟨RX3, "copyFrom", "(LStickPairs$Sticks;)V"⟩
abbrev cX3_put : ByteArray := prog_5_method_3_code
def yX3_put : MethodName := ⟨RX3, "put", "(IIII)V"⟩
abbrev cX3_take : ByteArray := prog_5_method_4_code
def yX3_take : MethodName := ⟨RX3, "take", "(I)V"⟩
abbrev cX3_spoil : ByteArray := prog_5_method_5_code
def yX3_spoil : MethodName := ⟨RX3, "spoil", "(I)V"⟩
abbrev cX3_tellRead : ByteArray := prog_5_method_6_code
def yX3_tellRead : MethodName := ⟨RX3, "tellRead", "(I)V"⟩
abbrev cX3_mapGoodOnes : ByteArray := prog_5_method_7_code
def yX3_mapGoodOnes : MethodName := ⟨RX3, "mapGoodOnes", "()V"⟩
abbrev cX3_unmapAll : ByteArray := prog_5_method_8_code
def yX3_unmapAll : MethodName := ⟨RX3, "unmapAll", "()V"⟩
abbrev cX3_isPlugged : ByteArray := prog_5_method_9_code
def yX3_isPlugged : MethodName := ⟨RX3, "isPlugged", "(I)Z"⟩
abbrev cX3_hasFailed : ByteArray := prog_5_method_10_code
def yX3_hasFailed : MethodName := ⟨RX3, "hasFailed", "(I)Z"⟩
abbrev cX3_isMapped : ByteArray := prog_5_method_11_code
def yX3_isMapped : MethodName := ⟨RX3, "isMapped", "(I)Z"⟩
abbrev cX3_isGood : ByteArray := prog_5_method_12_code
def yX3_isGood : MethodName := ⟨RX3, "isGood", "(I)Z"⟩
abbrev cX3_isLeft : ByteArray := prog_5_method_13_code
def yX3_isLeft : MethodName := ⟨RX3, "isLeft", "(I)Z"⟩
abbrev cX3_pluggedOnes : ByteArray := prog_5_method_14_code
def yX3_pluggedOnes : MethodName := ⟨RX3, "pluggedOnes", "()I"⟩
abbrev cX3_failedOnes : ByteArray := prog_5_method_15_code
def yX3_failedOnes : MethodName := ⟨RX3, "failedOnes", "()I"⟩
abbrev cX3_sizeIn : ByteArray := prog_5_method_16_code
def yX3_sizeIn : MethodName := ⟨RX3, "sizeIn", "(I)I"⟩
abbrev cX3_ranksIn : ByteArray := prog_5_method_17_code
def yX3_ranksIn : MethodName := ⟨RX3, "ranksIn", "(I)I"⟩
abbrev cX3_delayIn : ByteArray := prog_5_method_18_code
def yX3_delayIn : MethodName := ⟨RX3, "delayIn", "(I)I"⟩
abbrev cX3_readsIn : ByteArray := prog_5_method_19_code
def yX3_readsIn : MethodName := ⟨RX3, "readsIn", "(I)I"⟩
abbrev cX3_goodSizeIn : ByteArray := prog_5_method_20_code
def yX3_goodSizeIn : MethodName := ⟨RX3, "goodSizeIn", "(I)I"⟩
abbrev cX3_rankOf : ByteArray := prog_5_method_21_code
def yX3_rankOf : MethodName := ⟨RX3, "rankOf", "(II)I"⟩
abbrev cX3_rankRow : ByteArray := prog_5_method_22_code
def yX3_rankRow : MethodName := ⟨RX3, "rankRow", "(II)I"⟩
abbrev cX3_hindrance : ByteArray := prog_5_method_23_code
def yX3_hindrance : MethodName := ⟨RX3, "hindrance", "(I)I"⟩
abbrev cX3_wideIfChanged : ByteArray := prog_5_method_24_code
def yX3_wideIfChanged : MethodName := ⟨RX3, "wideIfChanged", "(II)I"⟩
def RX4 : String := "StickPairs$Text"
def TX4 : u_T := fun k => match k with
  | 0 => ("StickPairs$Text", "codes", "[I", true)
  | 1 => ("StickPairs$Text", "length", "I", false)
  | 2 => ("StickPairs$Text", "firsts", "[I", true)
  | 3 => ("StickPairs$Text", "lasts", "[I", true)
  | 4 => ("StickPairs$Text", "part", "I", false)
  | 5 => ("StickPairs$Text", "ranged", "Z", false)
  | _ => ("StickPairs$Text", "number", "I", false)
def tyX4 : Nat → FieldType := fun k => match k with
  | 0 => .array .int
  | 1 => .int
  | 2 => .array .int
  | 3 => .array .int
  | 4 => .int
  | 5 => .boolean
  | _ => .int
abbrev wsX40 : List Cond := u_ws RX4 TX4 7
theorem nmX4 : ∀ a, a < 7 → ∀ b, b < 7 → a ≠ b → (TX4 a).2.1 ≠ (TX4 b).2.1 := by decide +kernel
theorem tyX4_ok : ∀ k, k < 7 → parseFieldDescriptor (TX4 k).2.2.1 = some (tyX4 k) := by decide +kernel
abbrev cX4_init : ByteArray := prog_6_method_1_code
def yX4_init : MethodName := ⟨RX4, "<init>", "()V"⟩
def RX5 : String := "StickPairs"
def TX5 : u_T := fun k => match k with
  | 0 => ("StickPairs", "now", "LStickPairs$State;", true)
  | 1 => ("StickPairs", "snapshot", "LStickPairs$State;", true)
  | 2 => ("StickPairs", "hasSnapshot", "Z", false)
  | 3 => ("StickPairs", "saved", "[LStickPairs$State;", true)
  | 4 => ("StickPairs", "savedCount", "I", false)
  | 5 => ("StickPairs", "text", "LStickPairs$Text;", true)
  | 6 => ("StickPairs", "trialLayout", "LStickPairs$Layout;", true)
  | _ => ("StickPairs", "trialClock", "LStickPairs$Clock;", true)
def tyX5 : Nat → FieldType := fun k => match k with
  | 0 => .object "StickPairs$State"
  | 1 => .object "StickPairs$State"
  | 2 => .boolean
  | 3 => .array (.object "StickPairs$State")
  | 4 => .int
  | 5 => .object "StickPairs$Text"
  | 6 => .object "StickPairs$Layout"
  | _ => .object "StickPairs$Clock"
abbrev wsX50 : List Cond := u_ws RX5 TX5 8
theorem nmX5 : ∀ a, a < 8 → ∀ b, b < 8 → a ≠ b → (TX5 a).2.1 ≠ (TX5 b).2.1 := by decide +kernel
theorem tyX5_ok : ∀ k, k < 8 → parseFieldDescriptor (TX5 k).2.2.1 = some (tyX5 k) := by decide +kernel
abbrev cX5_init : ByteArray := prog_1_method_1_code
def yX5_init : MethodName := ⟨RX5, "<init>", "()V"⟩
abbrev cX5_plug : ByteArray := prog_1_method_2_code
def yX5_plug : MethodName := ⟨RX5, "plug", "(IIII)I"⟩
abbrev cX5_pull : ByteArray := prog_1_method_3_code
def yX5_pull : MethodName := ⟨RX5, "pull", "(I)I"⟩
abbrev cX5_fail : ByteArray := prog_1_method_4_code
def yX5_fail : MethodName := ⟨RX5, "fail", "(I)I"⟩
abbrev cX5_start : ByteArray := prog_1_method_5_code
def yX5_start : MethodName := ⟨RX5, "start", "()I"⟩
abbrev cX5_stop : ByteArray := prog_1_method_6_code
def yX5_stop : MethodName := ⟨RX5, "stop", "()I"⟩
abbrev cX5_write : ByteArray := prog_1_method_7_code
def yX5_write : MethodName := ⟨RX5, "write", "(II)I"⟩
abbrev cX5_read : ByteArray := prog_1_method_8_code
def yX5_read : MethodName := ⟨RX5, "read", "(I)I"⟩
abbrev cX5_rest : ByteArray := prog_1_method_9_code
def yX5_rest : MethodName := ⟨RX5, "rest", "(I)I"⟩
abbrev cX5_set : ByteArray := prog_1_method_10_code
def yX5_set : MethodName := ⟨RX5, "set", "(II)I"⟩
abbrev cX5_undo : ByteArray := prog_1_method_17_code
def yX5_undo : MethodName := ⟨RX5, "undo", "()I"⟩
abbrev cX5_slot : ByteArray := prog_1_method_18_code
def yX5_slot : MethodName := ⟨RX5, "slot", "(II)I"⟩
abbrev cX5_where : ByteArray := prog_1_method_19_code
def yX5_where : MethodName := ⟨RX5, "where", "(II)I"⟩
abbrev cX5_lies : ByteArray := prog_1_method_20_code
def yX5_lies : MethodName := ⟨RX5, "lies", "(II)I"⟩
abbrev cX5_count : ByteArray := prog_1_method_21_code
def yX5_count : MethodName := ⟨RX5, "count", "(I)I"⟩
abbrev cX5_setting : ByteArray := prog_1_method_22_code
def yX5_setting : MethodName := ⟨RX5, "setting", "(I)I"⟩
abbrev cX5_why : ByteArray := prog_1_method_23_code
def yX5_why : MethodName := ⟨RX5, "why", "()I"⟩
abbrev cX5_sweep : ByteArray := prog_1_method_24_code
def yX5_sweep : MethodName := ⟨RX5, "sweep", "(I)I"⟩
abbrev cX5_ifStarted : ByteArray := prog_1_method_25_code
def yX5_ifStarted : MethodName := ⟨RX5, "ifStarted", "(II)I"⟩
abbrev cX5_bestChange : ByteArray := prog_1_method_26_code
def yX5_bestChange : MethodName := ⟨RX5, "bestChange", "()I"⟩
abbrev cX5_wideShare : ByteArray := prog_1_method_27_code
def yX5_wideShare : MethodName := ⟨RX5, "wideShare", "()D"⟩
abbrev cX5_meanTicks : ByteArray := prog_1_method_28_code
def yX5_meanTicks : MethodName := ⟨RX5, "meanTicks", "()F"⟩
abbrev cX5_isWithin : ByteArray := prog_1_method_30_code
def yX5_isWithin : MethodName := ⟨RX5, "isWithin", "(III)Z"⟩
abbrev cX5_isSlot : ByteArray := prog_1_method_31_code
def yX5_isSlot : MethodName := ⟨RX5, "isSlot", "(I)Z"⟩
abbrev cX5_entry : ByteArray := prog_1_method_32_code
def yX5_entry : MethodName := ⟨RX5, "entry", "([II)I"⟩
abbrev cX5_saveState : ByteArray := prog_1_method_33_code
def yX5_saveState : MethodName := ⟨RX5, "saveState", "()V"⟩
abbrev cX5_moveOldestToEnd : ByteArray := prog_1_method_34_code
def yX5_moveOldestToEnd : MethodName := ⟨RX5, "moveOldestToEnd", "()V"⟩
abbrev cX5_countOf : ByteArray := prog_1_method_35_code
def yX5_countOf : MethodName := ⟨RX5, "countOf", "(I)I"⟩
abbrev cX5_sweepTicks : ByteArray := prog_1_method_36_code
def yX5_sweepTicks : MethodName := ⟨RX5, "sweepTicks", "(I)I"⟩
abbrev cX5_trialRank : ByteArray := prog_1_method_37_code
def yX5_trialRank : MethodName := ⟨RX5, "trialRank", "(I)I"⟩
abbrev cX5_trialDelay : ByteArray := prog_1_method_38_code
def yX5_trialDelay : MethodName := ⟨RX5, "trialDelay", "(I)I"⟩
abbrev cX5_blocksIfStarted : ByteArray := prog_1_method_39_code
def yX5_blocksIfStarted : MethodName := ⟨RX5, "blocksIfStarted", "(II)I"⟩
def RX6 : String := "StickPairsModel"
def TX6 : u_T := fun k => match k with
  | _ => ("", "", "", false)
def tyX6 : Nat → FieldType := fun k => match k with
  | _ => .int
abbrev wsX60 : List Cond := u_ws RX6 TX6 0
theorem nmX6 : ∀ a, a < 0 → ∀ b, b < 0 → a ≠ b → (TX6 a).2.1 ≠ (TX6 b).2.1 := by decide +kernel
theorem tyX6_ok : ∀ k, k < 0 → parseFieldDescriptor (TX6 k).2.2.1 = some (tyX6 k) := by decide +kernel
def RJx145de : String := "java/io/Serializable"
def RJ9 : String := "java/lang/Math"
abbrev cJ9_min_7cf53 : ByteArray := prog_13_method_69_code
def yJ9_min_7cf53 : MethodName := ⟨RJ9, "min", "(II)I"⟩
def RJ0 : String := "java/lang/String"
def RJ10 : String := "java/lang/System"
def RJ7 : String := "java/util/Arrays"
abbrev cJ7_fill_53178 : ByteArray := prog_18_method_103_code
def yJ7_fill_53178 : MethodName := ⟨RJ7, "fill", "([II)V"⟩
def RL : String := "StickPairsLaw"
abbrev cL_cell : ByteArray := method_2_code
def yL_cell : MethodName := ⟨RL, "cell", "([II)I"⟩
abbrev cL_low : ByteArray := method_3_code
def yL_low : MethodName := ⟨RL, "low", "(II)I"⟩
abbrev cL_plug : ByteArray := method_4_code
def yL_plug : MethodName := ⟨RL, "plug", "(LStickPairs;IIII)I"⟩
abbrev cL_pull : ByteArray := method_5_code
def yL_pull : MethodName := ⟨RL, "pull", "(LStickPairs;I)I"⟩
abbrev cL_fail : ByteArray := method_6_code
def yL_fail : MethodName := ⟨RL, "fail", "(LStickPairs;I)I"⟩
abbrev cL_start : ByteArray := method_7_code
def yL_start : MethodName := ⟨RL, "start", "(LStickPairs;)I"⟩
abbrev cL_stop : ByteArray := method_8_code
def yL_stop : MethodName := ⟨RL, "stop", "(LStickPairs;)I"⟩
abbrev cL_write : ByteArray := method_9_code
def yL_write : MethodName := ⟨RL, "write", "(LStickPairs;II)I"⟩
abbrev cL_read : ByteArray := method_10_code
def yL_read : MethodName := ⟨RL, "read", "(LStickPairs;I)I"⟩
abbrev cL_rest : ByteArray := method_11_code
def yL_rest : MethodName := ⟨RL, "rest", "(LStickPairs;I)I"⟩
abbrev cL_set : ByteArray := method_12_code
def yL_set : MethodName := ⟨RL, "set", "(LStickPairs;II)I"⟩
abbrev cL_undo : ByteArray := method_13_code
def yL_undo : MethodName := ⟨RL, "undo", "(LStickPairs;)I"⟩
abbrev cL_where : ByteArray := method_14_code
def yL_where : MethodName := ⟨RL, "where", "(LStickPairs;II)I"⟩
abbrev cL_lies : ByteArray := method_15_code
def yL_lies : MethodName := ⟨RL, "lies", "(LStickPairs;II)I"⟩
abbrev cL_slot : ByteArray := method_16_code
def yL_slot : MethodName := ⟨RL, "slot", "(LStickPairs;II)I"⟩
abbrev cL_isLeft : ByteArray := method_17_code
def yL_isLeft : MethodName := ⟨RL, "isLeft", "([II)Z"⟩
abbrev cL_good : ByteArray := method_18_code
def yL_good : MethodName := ⟨RL, "good", "([II)I"⟩
abbrev cL_place : ByteArray := method_19_code
def yL_place : MethodName := ⟨RL, "place", "([III)I"⟩
abbrev cL_why : ByteArray := method_20_code
def yL_why : MethodName := ⟨RL, "why", "([II)I"⟩
abbrev cL_make : ByteArray := method_21_code
def yL_make : MethodName := ⟨RL, "make", "([I[I[I[I[II)V"⟩
abbrev cL_can : ByteArray := method_22_code
def yL_can : MethodName := ⟨RL, "can", "([I[I[II)Z"⟩
abbrev cL_readAt : ByteArray := method_23_code
def yL_readAt : MethodName := ⟨RL, "readAt", "([I[I[II)I"⟩
abbrev cL_rank : ByteArray := method_24_code
def yL_rank : MethodName := ⟨RL, "rank", "([II)I"⟩
abbrev cL_reads : ByteArray := method_25_code
def yL_reads : MethodName := ⟨RL, "reads", "([I[I[I[IIZ)V"⟩
abbrev cL_used : ByteArray := method_26_code
def yL_used : MethodName := ⟨RL, "used", "([I[I[II)I"⟩
abbrev cL_sticks : ByteArray := method_27_code
def yL_sticks : MethodName := ⟨RL, "sticks", "(LStickPairs;II[I[I[I[I)Z"⟩
abbrev cL_act : ByteArray := method_28_code
def yL_act : MethodName := ⟨RL, "act", "(LStickPairs;II[I[I[I[I[I)Z"⟩
abbrev cL_isSwept : ByteArray := method_29_code
def yL_isSwept : MethodName := ⟨RL, "isSwept", "(LStickPairs;I[I[I)Z"⟩
abbrev cL_isChange : ByteArray := method_30_code
def yL_isChange : MethodName := ⟨RL, "isChange", "(LStickPairs;[I)Z"⟩
abbrev cL_areBlocks : ByteArray := method_31_code
def yL_areBlocks : MethodName := ⟨RL, "areBlocks", "(LStickPairs;[I[I[I[I[I)Z"⟩
abbrev cL_isSo : ByteArray := method_32_code
def yL_isSo : MethodName := ⟨RL, "isSo", "(LStickPairs;[I[I[I[I[I)Z"⟩
abbrev cL_law : ByteArray := code
def yL_law : MethodName := ⟨RL, "law", "([I)Z"⟩
abbrev vwCl : List vw_C := [(RX0, TX0, 3), (RX1, TX1, 7), (RX2, TX2, 9), (RX3, TX3, 6), (RX4, TX4, 7), (RX5, TX5, 8)]
end
section
theorem dX0_init_0 : decode cX0_init 0 = .ok (.aload_n 0, 1) := by decide +kernel
theorem dX0_init_1 : decode cX0_init 1 = .ok (.invokespecial 3, 3) := by decide +kernel
theorem dX0_init_4 : decode cX0_init 4 = .ok (.aload_n 0, 1) := by decide +kernel
theorem dX0_init_5 : decode cX0_init 5 = .ok (.bipush 8, 2) := by decide +kernel
theorem dX0_init_7 : decode cX0_init 7 = .ok (.newarray .int, 2) := by decide +kernel
theorem dX0_init_9 : decode cX0_init 9 = .ok (.putfield 9, 3) := by decide +kernel
theorem dX0_init_12 : decode cX0_init 12 = .ok (.return_, 1) := by decide +kernel
theorem dX0_copyFrom_0 : decode cX0_copyFrom 0 = .ok (.aload_n 1, 1) := by decide +kernel
theorem dX0_copyFrom_1 : decode cX0_copyFrom 1 = .ok (.getfield 9, 3) := by decide +kernel
theorem dX0_copyFrom_4 : decode cX0_copyFrom 4 = .ok (.iconst 0, 1) := by decide +kernel
theorem dX0_copyFrom_5 : decode cX0_copyFrom 5 = .ok (.aload_n 0, 1) := by decide +kernel
theorem dX0_copyFrom_6 : decode cX0_copyFrom 6 = .ok (.getfield 9, 3) := by decide +kernel
theorem dX0_copyFrom_9 : decode cX0_copyFrom 9 = .ok (.iconst 0, 1) := by decide +kernel
theorem dX0_copyFrom_10 : decode cX0_copyFrom 10 = .ok (.bipush 8, 2) := by decide +kernel
theorem dX0_copyFrom_12 : decode cX0_copyFrom 12 = .ok (.invokestatic 15, 3) := by decide +kernel
theorem dX0_copyFrom_15 : decode cX0_copyFrom 15 = .ok (.aload_n 0, 1) := by decide +kernel
theorem dX0_copyFrom_16 : decode cX0_copyFrom 16 = .ok (.aload_n 1, 1) := by decide +kernel
theorem dX0_copyFrom_17 : decode cX0_copyFrom 17 = .ok (.getfield 21, 3) := by decide +kernel
theorem dX0_copyFrom_20 : decode cX0_copyFrom 20 = .ok (.putfield 21, 3) := by decide +kernel
theorem dX0_copyFrom_23 : decode cX0_copyFrom 23 = .ok (.aload_n 0, 1) := by decide +kernel
theorem dX0_copyFrom_24 : decode cX0_copyFrom 24 = .ok (.aload_n 1, 1) := by decide +kernel
theorem dX0_copyFrom_25 : decode cX0_copyFrom 25 = .ok (.getfield 25, 3) := by decide +kernel
theorem dX0_copyFrom_28 : decode cX0_copyFrom 28 = .ok (.putfield 25, 3) := by decide +kernel
theorem dX0_copyFrom_31 : decode cX0_copyFrom 31 = .ok (.return_, 1) := by decide +kernel
theorem dX0_reset_0 : decode cX0_reset 0 = .ok (.aload_n 0, 1) := by decide +kernel
theorem dX0_reset_1 : decode cX0_reset 1 = .ok (.getfield 9, 3) := by decide +kernel
theorem dX0_reset_4 : decode cX0_reset 4 = .ok (.iconst 0, 1) := by decide +kernel
theorem dX0_reset_5 : decode cX0_reset 5 = .ok (.invokestatic 28, 3) := by decide +kernel
theorem dX0_reset_8 : decode cX0_reset 8 = .ok (.aload_n 0, 1) := by decide +kernel
theorem dX0_reset_9 : decode cX0_reset 9 = .ok (.iconst 0, 1) := by decide +kernel
theorem dX0_reset_10 : decode cX0_reset 10 = .ok (.putfield 21, 3) := by decide +kernel
theorem dX0_reset_13 : decode cX0_reset 13 = .ok (.aload_n 0, 1) := by decide +kernel
theorem dX0_reset_14 : decode cX0_reset 14 = .ok (.iconst 0, 1) := by decide +kernel
theorem dX0_reset_15 : decode cX0_reset 15 = .ok (.putfield 25, 3) := by decide +kernel
theorem dX0_reset_18 : decode cX0_reset 18 = .ok (.return_, 1) := by decide +kernel
theorem dX0_freeAllNow_0 : decode cX0_freeAllNow 0 = .ok (.aload_n 0, 1) := by decide +kernel
theorem dX0_freeAllNow_1 : decode cX0_freeAllNow 1 = .ok (.getfield 9, 3) := by decide +kernel
theorem dX0_freeAllNow_4 : decode cX0_freeAllNow 4 = .ok (.aload_n 0, 1) := by decide +kernel
theorem dX0_freeAllNow_5 : decode cX0_freeAllNow 5 = .ok (.getfield 21, 3) := by decide +kernel
theorem dX0_freeAllNow_8 : decode cX0_freeAllNow 8 = .ok (.invokestatic 28, 3) := by decide +kernel
theorem dX0_freeAllNow_11 : decode cX0_freeAllNow 11 = .ok (.return_, 1) := by decide +kernel
theorem dX0_freeSlot_0 : decode cX0_freeSlot 0 = .ok (.iload_n 1, 1) := by decide +kernel
theorem dX0_freeSlot_1 : decode cX0_freeSlot 1 = .ok (.invokestatic 34, 3) := by decide +kernel
theorem dX0_freeSlot_4 : decode cX0_freeSlot 4 = .ok (.ifCond .eq 23, 3) := by decide +kernel
theorem dX0_freeSlot_7 : decode cX0_freeSlot 7 = .ok (.aload_n 0, 1) := by decide +kernel
theorem dX0_freeSlot_8 : decode cX0_freeSlot 8 = .ok (.getfield 9, 3) := by decide +kernel
theorem dX0_freeSlot_11 : decode cX0_freeSlot 11 = .ok (.iconst 2, 1) := by decide +kernel
theorem dX0_freeSlot_12 : decode cX0_freeSlot 12 = .ok (.iload_n 1, 1) := by decide +kernel
theorem dX0_freeSlot_13 : decode cX0_freeSlot 13 = .ok (.imul, 1) := by decide +kernel
theorem dX0_freeSlot_14 : decode cX0_freeSlot 14 = .ok (.iconst 0, 1) := by decide +kernel
theorem dX0_freeSlot_15 : decode cX0_freeSlot 15 = .ok (.iastore, 1) := by decide +kernel
theorem dX0_freeSlot_16 : decode cX0_freeSlot 16 = .ok (.aload_n 0, 1) := by decide +kernel
theorem dX0_freeSlot_17 : decode cX0_freeSlot 17 = .ok (.getfield 9, 3) := by decide +kernel
theorem dX0_freeSlot_20 : decode cX0_freeSlot 20 = .ok (.iconst 2, 1) := by decide +kernel
theorem dX0_freeSlot_21 : decode cX0_freeSlot 21 = .ok (.iload_n 1, 1) := by decide +kernel
theorem dX0_freeSlot_22 : decode cX0_freeSlot 22 = .ok (.imul, 1) := by decide +kernel
theorem dX0_freeSlot_23 : decode cX0_freeSlot 23 = .ok (.iconst 1, 1) := by decide +kernel
theorem dX0_freeSlot_24 : decode cX0_freeSlot 24 = .ok (.iadd, 1) := by decide +kernel
theorem dX0_freeSlot_25 : decode cX0_freeSlot 25 = .ok (.iconst 0, 1) := by decide +kernel
theorem dX0_freeSlot_26 : decode cX0_freeSlot 26 = .ok (.iastore, 1) := by decide +kernel
theorem dX0_freeSlot_27 : decode cX0_freeSlot 27 = .ok (.return_, 1) := by decide +kernel
theorem dX0_freeFrom_0 : decode cX0_freeFrom 0 = .ok (.aload_n 0, 1) := by decide +kernel
theorem dX0_freeFrom_1 : decode cX0_freeFrom 1 = .ok (.getfield 9, 3) := by decide +kernel
theorem dX0_freeFrom_4 : decode cX0_freeFrom 4 = .ok (.iconst 2, 1) := by decide +kernel
theorem dX0_freeFrom_5 : decode cX0_freeFrom 5 = .ok (.iload_n 1, 1) := by decide +kernel
theorem dX0_freeFrom_6 : decode cX0_freeFrom 6 = .ok (.imul, 1) := by decide +kernel
theorem dX0_freeFrom_7 : decode cX0_freeFrom 7 = .ok (.iload_n 2, 1) := by decide +kernel
theorem dX0_freeFrom_8 : decode cX0_freeFrom 8 = .ok (.iadd, 1) := by decide +kernel
theorem dX0_freeFrom_9 : decode cX0_freeFrom 9 = .ok (.invokestatic 38, 3) := by decide +kernel
theorem dX0_freeFrom_12 : decode cX0_freeFrom 12 = .ok (.ireturn, 1) := by decide +kernel
theorem dX0_pass_0 : decode cX0_pass 0 = .ok (.aload_n 0, 1) := by decide +kernel
theorem dX0_pass_1 : decode cX0_pass 1 = .ok (.dup, 1) := by decide +kernel
theorem dX0_pass_2 : decode cX0_pass 2 = .ok (.getfield 21, 3) := by decide +kernel
theorem dX0_pass_5 : decode cX0_pass 5 = .ok (.iload_n 1, 1) := by decide +kernel
theorem dX0_pass_6 : decode cX0_pass 6 = .ok (.iadd, 1) := by decide +kernel
theorem dX0_pass_7 : decode cX0_pass 7 = .ok (.putfield 21, 3) := by decide +kernel
theorem dX0_pass_10 : decode cX0_pass 10 = .ok (.return_, 1) := by decide +kernel
theorem dX0_readSingle_0 : decode cX0_readSingle 0 = .ok (.aload_n 0, 1) := by decide +kernel
theorem dX0_readSingle_1 : decode cX0_readSingle 1 = .ok (.iload_n 1, 1) := by decide +kernel
theorem dX0_readSingle_2 : decode cX0_readSingle 2 = .ok (.invokevirtual 42, 3) := by decide +kernel
theorem dX0_readSingle_5 : decode cX0_readSingle 5 = .ok (.aload_n 0, 1) := by decide +kernel
theorem dX0_readSingle_6 : decode cX0_readSingle 6 = .ok (.iload_n 1, 1) := by decide +kernel
theorem dX0_readSingle_7 : decode cX0_readSingle 7 = .ok (.iload_n 2, 1) := by decide +kernel
theorem dX0_readSingle_8 : decode cX0_readSingle 8 = .ok (.invokevirtual 46, 3) := by decide +kernel
theorem dX0_readSingle_11 : decode cX0_readSingle 11 = .ok (.aload_n 0, 1) := by decide +kernel
theorem dX0_readSingle_12 : decode cX0_readSingle 12 = .ok (.iconst 1, 1) := by decide +kernel
theorem dX0_readSingle_13 : decode cX0_readSingle 13 = .ok (.invokevirtual 50, 3) := by decide +kernel
theorem dX0_readSingle_16 : decode cX0_readSingle 16 = .ok (.return_, 1) := by decide +kernel
theorem dX0_readPair_0 : decode cX0_readPair 0 = .ok (.aload_n 0, 1) := by decide +kernel
theorem dX0_readPair_1 : decode cX0_readPair 1 = .ok (.iload_n 1, 1) := by decide +kernel
theorem dX0_readPair_2 : decode cX0_readPair 2 = .ok (.invokevirtual 42, 3) := by decide +kernel
theorem dX0_readPair_5 : decode cX0_readPair 5 = .ok (.aload_n 0, 1) := by decide +kernel
theorem dX0_readPair_6 : decode cX0_readPair 6 = .ok (.iload_n 3, 1) := by decide +kernel
theorem dX0_readPair_7 : decode cX0_readPair 7 = .ok (.invokevirtual 42, 3) := by decide +kernel
theorem dX0_readPair_10 : decode cX0_readPair 10 = .ok (.aload_n 0, 1) := by decide +kernel
theorem dX0_readPair_11 : decode cX0_readPair 11 = .ok (.iload_n 1, 1) := by decide +kernel
theorem dX0_readPair_12 : decode cX0_readPair 12 = .ok (.iload_n 2, 1) := by decide +kernel
theorem dX0_readPair_13 : decode cX0_readPair 13 = .ok (.invokevirtual 46, 3) := by decide +kernel
theorem dX0_readPair_16 : decode cX0_readPair 16 = .ok (.aload_n 0, 1) := by decide +kernel
theorem dX0_readPair_17 : decode cX0_readPair 17 = .ok (.iload_n 3, 1) := by decide +kernel
theorem dX0_readPair_18 : decode cX0_readPair 18 = .ok (.iload 4, 2) := by decide +kernel
theorem dX0_readPair_20 : decode cX0_readPair 20 = .ok (.invokevirtual 46, 3) := by decide +kernel
theorem dX0_readPair_23 : decode cX0_readPair 23 = .ok (.aload_n 0, 1) := by decide +kernel
theorem dX0_readPair_24 : decode cX0_readPair 24 = .ok (.iconst 1, 1) := by decide +kernel
theorem dX0_readPair_25 : decode cX0_readPair 25 = .ok (.invokevirtual 50, 3) := by decide +kernel
theorem dX0_readPair_28 : decode cX0_readPair 28 = .ok (.return_, 1) := by decide +kernel
theorem dX0_waitFor_0 : decode cX0_waitFor 0 = .ok (.aload_n 0, 1) := by decide +kernel
theorem dX0_waitFor_1 : decode cX0_waitFor 1 = .ok (.getfield 9, 3) := by decide +kernel
theorem dX0_waitFor_4 : decode cX0_waitFor 4 = .ok (.iload_n 1, 1) := by decide +kernel
theorem dX0_waitFor_5 : decode cX0_waitFor 5 = .ok (.invokestatic 38, 3) := by decide +kernel
theorem dX0_waitFor_8 : decode cX0_waitFor 8 = .ok (.istore_n 2, 1) := by decide +kernel
theorem dX0_waitFor_9 : decode cX0_waitFor 9 = .ok (.iload_n 2, 1) := by decide +kernel
theorem dX0_waitFor_10 : decode cX0_waitFor 10 = .ok (.aload_n 0, 1) := by decide +kernel
theorem dX0_waitFor_11 : decode cX0_waitFor 11 = .ok (.getfield 21, 3) := by decide +kernel
theorem dX0_waitFor_14 : decode cX0_waitFor 14 = .ok (.if_icmp .le 23, 3) := by decide +kernel
theorem dX0_waitFor_17 : decode cX0_waitFor 17 = .ok (.aload_n 0, 1) := by decide +kernel
theorem dX0_waitFor_18 : decode cX0_waitFor 18 = .ok (.dup, 1) := by decide +kernel
theorem dX0_waitFor_19 : decode cX0_waitFor 19 = .ok (.getfield 25, 3) := by decide +kernel
theorem dX0_waitFor_22 : decode cX0_waitFor 22 = .ok (.iload_n 2, 1) := by decide +kernel
theorem dX0_waitFor_23 : decode cX0_waitFor 23 = .ok (.aload_n 0, 1) := by decide +kernel
theorem dX0_waitFor_24 : decode cX0_waitFor 24 = .ok (.getfield 21, 3) := by decide +kernel
theorem dX0_waitFor_27 : decode cX0_waitFor 27 = .ok (.isub, 1) := by decide +kernel
theorem dX0_waitFor_28 : decode cX0_waitFor 28 = .ok (.iadd, 1) := by decide +kernel
theorem dX0_waitFor_29 : decode cX0_waitFor 29 = .ok (.putfield 25, 3) := by decide +kernel
theorem dX0_waitFor_32 : decode cX0_waitFor 32 = .ok (.aload_n 0, 1) := by decide +kernel
theorem dX0_waitFor_33 : decode cX0_waitFor 33 = .ok (.iload_n 2, 1) := by decide +kernel
theorem dX0_waitFor_34 : decode cX0_waitFor 34 = .ok (.putfield 21, 3) := by decide +kernel
theorem dX0_waitFor_37 : decode cX0_waitFor 37 = .ok (.return_, 1) := by decide +kernel
theorem dX0_occupy_0 : decode cX0_occupy 0 = .ok (.iload_n 1, 1) := by decide +kernel
theorem dX0_occupy_1 : decode cX0_occupy 1 = .ok (.ifCond .lt 24, 3) := by decide +kernel
theorem dX0_occupy_4 : decode cX0_occupy 4 = .ok (.iload_n 1, 1) := by decide +kernel
theorem dX0_occupy_5 : decode cX0_occupy 5 = .ok (.aload_n 0, 1) := by decide +kernel
theorem dX0_occupy_6 : decode cX0_occupy 6 = .ok (.getfield 9, 3) := by decide +kernel
theorem dX0_occupy_9 : decode cX0_occupy 9 = .ok (.arraylength, 1) := by decide +kernel
theorem dX0_occupy_10 : decode cX0_occupy 10 = .ok (.if_icmp .ge 15, 3) := by decide +kernel
theorem dX0_occupy_13 : decode cX0_occupy 13 = .ok (.aload_n 0, 1) := by decide +kernel
theorem dX0_occupy_14 : decode cX0_occupy 14 = .ok (.getfield 9, 3) := by decide +kernel
theorem dX0_occupy_17 : decode cX0_occupy 17 = .ok (.iload_n 1, 1) := by decide +kernel
theorem dX0_occupy_18 : decode cX0_occupy 18 = .ok (.aload_n 0, 1) := by decide +kernel
theorem dX0_occupy_19 : decode cX0_occupy 19 = .ok (.getfield 21, 3) := by decide +kernel
theorem dX0_occupy_22 : decode cX0_occupy 22 = .ok (.iload_n 2, 1) := by decide +kernel
theorem dX0_occupy_23 : decode cX0_occupy 23 = .ok (.iadd, 1) := by decide +kernel
theorem dX0_occupy_24 : decode cX0_occupy 24 = .ok (.iastore, 1) := by decide +kernel
theorem dX0_occupy_25 : decode cX0_occupy 25 = .ok (.return_, 1) := by decide +kernel
theorem dX1_init_0 : decode cX1_init 0 = .ok (.aload_n 0, 1) := by decide +kernel
theorem dX1_init_1 : decode cX1_init 1 = .ok (.invokespecial 3, 3) := by decide +kernel
theorem dX1_init_4 : decode cX1_init 4 = .ok (.aload_n 0, 1) := by decide +kernel
theorem dX1_init_5 : decode cX1_init 5 = .ok (.iconst (-1), 1) := by decide +kernel
theorem dX1_init_6 : decode cX1_init 6 = .ok (.putfield 9, 3) := by decide +kernel
theorem dX1_init_9 : decode cX1_init 9 = .ok (.aload_n 0, 1) := by decide +kernel
theorem dX1_init_10 : decode cX1_init 10 = .ok (.iconst 4, 1) := by decide +kernel
theorem dX1_init_11 : decode cX1_init 11 = .ok (.newarray .int, 2) := by decide +kernel
theorem dX1_init_13 : decode cX1_init 13 = .ok (.putfield 15, 3) := by decide +kernel
theorem dX1_init_16 : decode cX1_init 16 = .ok (.return_, 1) := by decide +kernel
theorem dX1_copyFrom_0 : decode cX1_copyFrom 0 = .ok (.aload_n 0, 1) := by decide +kernel
theorem dX1_copyFrom_1 : decode cX1_copyFrom 1 = .ok (.aload_n 1, 1) := by decide +kernel
theorem dX1_copyFrom_2 : decode cX1_copyFrom 2 = .ok (.getfield 9, 3) := by decide +kernel
theorem dX1_copyFrom_5 : decode cX1_copyFrom 5 = .ok (.putfield 9, 3) := by decide +kernel
theorem dX1_copyFrom_8 : decode cX1_copyFrom 8 = .ok (.aload_n 1, 1) := by decide +kernel
theorem dX1_copyFrom_9 : decode cX1_copyFrom 9 = .ok (.getfield 15, 3) := by decide +kernel
theorem dX1_copyFrom_12 : decode cX1_copyFrom 12 = .ok (.iconst 0, 1) := by decide +kernel
theorem dX1_copyFrom_13 : decode cX1_copyFrom 13 = .ok (.aload_n 0, 1) := by decide +kernel
theorem dX1_copyFrom_14 : decode cX1_copyFrom 14 = .ok (.getfield 15, 3) := by decide +kernel
theorem dX1_copyFrom_17 : decode cX1_copyFrom 17 = .ok (.iconst 0, 1) := by decide +kernel
theorem dX1_copyFrom_18 : decode cX1_copyFrom 18 = .ok (.iconst 4, 1) := by decide +kernel
theorem dX1_copyFrom_19 : decode cX1_copyFrom 19 = .ok (.invokestatic 19, 3) := by decide +kernel
theorem dX1_copyFrom_22 : decode cX1_copyFrom 22 = .ok (.aload_n 0, 1) := by decide +kernel
theorem dX1_copyFrom_23 : decode cX1_copyFrom 23 = .ok (.aload_n 1, 1) := by decide +kernel
theorem dX1_copyFrom_24 : decode cX1_copyFrom 24 = .ok (.getfield 25, 3) := by decide +kernel
theorem dX1_copyFrom_27 : decode cX1_copyFrom 27 = .ok (.putfield 25, 3) := by decide +kernel
theorem dX1_copyFrom_30 : decode cX1_copyFrom 30 = .ok (.aload_n 0, 1) := by decide +kernel
theorem dX1_copyFrom_31 : decode cX1_copyFrom 31 = .ok (.aload_n 1, 1) := by decide +kernel
theorem dX1_copyFrom_32 : decode cX1_copyFrom 32 = .ok (.getfield 28, 3) := by decide +kernel
theorem dX1_copyFrom_35 : decode cX1_copyFrom 35 = .ok (.putfield 28, 3) := by decide +kernel
theorem dX1_copyFrom_38 : decode cX1_copyFrom 38 = .ok (.aload_n 0, 1) := by decide +kernel
theorem dX1_copyFrom_39 : decode cX1_copyFrom 39 = .ok (.aload_n 1, 1) := by decide +kernel
theorem dX1_copyFrom_40 : decode cX1_copyFrom 40 = .ok (.getfield 31, 3) := by decide +kernel
theorem dX1_copyFrom_43 : decode cX1_copyFrom 43 = .ok (.putfield 31, 3) := by decide +kernel
theorem dX1_copyFrom_46 : decode cX1_copyFrom 46 = .ok (.aload_n 0, 1) := by decide +kernel
theorem dX1_copyFrom_47 : decode cX1_copyFrom 47 = .ok (.aload_n 1, 1) := by decide +kernel
theorem dX1_copyFrom_48 : decode cX1_copyFrom 48 = .ok (.getfield 34, 3) := by decide +kernel
theorem dX1_copyFrom_51 : decode cX1_copyFrom 51 = .ok (.putfield 34, 3) := by decide +kernel
theorem dX1_copyFrom_54 : decode cX1_copyFrom 54 = .ok (.aload_n 0, 1) := by decide +kernel
theorem dX1_copyFrom_55 : decode cX1_copyFrom 55 = .ok (.aload_n 1, 1) := by decide +kernel
theorem dX1_copyFrom_56 : decode cX1_copyFrom 56 = .ok (.getfield 37, 3) := by decide +kernel
theorem dX1_copyFrom_59 : decode cX1_copyFrom 59 = .ok (.putfield 37, 3) := by decide +kernel
theorem dX1_copyFrom_62 : decode cX1_copyFrom 62 = .ok (.return_, 1) := by decide +kernel
theorem dX1_isLaid_0 : decode cX1_isLaid 0 = .ok (.aload_n 0, 1) := by decide +kernel
theorem dX1_isLaid_1 : decode cX1_isLaid 1 = .ok (.getfield 9, 3) := by decide +kernel
theorem dX1_isLaid_4 : decode cX1_isLaid 4 = .ok (.iconst (-1), 1) := by decide +kernel
theorem dX1_isLaid_5 : decode cX1_isLaid 5 = .ok (.if_icmp .eq 7, 3) := by decide +kernel
theorem dX1_isLaid_8 : decode cX1_isLaid 8 = .ok (.iconst 1, 1) := by decide +kernel
theorem dX1_isLaid_9 : decode cX1_isLaid 9 = .ok (.goto 4, 3) := by decide +kernel
theorem dX1_isLaid_12 : decode cX1_isLaid 12 = .ok (.iconst 0, 1) := by decide +kernel
theorem dX1_isLaid_13 : decode cX1_isLaid 13 = .ok (.ireturn, 1) := by decide +kernel
theorem dX1_lay_0 : decode cX1_lay 0 = .ok (.aload_n 0, 1) := by decide +kernel
theorem dX1_lay_1 : decode cX1_lay 1 = .ok (.iload_n 1, 1) := by decide +kernel
theorem dX1_lay_2 : decode cX1_lay 2 = .ok (.putfield 9, 3) := by decide +kernel
theorem dX1_lay_5 : decode cX1_lay 5 = .ok (.iconst 0, 1) := by decide +kernel
theorem dX1_lay_6 : decode cX1_lay 6 = .ok (.istore_n 3, 1) := by decide +kernel
theorem dX1_lay_7 : decode cX1_lay 7 = .ok (.iload_n 3, 1) := by decide +kernel
theorem dX1_lay_8 : decode cX1_lay 8 = .ok (.iconst 4, 1) := by decide +kernel
theorem dX1_lay_9 : decode cX1_lay 9 = .ok (.if_icmp .ge 20, 3) := by decide +kernel
theorem dX1_lay_12 : decode cX1_lay 12 = .ok (.aload_n 0, 1) := by decide +kernel
theorem dX1_lay_13 : decode cX1_lay 13 = .ok (.getfield 15, 3) := by decide +kernel
theorem dX1_lay_16 : decode cX1_lay 16 = .ok (.iload_n 3, 1) := by decide +kernel
theorem dX1_lay_17 : decode cX1_lay 17 = .ok (.aload_n 2, 1) := by decide +kernel
theorem dX1_lay_18 : decode cX1_lay 18 = .ok (.iload_n 3, 1) := by decide +kernel
theorem dX1_lay_19 : decode cX1_lay 19 = .ok (.invokevirtual 40, 3) := by decide +kernel
theorem dX1_lay_22 : decode cX1_lay 22 = .ok (.iastore, 1) := by decide +kernel
theorem dX1_lay_23 : decode cX1_lay 23 = .ok (.iinc 3 1, 3) := by decide +kernel
theorem dX1_lay_26 : decode cX1_lay 26 = .ok (.goto (-19), 3) := by decide +kernel
theorem dX1_lay_29 : decode cX1_lay 29 = .ok (.aload_n 0, 1) := by decide +kernel
theorem dX1_lay_30 : decode cX1_lay 30 = .ok (.aload_n 0, 1) := by decide +kernel
theorem dX1_lay_31 : decode cX1_lay 31 = .ok (.getfield 15, 3) := by decide +kernel
theorem dX1_lay_34 : decode cX1_lay 34 = .ok (.iconst 0, 1) := by decide +kernel
theorem dX1_lay_35 : decode cX1_lay 35 = .ok (.iaload, 1) := by decide +kernel
theorem dX1_lay_36 : decode cX1_lay 36 = .ok (.aload_n 0, 1) := by decide +kernel
theorem dX1_lay_37 : decode cX1_lay 37 = .ok (.getfield 15, 3) := by decide +kernel
theorem dX1_lay_40 : decode cX1_lay 40 = .ok (.iconst 1, 1) := by decide +kernel
theorem dX1_lay_41 : decode cX1_lay 41 = .ok (.iaload, 1) := by decide +kernel
theorem dX1_lay_42 : decode cX1_lay 42 = .ok (.iadd, 1) := by decide +kernel
theorem dX1_lay_43 : decode cX1_lay 43 = .ok (.putfield 25, 3) := by decide +kernel
theorem dX1_lay_46 : decode cX1_lay 46 = .ok (.aload_n 0, 1) := by decide +kernel
theorem dX1_lay_47 : decode cX1_lay 47 = .ok (.aload_n 0, 1) := by decide +kernel
theorem dX1_lay_48 : decode cX1_lay 48 = .ok (.getfield 15, 3) := by decide +kernel
theorem dX1_lay_51 : decode cX1_lay 51 = .ok (.iconst 2, 1) := by decide +kernel
theorem dX1_lay_52 : decode cX1_lay 52 = .ok (.iaload, 1) := by decide +kernel
theorem dX1_lay_53 : decode cX1_lay 53 = .ok (.aload_n 0, 1) := by decide +kernel
theorem dX1_lay_54 : decode cX1_lay 54 = .ok (.getfield 15, 3) := by decide +kernel
theorem dX1_lay_57 : decode cX1_lay 57 = .ok (.iconst 3, 1) := by decide +kernel
theorem dX1_lay_58 : decode cX1_lay 58 = .ok (.iaload, 1) := by decide +kernel
theorem dX1_lay_59 : decode cX1_lay 59 = .ok (.iadd, 1) := by decide +kernel
theorem dX1_lay_60 : decode cX1_lay 60 = .ok (.putfield 28, 3) := by decide +kernel
theorem dX1_lay_63 : decode cX1_lay 63 = .ok (.aload_n 0, 1) := by decide +kernel
theorem dX1_lay_64 : decode cX1_lay 64 = .ok (.aload_n 0, 1) := by decide +kernel
theorem dX1_lay_65 : decode cX1_lay 65 = .ok (.getfield 25, 3) := by decide +kernel
theorem dX1_lay_68 : decode cX1_lay 68 = .ok (.aload_n 0, 1) := by decide +kernel
theorem dX1_lay_69 : decode cX1_lay 69 = .ok (.getfield 28, 3) := by decide +kernel
theorem dX1_lay_72 : decode cX1_lay 72 = .ok (.invokestatic 46, 3) := by decide +kernel
theorem dX1_lay_75 : decode cX1_lay 75 = .ok (.putfield 31, 3) := by decide +kernel
theorem dX1_lay_78 : decode cX1_lay 78 = .ok (.aload_n 0, 1) := by decide +kernel
theorem dX1_lay_79 : decode cX1_lay 79 = .ok (.aload_n 0, 1) := by decide +kernel
theorem dX1_lay_80 : decode cX1_lay 80 = .ok (.getfield 9, 3) := by decide +kernel
theorem dX1_lay_83 : decode cX1_lay 83 = .ok (.iconst 2, 1) := by decide +kernel
theorem dX1_lay_84 : decode cX1_lay 84 = .ok (.if_icmp .ne 10, 3) := by decide +kernel
theorem dX1_lay_87 : decode cX1_lay 87 = .ok (.aload_n 0, 1) := by decide +kernel
theorem dX1_lay_88 : decode cX1_lay 88 = .ok (.getfield 31, 3) := by decide +kernel
theorem dX1_lay_91 : decode cX1_lay 91 = .ok (.goto 12, 3) := by decide +kernel
theorem dX1_lay_94 : decode cX1_lay 94 = .ok (.aload_n 0, 1) := by decide +kernel
theorem dX1_lay_95 : decode cX1_lay 95 = .ok (.getfield 25, 3) := by decide +kernel
theorem dX1_lay_98 : decode cX1_lay 98 = .ok (.aload_n 0, 1) := by decide +kernel
theorem dX1_lay_99 : decode cX1_lay 99 = .ok (.getfield 28, 3) := by decide +kernel
theorem dX1_lay_102 : decode cX1_lay 102 = .ok (.iadd, 1) := by decide +kernel
theorem dX1_lay_103 : decode cX1_lay 103 = .ok (.putfield 34, 3) := by decide +kernel
theorem dX1_lay_106 : decode cX1_lay 106 = .ok (.aload_n 0, 1) := by decide +kernel
theorem dX1_lay_107 : decode cX1_lay 107 = .ok (.aload_n 0, 1) := by decide +kernel
theorem dX1_lay_108 : decode cX1_lay 108 = .ok (.getfield 9, 3) := by decide +kernel
theorem dX1_lay_111 : decode cX1_lay 111 = .ok (.ifCond .ne 12, 3) := by decide +kernel
theorem dX1_lay_114 : decode cX1_lay 114 = .ok (.iconst 2, 1) := by decide +kernel
theorem dX1_lay_115 : decode cX1_lay 115 = .ok (.aload_n 0, 1) := by decide +kernel
theorem dX1_lay_116 : decode cX1_lay 116 = .ok (.getfield 31, 3) := by decide +kernel
theorem dX1_lay_119 : decode cX1_lay 119 = .ok (.imul, 1) := by decide +kernel
theorem dX1_lay_120 : decode cX1_lay 120 = .ok (.goto 4, 3) := by decide +kernel
theorem dX1_lay_123 : decode cX1_lay 123 = .ok (.iconst 0, 1) := by decide +kernel
theorem dX1_lay_124 : decode cX1_lay 124 = .ok (.putfield 37, 3) := by decide +kernel
theorem dX1_lay_127 : decode cX1_lay 127 = .ok (.return_, 1) := by decide +kernel
theorem dX1_clear_0 : decode cX1_clear 0 = .ok (.aload_n 0, 1) := by decide +kernel
theorem dX1_clear_1 : decode cX1_clear 1 = .ok (.iconst (-1), 1) := by decide +kernel
theorem dX1_clear_2 : decode cX1_clear 2 = .ok (.putfield 9, 3) := by decide +kernel
theorem dX1_clear_5 : decode cX1_clear 5 = .ok (.aload_n 0, 1) := by decide +kernel
theorem dX1_clear_6 : decode cX1_clear 6 = .ok (.getfield 15, 3) := by decide +kernel
theorem dX1_clear_9 : decode cX1_clear 9 = .ok (.iconst 0, 1) := by decide +kernel
theorem dX1_clear_10 : decode cX1_clear 10 = .ok (.invokestatic 52, 3) := by decide +kernel
theorem dX1_clear_13 : decode cX1_clear 13 = .ok (.aload_n 0, 1) := by decide +kernel
theorem dX1_clear_14 : decode cX1_clear 14 = .ok (.iconst 0, 1) := by decide +kernel
theorem dX1_clear_15 : decode cX1_clear 15 = .ok (.putfield 25, 3) := by decide +kernel
theorem dX1_clear_18 : decode cX1_clear 18 = .ok (.aload_n 0, 1) := by decide +kernel
theorem dX1_clear_19 : decode cX1_clear 19 = .ok (.iconst 0, 1) := by decide +kernel
theorem dX1_clear_20 : decode cX1_clear 20 = .ok (.putfield 28, 3) := by decide +kernel
theorem dX1_clear_23 : decode cX1_clear 23 = .ok (.aload_n 0, 1) := by decide +kernel
theorem dX1_clear_24 : decode cX1_clear 24 = .ok (.iconst 0, 1) := by decide +kernel
theorem dX1_clear_25 : decode cX1_clear 25 = .ok (.putfield 31, 3) := by decide +kernel
theorem dX1_clear_28 : decode cX1_clear 28 = .ok (.aload_n 0, 1) := by decide +kernel
theorem dX1_clear_29 : decode cX1_clear 29 = .ok (.iconst 0, 1) := by decide +kernel
theorem dX1_clear_30 : decode cX1_clear 30 = .ok (.putfield 34, 3) := by decide +kernel
theorem dX1_clear_33 : decode cX1_clear 33 = .ok (.aload_n 0, 1) := by decide +kernel
theorem dX1_clear_34 : decode cX1_clear 34 = .ok (.iconst 0, 1) := by decide +kernel
theorem dX1_clear_35 : decode cX1_clear 35 = .ok (.putfield 37, 3) := by decide +kernel
theorem dX1_clear_38 : decode cX1_clear 38 = .ok (.return_, 1) := by decide +kernel
theorem dX1_isWide_0 : decode cX1_isWide 0 = .ok (.iload_n 1, 1) := by decide +kernel
theorem dX1_isWide_1 : decode cX1_isWide 1 = .ok (.aload_n 0, 1) := by decide +kernel
theorem dX1_isWide_2 : decode cX1_isWide 2 = .ok (.getfield 37, 3) := by decide +kernel
theorem dX1_isWide_5 : decode cX1_isWide 5 = .ok (.if_icmp .ge 7, 3) := by decide +kernel
theorem dX1_isWide_8 : decode cX1_isWide 8 = .ok (.iconst 1, 1) := by decide +kernel
theorem dX1_isWide_9 : decode cX1_isWide 9 = .ok (.goto 4, 3) := by decide +kernel
theorem dX1_isWide_12 : decode cX1_isWide 12 = .ok (.iconst 0, 1) := by decide +kernel
theorem dX1_isWide_13 : decode cX1_isWide 13 = .ok (.ireturn, 1) := by decide +kernel
theorem dX1_isMirrored_0 : decode cX1_isMirrored 0 = .ok (.aload_n 0, 1) := by decide +kernel
theorem dX1_isMirrored_1 : decode cX1_isMirrored 1 = .ok (.getfield 9, 3) := by decide +kernel
theorem dX1_isMirrored_4 : decode cX1_isMirrored 4 = .ok (.iconst 2, 1) := by decide +kernel
theorem dX1_isMirrored_5 : decode cX1_isMirrored 5 = .ok (.if_icmp .ne 7, 3) := by decide +kernel
theorem dX1_isMirrored_8 : decode cX1_isMirrored 8 = .ok (.iconst 1, 1) := by decide +kernel
theorem dX1_isMirrored_9 : decode cX1_isMirrored 9 = .ok (.goto 4, 3) := by decide +kernel
theorem dX1_isMirrored_12 : decode cX1_isMirrored 12 = .ok (.iconst 0, 1) := by decide +kernel
theorem dX1_isMirrored_13 : decode cX1_isMirrored 13 = .ok (.ireturn, 1) := by decide +kernel
theorem dX1_beginsPair_0 : decode cX1_beginsPair 0 = .ok (.aload_n 0, 1) := by decide +kernel
theorem dX1_beginsPair_1 : decode cX1_beginsPair 1 = .ok (.iload_n 1, 1) := by decide +kernel
theorem dX1_beginsPair_2 : decode cX1_beginsPair 2 = .ok (.invokevirtual 58, 3) := by decide +kernel
theorem dX1_beginsPair_5 : decode cX1_beginsPair 5 = .ok (.ifCond .eq 13, 3) := by decide +kernel
theorem dX1_beginsPair_8 : decode cX1_beginsPair 8 = .ok (.iload_n 1, 1) := by decide +kernel
theorem dX1_beginsPair_9 : decode cX1_beginsPair 9 = .ok (.iconst 1, 1) := by decide +kernel
theorem dX1_beginsPair_10 : decode cX1_beginsPair 10 = .ok (.iand, 1) := by decide +kernel
theorem dX1_beginsPair_11 : decode cX1_beginsPair 11 = .ok (.ifCond .ne 7, 3) := by decide +kernel
theorem dX1_beginsPair_14 : decode cX1_beginsPair 14 = .ok (.iconst 1, 1) := by decide +kernel
theorem dX1_beginsPair_15 : decode cX1_beginsPair 15 = .ok (.goto 4, 3) := by decide +kernel
theorem dX1_beginsPair_18 : decode cX1_beginsPair 18 = .ok (.iconst 0, 1) := by decide +kernel
theorem dX1_beginsPair_19 : decode cX1_beginsPair 19 = .ok (.ireturn, 1) := by decide +kernel
theorem dX1_channelOf_0 : decode cX1_channelOf 0 = .ok (.aload_n 0, 1) := by decide +kernel
theorem dX1_channelOf_1 : decode cX1_channelOf 1 = .ok (.getfield 9, 3) := by decide +kernel
theorem dX1_channelOf_4 : decode cX1_channelOf 4 = .ok (.iconst 2, 1) := by decide +kernel
theorem dX1_channelOf_5 : decode cX1_channelOf 5 = .ok (.if_icmp .ne 5, 3) := by decide +kernel
theorem dX1_channelOf_8 : decode cX1_channelOf 8 = .ok (.iconst 0, 1) := by decide +kernel
theorem dX1_channelOf_9 : decode cX1_channelOf 9 = .ok (.ireturn, 1) := by decide +kernel
theorem dX1_channelOf_10 : decode cX1_channelOf 10 = .ok (.iload_n 1, 1) := by decide +kernel
theorem dX1_channelOf_11 : decode cX1_channelOf 11 = .ok (.aload_n 0, 1) := by decide +kernel
theorem dX1_channelOf_12 : decode cX1_channelOf 12 = .ok (.getfield 37, 3) := by decide +kernel
theorem dX1_channelOf_15 : decode cX1_channelOf 15 = .ok (.if_icmp .ge 7, 3) := by decide +kernel
theorem dX1_channelOf_18 : decode cX1_channelOf 18 = .ok (.iload_n 1, 1) := by decide +kernel
theorem dX1_channelOf_19 : decode cX1_channelOf 19 = .ok (.iconst 1, 1) := by decide +kernel
theorem dX1_channelOf_20 : decode cX1_channelOf 20 = .ok (.iand, 1) := by decide +kernel
theorem dX1_channelOf_21 : decode cX1_channelOf 21 = .ok (.ireturn, 1) := by decide +kernel
theorem dX1_channelOf_22 : decode cX1_channelOf 22 = .ok (.aload_n 0, 1) := by decide +kernel
theorem dX1_channelOf_23 : decode cX1_channelOf 23 = .ok (.getfield 9, 3) := by decide +kernel
theorem dX1_channelOf_26 : decode cX1_channelOf 26 = .ok (.ifCond .ne 20, 3) := by decide +kernel
theorem dX1_channelOf_29 : decode cX1_channelOf 29 = .ok (.aload_n 0, 1) := by decide +kernel
theorem dX1_channelOf_30 : decode cX1_channelOf 30 = .ok (.getfield 25, 3) := by decide +kernel
theorem dX1_channelOf_33 : decode cX1_channelOf 33 = .ok (.aload_n 0, 1) := by decide +kernel
theorem dX1_channelOf_34 : decode cX1_channelOf 34 = .ok (.getfield 28, 3) := by decide +kernel
theorem dX1_channelOf_37 : decode cX1_channelOf 37 = .ok (.if_icmp .le 7, 3) := by decide +kernel
theorem dX1_channelOf_40 : decode cX1_channelOf 40 = .ok (.iconst 0, 1) := by decide +kernel
theorem dX1_channelOf_41 : decode cX1_channelOf 41 = .ok (.goto 4, 3) := by decide +kernel
theorem dX1_channelOf_44 : decode cX1_channelOf 44 = .ok (.iconst 1, 1) := by decide +kernel
theorem dX1_channelOf_45 : decode cX1_channelOf 45 = .ok (.ireturn, 1) := by decide +kernel
theorem dX1_channelOf_46 : decode cX1_channelOf 46 = .ok (.iload_n 1, 1) := by decide +kernel
theorem dX1_channelOf_47 : decode cX1_channelOf 47 = .ok (.aload_n 0, 1) := by decide +kernel
theorem dX1_channelOf_48 : decode cX1_channelOf 48 = .ok (.getfield 25, 3) := by decide +kernel
theorem dX1_channelOf_51 : decode cX1_channelOf 51 = .ok (.if_icmp .ge 7, 3) := by decide +kernel
theorem dX1_channelOf_54 : decode cX1_channelOf 54 = .ok (.iconst 0, 1) := by decide +kernel
theorem dX1_channelOf_55 : decode cX1_channelOf 55 = .ok (.goto 4, 3) := by decide +kernel
theorem dX1_channelOf_58 : decode cX1_channelOf 58 = .ok (.iconst 1, 1) := by decide +kernel
theorem dX1_channelOf_59 : decode cX1_channelOf 59 = .ok (.ireturn, 1) := by decide +kernel
theorem dX1_indexOf_0 : decode cX1_indexOf 0 = .ok (.iload_n 1, 1) := by decide +kernel
theorem dX1_indexOf_1 : decode cX1_indexOf 1 = .ok (.aload_n 0, 1) := by decide +kernel
theorem dX1_indexOf_2 : decode cX1_indexOf 2 = .ok (.getfield 37, 3) := by decide +kernel
theorem dX1_indexOf_5 : decode cX1_indexOf 5 = .ok (.if_icmp .ge 7, 3) := by decide +kernel
theorem dX1_indexOf_8 : decode cX1_indexOf 8 = .ok (.iload_n 1, 1) := by decide +kernel
theorem dX1_indexOf_9 : decode cX1_indexOf 9 = .ok (.iconst 2, 1) := by decide +kernel
theorem dX1_indexOf_10 : decode cX1_indexOf 10 = .ok (.idiv, 1) := by decide +kernel
theorem dX1_indexOf_11 : decode cX1_indexOf 11 = .ok (.ireturn, 1) := by decide +kernel
theorem dX1_indexOf_12 : decode cX1_indexOf 12 = .ok (.aload_n 0, 1) := by decide +kernel
theorem dX1_indexOf_13 : decode cX1_indexOf 13 = .ok (.getfield 9, 3) := by decide +kernel
theorem dX1_indexOf_16 : decode cX1_indexOf 16 = .ok (.ifCond .ne 10, 3) := by decide +kernel
theorem dX1_indexOf_19 : decode cX1_indexOf 19 = .ok (.iload_n 1, 1) := by decide +kernel
theorem dX1_indexOf_20 : decode cX1_indexOf 20 = .ok (.aload_n 0, 1) := by decide +kernel
theorem dX1_indexOf_21 : decode cX1_indexOf 21 = .ok (.getfield 31, 3) := by decide +kernel
theorem dX1_indexOf_24 : decode cX1_indexOf 24 = .ok (.isub, 1) := by decide +kernel
theorem dX1_indexOf_25 : decode cX1_indexOf 25 = .ok (.ireturn, 1) := by decide +kernel
theorem dX1_indexOf_26 : decode cX1_indexOf 26 = .ok (.aload_n 0, 1) := by decide +kernel
theorem dX1_indexOf_27 : decode cX1_indexOf 27 = .ok (.getfield 9, 3) := by decide +kernel
theorem dX1_indexOf_30 : decode cX1_indexOf 30 = .ok (.iconst 2, 1) := by decide +kernel
theorem dX1_indexOf_31 : decode cX1_indexOf 31 = .ok (.if_icmp .eq 11, 3) := by decide +kernel
theorem dX1_indexOf_34 : decode cX1_indexOf 34 = .ok (.iload_n 1, 1) := by decide +kernel
theorem dX1_indexOf_35 : decode cX1_indexOf 35 = .ok (.aload_n 0, 1) := by decide +kernel
theorem dX1_indexOf_36 : decode cX1_indexOf 36 = .ok (.getfield 25, 3) := by decide +kernel
theorem dX1_indexOf_39 : decode cX1_indexOf 39 = .ok (.if_icmp .ge 7, 3) := by decide +kernel
theorem dX1_indexOf_42 : decode cX1_indexOf 42 = .ok (.iload_n 1, 1) := by decide +kernel
theorem dX1_indexOf_43 : decode cX1_indexOf 43 = .ok (.goto 9, 3) := by decide +kernel
theorem dX1_indexOf_46 : decode cX1_indexOf 46 = .ok (.iload_n 1, 1) := by decide +kernel
theorem dX1_indexOf_47 : decode cX1_indexOf 47 = .ok (.aload_n 0, 1) := by decide +kernel
theorem dX1_indexOf_48 : decode cX1_indexOf 48 = .ok (.getfield 25, 3) := by decide +kernel
theorem dX1_indexOf_51 : decode cX1_indexOf 51 = .ok (.isub, 1) := by decide +kernel
theorem dX1_indexOf_52 : decode cX1_indexOf 52 = .ok (.ireturn, 1) := by decide +kernel
theorem dX1_slotAt_0 : decode cX1_slotAt 0 = .ok (.iload_n 1, 1) := by decide +kernel
theorem dX1_slotAt_1 : decode cX1_slotAt 1 = .ok (.ifCond .ne 19, 3) := by decide +kernel
theorem dX1_slotAt_4 : decode cX1_slotAt 4 = .ok (.iload_n 2, 1) := by decide +kernel
theorem dX1_slotAt_5 : decode cX1_slotAt 5 = .ok (.aload_n 0, 1) := by decide +kernel
theorem dX1_slotAt_6 : decode cX1_slotAt 6 = .ok (.getfield 15, 3) := by decide +kernel
theorem dX1_slotAt_9 : decode cX1_slotAt 9 = .ok (.iconst 0, 1) := by decide +kernel
theorem dX1_slotAt_10 : decode cX1_slotAt 10 = .ok (.iaload, 1) := by decide +kernel
theorem dX1_slotAt_11 : decode cX1_slotAt 11 = .ok (.if_icmp .ge 7, 3) := by decide +kernel
theorem dX1_slotAt_14 : decode cX1_slotAt 14 = .ok (.iconst 0, 1) := by decide +kernel
theorem dX1_slotAt_15 : decode cX1_slotAt 15 = .ok (.goto 4, 3) := by decide +kernel
theorem dX1_slotAt_18 : decode cX1_slotAt 18 = .ok (.iconst 1, 1) := by decide +kernel
theorem dX1_slotAt_19 : decode cX1_slotAt 19 = .ok (.ireturn, 1) := by decide +kernel
theorem dX1_slotAt_20 : decode cX1_slotAt 20 = .ok (.iload_n 2, 1) := by decide +kernel
theorem dX1_slotAt_21 : decode cX1_slotAt 21 = .ok (.aload_n 0, 1) := by decide +kernel
theorem dX1_slotAt_22 : decode cX1_slotAt 22 = .ok (.getfield 15, 3) := by decide +kernel
theorem dX1_slotAt_25 : decode cX1_slotAt 25 = .ok (.iconst 2, 1) := by decide +kernel
theorem dX1_slotAt_26 : decode cX1_slotAt 26 = .ok (.iaload, 1) := by decide +kernel
theorem dX1_slotAt_27 : decode cX1_slotAt 27 = .ok (.if_icmp .ge 7, 3) := by decide +kernel
theorem dX1_slotAt_30 : decode cX1_slotAt 30 = .ok (.iconst 2, 1) := by decide +kernel
theorem dX1_slotAt_31 : decode cX1_slotAt 31 = .ok (.goto 4, 3) := by decide +kernel
theorem dX1_slotAt_34 : decode cX1_slotAt 34 = .ok (.iconst 3, 1) := by decide +kernel
theorem dX1_slotAt_35 : decode cX1_slotAt 35 = .ok (.ireturn, 1) := by decide +kernel
theorem dX1_numberAt_0 : decode cX1_numberAt 0 = .ok (.iload_n 1, 1) := by decide +kernel
theorem dX1_numberAt_1 : decode cX1_numberAt 1 = .ok (.ifCond .ne 12, 3) := by decide +kernel
theorem dX1_numberAt_4 : decode cX1_numberAt 4 = .ok (.aload_n 0, 1) := by decide +kernel
theorem dX1_numberAt_5 : decode cX1_numberAt 5 = .ok (.getfield 15, 3) := by decide +kernel
theorem dX1_numberAt_8 : decode cX1_numberAt 8 = .ok (.iconst 0, 1) := by decide +kernel
theorem dX1_numberAt_9 : decode cX1_numberAt 9 = .ok (.iaload, 1) := by decide +kernel
theorem dX1_numberAt_10 : decode cX1_numberAt 10 = .ok (.goto 9, 3) := by decide +kernel
theorem dX1_numberAt_13 : decode cX1_numberAt 13 = .ok (.aload_n 0, 1) := by decide +kernel
theorem dX1_numberAt_14 : decode cX1_numberAt 14 = .ok (.getfield 15, 3) := by decide +kernel
theorem dX1_numberAt_17 : decode cX1_numberAt 17 = .ok (.iconst 2, 1) := by decide +kernel
theorem dX1_numberAt_18 : decode cX1_numberAt 18 = .ok (.iaload, 1) := by decide +kernel
theorem dX1_numberAt_19 : decode cX1_numberAt 19 = .ok (.istore_n 3, 1) := by decide +kernel
theorem dX1_numberAt_20 : decode cX1_numberAt 20 = .ok (.iload_n 2, 1) := by decide +kernel
theorem dX1_numberAt_21 : decode cX1_numberAt 21 = .ok (.iload_n 3, 1) := by decide +kernel
theorem dX1_numberAt_22 : decode cX1_numberAt 22 = .ok (.if_icmp .ge 7, 3) := by decide +kernel
theorem dX1_numberAt_25 : decode cX1_numberAt 25 = .ok (.iload_n 2, 1) := by decide +kernel
theorem dX1_numberAt_26 : decode cX1_numberAt 26 = .ok (.goto 6, 3) := by decide +kernel
theorem dX1_numberAt_29 : decode cX1_numberAt 29 = .ok (.iload_n 2, 1) := by decide +kernel
theorem dX1_numberAt_30 : decode cX1_numberAt 30 = .ok (.iload_n 3, 1) := by decide +kernel
theorem dX1_numberAt_31 : decode cX1_numberAt 31 = .ok (.isub, 1) := by decide +kernel
theorem dX1_numberAt_32 : decode cX1_numberAt 32 = .ok (.ireturn, 1) := by decide +kernel
theorem dX1_slotOf_0 : decode cX1_slotOf 0 = .ok (.aload_n 0, 1) := by decide +kernel
theorem dX1_slotOf_1 : decode cX1_slotOf 1 = .ok (.aload_n 0, 1) := by decide +kernel
theorem dX1_slotOf_2 : decode cX1_slotOf 2 = .ok (.iload_n 1, 1) := by decide +kernel
theorem dX1_slotOf_3 : decode cX1_slotOf 3 = .ok (.invokevirtual 62, 3) := by decide +kernel
theorem dX1_slotOf_6 : decode cX1_slotOf 6 = .ok (.aload_n 0, 1) := by decide +kernel
theorem dX1_slotOf_7 : decode cX1_slotOf 7 = .ok (.iload_n 1, 1) := by decide +kernel
theorem dX1_slotOf_8 : decode cX1_slotOf 8 = .ok (.invokevirtual 65, 3) := by decide +kernel
theorem dX1_slotOf_11 : decode cX1_slotOf 11 = .ok (.invokevirtual 68, 3) := by decide +kernel
theorem dX1_slotOf_14 : decode cX1_slotOf 14 = .ok (.ireturn, 1) := by decide +kernel
theorem dX1_numberOf_0 : decode cX1_numberOf 0 = .ok (.aload_n 0, 1) := by decide +kernel
theorem dX1_numberOf_1 : decode cX1_numberOf 1 = .ok (.aload_n 0, 1) := by decide +kernel
theorem dX1_numberOf_2 : decode cX1_numberOf 2 = .ok (.iload_n 1, 1) := by decide +kernel
theorem dX1_numberOf_3 : decode cX1_numberOf 3 = .ok (.invokevirtual 62, 3) := by decide +kernel
theorem dX1_numberOf_6 : decode cX1_numberOf 6 = .ok (.aload_n 0, 1) := by decide +kernel
theorem dX1_numberOf_7 : decode cX1_numberOf 7 = .ok (.iload_n 1, 1) := by decide +kernel
theorem dX1_numberOf_8 : decode cX1_numberOf 8 = .ok (.invokevirtual 65, 3) := by decide +kernel
theorem dX1_numberOf_11 : decode cX1_numberOf 11 = .ok (.invokevirtual 71, 3) := by decide +kernel
theorem dX1_numberOf_14 : decode cX1_numberOf 14 = .ok (.ireturn, 1) := by decide +kernel
theorem dX1_slotAgainOf_0 : decode cX1_slotAgainOf 0 = .ok (.aload_n 0, 1) := by decide +kernel
theorem dX1_slotAgainOf_1 : decode cX1_slotAgainOf 1 = .ok (.invokevirtual 74, 3) := by decide +kernel
theorem dX1_slotAgainOf_4 : decode cX1_slotAgainOf 4 = .ok (.ifCond .eq 12, 3) := by decide +kernel
theorem dX1_slotAgainOf_7 : decode cX1_slotAgainOf 7 = .ok (.aload_n 0, 1) := by decide +kernel
theorem dX1_slotAgainOf_8 : decode cX1_slotAgainOf 8 = .ok (.iconst 1, 1) := by decide +kernel
theorem dX1_slotAgainOf_9 : decode cX1_slotAgainOf 9 = .ok (.iload_n 1, 1) := by decide +kernel
theorem dX1_slotAgainOf_10 : decode cX1_slotAgainOf 10 = .ok (.invokevirtual 68, 3) := by decide +kernel
theorem dX1_slotAgainOf_13 : decode cX1_slotAgainOf 13 = .ok (.goto 4, 3) := by decide +kernel
theorem dX1_slotAgainOf_16 : decode cX1_slotAgainOf 16 = .ok (.iconst (-1), 1) := by decide +kernel
theorem dX1_slotAgainOf_17 : decode cX1_slotAgainOf 17 = .ok (.ireturn, 1) := by decide +kernel
theorem dX1_numberAgainOf_0 : decode cX1_numberAgainOf 0 = .ok (.aload_n 0, 1) := by decide +kernel
theorem dX1_numberAgainOf_1 : decode cX1_numberAgainOf 1 = .ok (.invokevirtual 74, 3) := by decide +kernel
theorem dX1_numberAgainOf_4 : decode cX1_numberAgainOf 4 = .ok (.ifCond .eq 12, 3) := by decide +kernel
theorem dX1_numberAgainOf_7 : decode cX1_numberAgainOf 7 = .ok (.aload_n 0, 1) := by decide +kernel
theorem dX1_numberAgainOf_8 : decode cX1_numberAgainOf 8 = .ok (.iconst 1, 1) := by decide +kernel
theorem dX1_numberAgainOf_9 : decode cX1_numberAgainOf 9 = .ok (.iload_n 1, 1) := by decide +kernel
theorem dX1_numberAgainOf_10 : decode cX1_numberAgainOf 10 = .ok (.invokevirtual 71, 3) := by decide +kernel
theorem dX1_numberAgainOf_13 : decode cX1_numberAgainOf 13 = .ok (.goto 4, 3) := by decide +kernel
theorem dX1_numberAgainOf_16 : decode cX1_numberAgainOf 16 = .ok (.iconst (-1), 1) := by decide +kernel
theorem dX1_numberAgainOf_17 : decode cX1_numberAgainOf 17 = .ok (.ireturn, 1) := by decide +kernel
theorem dX1_blockAt_0 : decode cX1_blockAt 0 = .ok (.iload_n 2, 1) := by decide +kernel
theorem dX1_blockAt_1 : decode cX1_blockAt 1 = .ok (.ifCond .lt 15, 3) := by decide +kernel
theorem dX1_blockAt_4 : decode cX1_blockAt 4 = .ok (.iload_n 2, 1) := by decide +kernel
theorem dX1_blockAt_5 : decode cX1_blockAt 5 = .ok (.aload_n 0, 1) := by decide +kernel
theorem dX1_blockAt_6 : decode cX1_blockAt 6 = .ok (.getfield 15, 3) := by decide +kernel
theorem dX1_blockAt_9 : decode cX1_blockAt 9 = .ok (.iload_n 1, 1) := by decide +kernel
theorem dX1_blockAt_10 : decode cX1_blockAt 10 = .ok (.invokestatic 78, 3) := by decide +kernel
theorem dX1_blockAt_13 : decode cX1_blockAt 13 = .ok (.if_icmp .lt 5, 3) := by decide +kernel
theorem dX1_blockAt_16 : decode cX1_blockAt 16 = .ok (.iconst (-1), 1) := by decide +kernel
theorem dX1_blockAt_17 : decode cX1_blockAt 17 = .ok (.ireturn, 1) := by decide +kernel
theorem dX1_blockAt_18 : decode cX1_blockAt 18 = .ok (.iload_n 1, 1) := by decide +kernel
theorem dX1_blockAt_19 : decode cX1_blockAt 19 = .ok (.iconst 2, 1) := by decide +kernel
theorem dX1_blockAt_20 : decode cX1_blockAt 20 = .ok (.if_icmp .ge 7, 3) := by decide +kernel
theorem dX1_blockAt_23 : decode cX1_blockAt 23 = .ok (.iconst 0, 1) := by decide +kernel
theorem dX1_blockAt_24 : decode cX1_blockAt 24 = .ok (.goto 4, 3) := by decide +kernel
theorem dX1_blockAt_27 : decode cX1_blockAt 27 = .ok (.iconst 1, 1) := by decide +kernel
theorem dX1_blockAt_28 : decode cX1_blockAt 28 = .ok (.istore_n 3, 1) := by decide +kernel
theorem dX1_blockAt_29 : decode cX1_blockAt 29 = .ok (.iload_n 1, 1) := by decide +kernel
theorem dX1_blockAt_30 : decode cX1_blockAt 30 = .ok (.iconst 1, 1) := by decide +kernel
theorem dX1_blockAt_31 : decode cX1_blockAt 31 = .ok (.iand, 1) := by decide +kernel
theorem dX1_blockAt_32 : decode cX1_blockAt 32 = .ok (.ifCond .ne 7, 3) := by decide +kernel
theorem dX1_blockAt_35 : decode cX1_blockAt 35 = .ok (.iload_n 2, 1) := by decide +kernel
theorem dX1_blockAt_36 : decode cX1_blockAt 36 = .ok (.goto 15, 3) := by decide +kernel
theorem dX1_blockAt_39 : decode cX1_blockAt 39 = .ok (.iload_n 2, 1) := by decide +kernel
theorem dX1_blockAt_40 : decode cX1_blockAt 40 = .ok (.aload_n 0, 1) := by decide +kernel
theorem dX1_blockAt_41 : decode cX1_blockAt 41 = .ok (.getfield 15, 3) := by decide +kernel
theorem dX1_blockAt_44 : decode cX1_blockAt 44 = .ok (.iload_n 1, 1) := by decide +kernel
theorem dX1_blockAt_45 : decode cX1_blockAt 45 = .ok (.iconst 1, 1) := by decide +kernel
theorem dX1_blockAt_46 : decode cX1_blockAt 46 = .ok (.isub, 1) := by decide +kernel
theorem dX1_blockAt_47 : decode cX1_blockAt 47 = .ok (.invokestatic 78, 3) := by decide +kernel
theorem dX1_blockAt_50 : decode cX1_blockAt 50 = .ok (.iadd, 1) := by decide +kernel
theorem dX1_blockAt_51 : decode cX1_blockAt 51 = .ok (.istore 4, 2) := by decide +kernel
theorem dX1_blockAt_53 : decode cX1_blockAt 53 = .ok (.aload_n 0, 1) := by decide +kernel
theorem dX1_blockAt_54 : decode cX1_blockAt 54 = .ok (.invokevirtual 74, 3) := by decide +kernel
theorem dX1_blockAt_57 : decode cX1_blockAt 57 = .ok (.ifCond .eq 19, 3) := by decide +kernel
theorem dX1_blockAt_60 : decode cX1_blockAt 60 = .ok (.iload 4, 2) := by decide +kernel
theorem dX1_blockAt_62 : decode cX1_blockAt 62 = .ok (.aload_n 0, 1) := by decide +kernel
theorem dX1_blockAt_63 : decode cX1_blockAt 63 = .ok (.getfield 34, 3) := by decide +kernel
theorem dX1_blockAt_66 : decode cX1_blockAt 66 = .ok (.if_icmp .ge 8, 3) := by decide +kernel
theorem dX1_blockAt_69 : decode cX1_blockAt 69 = .ok (.iload 4, 2) := by decide +kernel
theorem dX1_blockAt_71 : decode cX1_blockAt 71 = .ok (.goto 4, 3) := by decide +kernel
theorem dX1_blockAt_74 : decode cX1_blockAt 74 = .ok (.iconst (-1), 1) := by decide +kernel
theorem dX1_blockAt_75 : decode cX1_blockAt 75 = .ok (.ireturn, 1) := by decide +kernel
theorem dX1_blockAt_76 : decode cX1_blockAt 76 = .ok (.aload_n 0, 1) := by decide +kernel
theorem dX1_blockAt_77 : decode cX1_blockAt 77 = .ok (.getfield 9, 3) := by decide +kernel
theorem dX1_blockAt_80 : decode cX1_blockAt 80 = .ok (.ifCond .ne 29, 3) := by decide +kernel
theorem dX1_blockAt_83 : decode cX1_blockAt 83 = .ok (.iload 4, 2) := by decide +kernel
theorem dX1_blockAt_85 : decode cX1_blockAt 85 = .ok (.aload_n 0, 1) := by decide +kernel
theorem dX1_blockAt_86 : decode cX1_blockAt 86 = .ok (.getfield 31, 3) := by decide +kernel
theorem dX1_blockAt_89 : decode cX1_blockAt 89 = .ok (.if_icmp .ge 12, 3) := by decide +kernel
theorem dX1_blockAt_92 : decode cX1_blockAt 92 = .ok (.iconst 2, 1) := by decide +kernel
theorem dX1_blockAt_93 : decode cX1_blockAt 93 = .ok (.iload 4, 2) := by decide +kernel
theorem dX1_blockAt_95 : decode cX1_blockAt 95 = .ok (.imul, 1) := by decide +kernel
theorem dX1_blockAt_96 : decode cX1_blockAt 96 = .ok (.iload_n 3, 1) := by decide +kernel
theorem dX1_blockAt_97 : decode cX1_blockAt 97 = .ok (.iadd, 1) := by decide +kernel
theorem dX1_blockAt_98 : decode cX1_blockAt 98 = .ok (.goto 10, 3) := by decide +kernel
theorem dX1_blockAt_101 : decode cX1_blockAt 101 = .ok (.iload 4, 2) := by decide +kernel
theorem dX1_blockAt_103 : decode cX1_blockAt 103 = .ok (.aload_n 0, 1) := by decide +kernel
theorem dX1_blockAt_104 : decode cX1_blockAt 104 = .ok (.getfield 31, 3) := by decide +kernel
theorem dX1_blockAt_107 : decode cX1_blockAt 107 = .ok (.iadd, 1) := by decide +kernel
theorem dX1_blockAt_108 : decode cX1_blockAt 108 = .ok (.ireturn, 1) := by decide +kernel
theorem dX1_blockAt_109 : decode cX1_blockAt 109 = .ok (.iload_n 3, 1) := by decide +kernel
theorem dX1_blockAt_110 : decode cX1_blockAt 110 = .ok (.ifCond .ne 8, 3) := by decide +kernel
theorem dX1_blockAt_113 : decode cX1_blockAt 113 = .ok (.iload 4, 2) := by decide +kernel
theorem dX1_blockAt_115 : decode cX1_blockAt 115 = .ok (.goto 10, 3) := by decide +kernel
theorem dX1_blockAt_118 : decode cX1_blockAt 118 = .ok (.aload_n 0, 1) := by decide +kernel
theorem dX1_blockAt_119 : decode cX1_blockAt 119 = .ok (.getfield 25, 3) := by decide +kernel
theorem dX1_blockAt_122 : decode cX1_blockAt 122 = .ok (.iload 4, 2) := by decide +kernel
theorem dX1_blockAt_124 : decode cX1_blockAt 124 = .ok (.iadd, 1) := by decide +kernel
theorem dX1_blockAt_125 : decode cX1_blockAt 125 = .ok (.ireturn, 1) := by decide +kernel
theorem dX1_usedIn_0 : decode cX1_usedIn 0 = .ok (.iconst 0, 1) := by decide +kernel
theorem dX1_usedIn_1 : decode cX1_usedIn 1 = .ok (.istore_n 2, 1) := by decide +kernel
theorem dX1_usedIn_2 : decode cX1_usedIn 2 = .ok (.iconst 0, 1) := by decide +kernel
theorem dX1_usedIn_3 : decode cX1_usedIn 3 = .ok (.istore_n 3, 1) := by decide +kernel
theorem dX1_usedIn_4 : decode cX1_usedIn 4 = .ok (.iload_n 3, 1) := by decide +kernel
theorem dX1_usedIn_5 : decode cX1_usedIn 5 = .ok (.bipush 12, 2) := by decide +kernel
theorem dX1_usedIn_7 : decode cX1_usedIn 7 = .ok (.if_icmp .ge 27, 3) := by decide +kernel
theorem dX1_usedIn_10 : decode cX1_usedIn 10 = .ok (.iload_n 2, 1) := by decide +kernel
theorem dX1_usedIn_11 : decode cX1_usedIn 11 = .ok (.aload_n 0, 1) := by decide +kernel
theorem dX1_usedIn_12 : decode cX1_usedIn 12 = .ok (.iload_n 1, 1) := by decide +kernel
theorem dX1_usedIn_13 : decode cX1_usedIn 13 = .ok (.iload_n 3, 1) := by decide +kernel
theorem dX1_usedIn_14 : decode cX1_usedIn 14 = .ok (.invokevirtual 82, 3) := by decide +kernel
theorem dX1_usedIn_17 : decode cX1_usedIn 17 = .ok (.iconst (-1), 1) := by decide +kernel
theorem dX1_usedIn_18 : decode cX1_usedIn 18 = .ok (.if_icmp .ne 7, 3) := by decide +kernel
theorem dX1_usedIn_21 : decode cX1_usedIn 21 = .ok (.iconst 0, 1) := by decide +kernel
theorem dX1_usedIn_22 : decode cX1_usedIn 22 = .ok (.goto 4, 3) := by decide +kernel
theorem dX1_usedIn_25 : decode cX1_usedIn 25 = .ok (.iconst 1, 1) := by decide +kernel
theorem dX1_usedIn_26 : decode cX1_usedIn 26 = .ok (.iadd, 1) := by decide +kernel
theorem dX1_usedIn_27 : decode cX1_usedIn 27 = .ok (.istore_n 2, 1) := by decide +kernel
theorem dX1_usedIn_28 : decode cX1_usedIn 28 = .ok (.iinc 3 1, 3) := by decide +kernel
theorem dX1_usedIn_31 : decode cX1_usedIn 31 = .ok (.goto (-27), 3) := by decide +kernel
theorem dX1_usedIn_34 : decode cX1_usedIn 34 = .ok (.iload_n 2, 1) := by decide +kernel
theorem dX1_usedIn_35 : decode cX1_usedIn 35 = .ok (.ireturn, 1) := by decide +kernel
theorem dX2_init_0 : decode cX2_init 0 = .ok (.aload_n 0, 1) := by decide +kernel
theorem dX2_init_1 : decode cX2_init 1 = .ok (.invokespecial 3, 3) := by decide +kernel
theorem dX2_init_4 : decode cX2_init 4 = .ok (.aload_n 0, 1) := by decide +kernel
theorem dX2_init_5 : decode cX2_init 5 = .ok (.new 9, 3) := by decide +kernel
theorem dX2_init_8 : decode cX2_init 8 = .ok (.dup, 1) := by decide +kernel
theorem dX2_init_9 : decode cX2_init 9 = .ok (.invokespecial 11, 3) := by decide +kernel
theorem dX2_init_12 : decode cX2_init 12 = .ok (.putfield 12, 3) := by decide +kernel
theorem dX2_init_15 : decode cX2_init 15 = .ok (.aload_n 0, 1) := by decide +kernel
theorem dX2_init_16 : decode cX2_init 16 = .ok (.new 18, 3) := by decide +kernel
theorem dX2_init_19 : decode cX2_init 19 = .ok (.dup, 1) := by decide +kernel
theorem dX2_init_20 : decode cX2_init 20 = .ok (.invokespecial 20, 3) := by decide +kernel
theorem dX2_init_23 : decode cX2_init 23 = .ok (.putfield 21, 3) := by decide +kernel
theorem dX2_init_26 : decode cX2_init 26 = .ok (.aload_n 0, 1) := by decide +kernel
theorem dX2_init_27 : decode cX2_init 27 = .ok (.new 25, 3) := by decide +kernel
theorem dX2_init_30 : decode cX2_init 30 = .ok (.dup, 1) := by decide +kernel
theorem dX2_init_31 : decode cX2_init 31 = .ok (.invokespecial 27, 3) := by decide +kernel
theorem dX2_init_34 : decode cX2_init 34 = .ok (.putfield 28, 3) := by decide +kernel
theorem dX2_init_37 : decode cX2_init 37 = .ok (.aload_n 0, 1) := by decide +kernel
theorem dX2_init_38 : decode cX2_init 38 = .ok (.bipush 48, 2) := by decide +kernel
theorem dX2_init_40 : decode cX2_init 40 = .ok (.newarray .int, 2) := by decide +kernel
theorem dX2_init_42 : decode cX2_init 42 = .ok (.putfield 32, 3) := by decide +kernel
theorem dX2_init_45 : decode cX2_init 45 = .ok (.aload_n 0, 1) := by decide +kernel
theorem dX2_init_46 : decode cX2_init 46 = .ok (.iconst 0, 1) := by decide +kernel
theorem dX2_init_47 : decode cX2_init 47 = .ok (.putfield 36, 3) := by decide +kernel
theorem dX2_init_50 : decode cX2_init 50 = .ok (.aload_n 0, 1) := by decide +kernel
theorem dX2_init_51 : decode cX2_init 51 = .ok (.iconst 1, 1) := by decide +kernel
theorem dX2_init_52 : decode cX2_init 52 = .ok (.putfield 40, 3) := by decide +kernel
theorem dX2_init_55 : decode cX2_init 55 = .ok (.return_, 1) := by decide +kernel
theorem dX2_copyFrom_0 : decode cX2_copyFrom 0 = .ok (.aload_n 0, 1) := by decide +kernel
theorem dX2_copyFrom_1 : decode cX2_copyFrom 1 = .ok (.getfield 12, 3) := by decide +kernel
theorem dX2_copyFrom_4 : decode cX2_copyFrom 4 = .ok (.aload_n 1, 1) := by decide +kernel
theorem dX2_copyFrom_5 : decode cX2_copyFrom 5 = .ok (.getfield 12, 3) := by decide +kernel
theorem dX2_copyFrom_8 : decode cX2_copyFrom 8 = .ok (.invokevirtual 43, 3) := by decide +kernel
theorem dX2_copyFrom_11 : decode cX2_copyFrom 11 = .ok (.aload_n 0, 1) := by decide +kernel
theorem dX2_copyFrom_12 : decode cX2_copyFrom 12 = .ok (.getfield 21, 3) := by decide +kernel
theorem dX2_copyFrom_15 : decode cX2_copyFrom 15 = .ok (.aload_n 1, 1) := by decide +kernel
theorem dX2_copyFrom_16 : decode cX2_copyFrom 16 = .ok (.getfield 21, 3) := by decide +kernel
theorem dX2_copyFrom_19 : decode cX2_copyFrom 19 = .ok (.invokevirtual 47, 3) := by decide +kernel
theorem dX2_copyFrom_22 : decode cX2_copyFrom 22 = .ok (.aload_n 0, 1) := by decide +kernel
theorem dX2_copyFrom_23 : decode cX2_copyFrom 23 = .ok (.getfield 28, 3) := by decide +kernel
theorem dX2_copyFrom_26 : decode cX2_copyFrom 26 = .ok (.aload_n 1, 1) := by decide +kernel
theorem dX2_copyFrom_27 : decode cX2_copyFrom 27 = .ok (.getfield 28, 3) := by decide +kernel
theorem dX2_copyFrom_30 : decode cX2_copyFrom 30 = .ok (.invokevirtual 50, 3) := by decide +kernel
theorem dX2_copyFrom_33 : decode cX2_copyFrom 33 = .ok (.aload_n 1, 1) := by decide +kernel
theorem dX2_copyFrom_34 : decode cX2_copyFrom 34 = .ok (.getfield 32, 3) := by decide +kernel
theorem dX2_copyFrom_37 : decode cX2_copyFrom 37 = .ok (.iconst 0, 1) := by decide +kernel
theorem dX2_copyFrom_38 : decode cX2_copyFrom 38 = .ok (.aload_n 0, 1) := by decide +kernel
theorem dX2_copyFrom_39 : decode cX2_copyFrom 39 = .ok (.getfield 32, 3) := by decide +kernel
theorem dX2_copyFrom_42 : decode cX2_copyFrom 42 = .ok (.iconst 0, 1) := by decide +kernel
theorem dX2_copyFrom_43 : decode cX2_copyFrom 43 = .ok (.bipush 48, 2) := by decide +kernel
theorem dX2_copyFrom_45 : decode cX2_copyFrom 45 = .ok (.invokestatic 53, 3) := by decide +kernel
theorem dX2_copyFrom_48 : decode cX2_copyFrom 48 = .ok (.aload_n 0, 1) := by decide +kernel
theorem dX2_copyFrom_49 : decode cX2_copyFrom 49 = .ok (.aload_n 1, 1) := by decide +kernel
theorem dX2_copyFrom_50 : decode cX2_copyFrom 50 = .ok (.getfield 36, 3) := by decide +kernel
theorem dX2_copyFrom_53 : decode cX2_copyFrom 53 = .ok (.putfield 36, 3) := by decide +kernel
theorem dX2_copyFrom_56 : decode cX2_copyFrom 56 = .ok (.aload_n 0, 1) := by decide +kernel
theorem dX2_copyFrom_57 : decode cX2_copyFrom 57 = .ok (.aload_n 1, 1) := by decide +kernel
theorem dX2_copyFrom_58 : decode cX2_copyFrom 58 = .ok (.getfield 40, 3) := by decide +kernel
theorem dX2_copyFrom_61 : decode cX2_copyFrom 61 = .ok (.putfield 40, 3) := by decide +kernel
theorem dX2_copyFrom_64 : decode cX2_copyFrom 64 = .ok (.aload_n 0, 1) := by decide +kernel
theorem dX2_copyFrom_65 : decode cX2_copyFrom 65 = .ok (.aload_n 1, 1) := by decide +kernel
theorem dX2_copyFrom_66 : decode cX2_copyFrom 66 = .ok (.getfield 59, 3) := by decide +kernel
theorem dX2_copyFrom_69 : decode cX2_copyFrom 69 = .ok (.putfield 59, 3) := by decide +kernel
theorem dX2_copyFrom_72 : decode cX2_copyFrom 72 = .ok (.aload_n 0, 1) := by decide +kernel
theorem dX2_copyFrom_73 : decode cX2_copyFrom 73 = .ok (.aload_n 1, 1) := by decide +kernel
theorem dX2_copyFrom_74 : decode cX2_copyFrom 74 = .ok (.getfield 62, 3) := by decide +kernel
theorem dX2_copyFrom_77 : decode cX2_copyFrom 77 = .ok (.putfield 62, 3) := by decide +kernel
theorem dX2_copyFrom_80 : decode cX2_copyFrom 80 = .ok (.aload_n 0, 1) := by decide +kernel
theorem dX2_copyFrom_81 : decode cX2_copyFrom 81 = .ok (.aload_n 1, 1) := by decide +kernel
theorem dX2_copyFrom_82 : decode cX2_copyFrom 82 = .ok (.getfield 65, 3) := by decide +kernel
theorem dX2_copyFrom_85 : decode cX2_copyFrom 85 = .ok (.putfield 65, 3) := by decide +kernel
theorem dX2_copyFrom_88 : decode cX2_copyFrom 88 = .ok (.return_, 1) := by decide +kernel
theorem dX2_begin_0 : decode cX2_begin 0 = .ok (.aload_n 0, 1) := by decide +kernel
theorem dX2_begin_1 : decode cX2_begin 1 = .ok (.getfield 21, 3) := by decide +kernel
theorem dX2_begin_4 : decode cX2_begin 4 = .ok (.aload_n 0, 1) := by decide +kernel
theorem dX2_begin_5 : decode cX2_begin 5 = .ok (.getfield 36, 3) := by decide +kernel
theorem dX2_begin_8 : decode cX2_begin 8 = .ok (.aload_n 0, 1) := by decide +kernel
theorem dX2_begin_9 : decode cX2_begin 9 = .ok (.getfield 12, 3) := by decide +kernel
theorem dX2_begin_12 : decode cX2_begin 12 = .ok (.invokevirtual 68, 3) := by decide +kernel
theorem dX2_begin_15 : decode cX2_begin 15 = .ok (.aload_n 0, 1) := by decide +kernel
theorem dX2_begin_16 : decode cX2_begin 16 = .ok (.getfield 12, 3) := by decide +kernel
theorem dX2_begin_19 : decode cX2_begin 19 = .ok (.invokevirtual 72, 3) := by decide +kernel
theorem dX2_begin_22 : decode cX2_begin 22 = .ok (.aload_n 0, 1) := by decide +kernel
theorem dX2_begin_23 : decode cX2_begin 23 = .ok (.getfield 28, 3) := by decide +kernel
theorem dX2_begin_26 : decode cX2_begin 26 = .ok (.invokevirtual 75, 3) := by decide +kernel
theorem dX2_begin_29 : decode cX2_begin 29 = .ok (.aload_n 0, 1) := by decide +kernel
theorem dX2_begin_30 : decode cX2_begin 30 = .ok (.getfield 32, 3) := by decide +kernel
theorem dX2_begin_33 : decode cX2_begin 33 = .ok (.iconst 0, 1) := by decide +kernel
theorem dX2_begin_34 : decode cX2_begin 34 = .ok (.invokestatic 78, 3) := by decide +kernel
theorem dX2_begin_37 : decode cX2_begin 37 = .ok (.aload_n 0, 1) := by decide +kernel
theorem dX2_begin_38 : decode cX2_begin 38 = .ok (.dup, 1) := by decide +kernel
theorem dX2_begin_39 : decode cX2_begin 39 = .ok (.getfield 65, 3) := by decide +kernel
theorem dX2_begin_42 : decode cX2_begin 42 = .ok (.iconst 1, 1) := by decide +kernel
theorem dX2_begin_43 : decode cX2_begin 43 = .ok (.iadd, 1) := by decide +kernel
theorem dX2_begin_44 : decode cX2_begin 44 = .ok (.putfield 65, 3) := by decide +kernel
theorem dX2_begin_47 : decode cX2_begin 47 = .ok (.return_, 1) := by decide +kernel
theorem dX2_end_0 : decode cX2_end 0 = .ok (.aload_n 0, 1) := by decide +kernel
theorem dX2_end_1 : decode cX2_end 1 = .ok (.getfield 21, 3) := by decide +kernel
theorem dX2_end_4 : decode cX2_end 4 = .ok (.invokevirtual 84, 3) := by decide +kernel
theorem dX2_end_7 : decode cX2_end 7 = .ok (.aload_n 0, 1) := by decide +kernel
theorem dX2_end_8 : decode cX2_end 8 = .ok (.getfield 12, 3) := by decide +kernel
theorem dX2_end_11 : decode cX2_end 11 = .ok (.invokevirtual 87, 3) := by decide +kernel
theorem dX2_end_14 : decode cX2_end 14 = .ok (.return_, 1) := by decide +kernel
theorem dX2_settingOf_0 : decode cX2_settingOf 0 = .ok (.iload_n 1, 1) := by decide +kernel
theorem dX2_settingOf_1 : decode cX2_settingOf 1 = .ok (.iconst 1, 1) := by decide +kernel
theorem dX2_settingOf_2 : decode cX2_settingOf 2 = .ok (.if_icmp .ne 10, 3) := by decide +kernel
theorem dX2_settingOf_5 : decode cX2_settingOf 5 = .ok (.aload_n 0, 1) := by decide +kernel
theorem dX2_settingOf_6 : decode cX2_settingOf 6 = .ok (.getfield 40, 3) := by decide +kernel
theorem dX2_settingOf_9 : decode cX2_settingOf 9 = .ok (.goto 7, 3) := by decide +kernel
theorem dX2_settingOf_12 : decode cX2_settingOf 12 = .ok (.aload_n 0, 1) := by decide +kernel
theorem dX2_settingOf_13 : decode cX2_settingOf 13 = .ok (.getfield 36, 3) := by decide +kernel
theorem dX2_settingOf_16 : decode cX2_settingOf 16 = .ok (.ireturn, 1) := by decide +kernel
theorem dX2_exchangeSetting_0 : decode cX2_exchangeSetting 0 = .ok (.aload_n 0, 1) := by decide +kernel
theorem dX2_exchangeSetting_1 : decode cX2_exchangeSetting 1 = .ok (.iload_n 1, 1) := by decide +kernel
theorem dX2_exchangeSetting_2 : decode cX2_exchangeSetting 2 = .ok (.invokevirtual 90, 3) := by decide +kernel
theorem dX2_exchangeSetting_5 : decode cX2_exchangeSetting 5 = .ok (.istore_n 3, 1) := by decide +kernel
theorem dX2_exchangeSetting_6 : decode cX2_exchangeSetting 6 = .ok (.iload_n 1, 1) := by decide +kernel
theorem dX2_exchangeSetting_7 : decode cX2_exchangeSetting 7 = .ok (.iconst 1, 1) := by decide +kernel
theorem dX2_exchangeSetting_8 : decode cX2_exchangeSetting 8 = .ok (.if_icmp .ne 11, 3) := by decide +kernel
theorem dX2_exchangeSetting_11 : decode cX2_exchangeSetting 11 = .ok (.aload_n 0, 1) := by decide +kernel
theorem dX2_exchangeSetting_12 : decode cX2_exchangeSetting 12 = .ok (.iload_n 2, 1) := by decide +kernel
theorem dX2_exchangeSetting_13 : decode cX2_exchangeSetting 13 = .ok (.putfield 40, 3) := by decide +kernel
theorem dX2_exchangeSetting_16 : decode cX2_exchangeSetting 16 = .ok (.goto 8, 3) := by decide +kernel
theorem dX2_exchangeSetting_19 : decode cX2_exchangeSetting 19 = .ok (.aload_n 0, 1) := by decide +kernel
theorem dX2_exchangeSetting_20 : decode cX2_exchangeSetting 20 = .ok (.iload_n 2, 1) := by decide +kernel
theorem dX2_exchangeSetting_21 : decode cX2_exchangeSetting 21 = .ok (.putfield 36, 3) := by decide +kernel
theorem dX2_exchangeSetting_24 : decode cX2_exchangeSetting 24 = .ok (.iload_n 3, 1) := by decide +kernel
theorem dX2_exchangeSetting_25 : decode cX2_exchangeSetting 25 = .ok (.ireturn, 1) := by decide +kernel
theorem dX2_usedPlaces_0 : decode cX2_usedPlaces 0 = .ok (.aload_n 0, 1) := by decide +kernel
theorem dX2_usedPlaces_1 : decode cX2_usedPlaces 1 = .ok (.getfield 12, 3) := by decide +kernel
theorem dX2_usedPlaces_4 : decode cX2_usedPlaces 4 = .ok (.iload_n 1, 1) := by decide +kernel
theorem dX2_usedPlaces_5 : decode cX2_usedPlaces 5 = .ok (.invokevirtual 94, 3) := by decide +kernel
theorem dX2_usedPlaces_8 : decode cX2_usedPlaces 8 = .ok (.ifCond .eq 14, 3) := by decide +kernel
theorem dX2_usedPlaces_11 : decode cX2_usedPlaces 11 = .ok (.aload_n 0, 1) := by decide +kernel
theorem dX2_usedPlaces_12 : decode cX2_usedPlaces 12 = .ok (.getfield 21, 3) := by decide +kernel
theorem dX2_usedPlaces_15 : decode cX2_usedPlaces 15 = .ok (.iload_n 1, 1) := by decide +kernel
theorem dX2_usedPlaces_16 : decode cX2_usedPlaces 16 = .ok (.invokevirtual 98, 3) := by decide +kernel
theorem dX2_usedPlaces_19 : decode cX2_usedPlaces 19 = .ok (.goto 4, 3) := by decide +kernel
theorem dX2_usedPlaces_22 : decode cX2_usedPlaces 22 = .ok (.iconst 0, 1) := by decide +kernel
theorem dX2_usedPlaces_23 : decode cX2_usedPlaces 23 = .ok (.ireturn, 1) := by decide +kernel
theorem dX2_hasBlock_0 : decode cX2_hasBlock 0 = .ok (.iload_n 1, 1) := by decide +kernel
theorem dX2_hasBlock_1 : decode cX2_hasBlock 1 = .ok (.ifCond .lt 18, 3) := by decide +kernel
theorem dX2_hasBlock_4 : decode cX2_hasBlock 4 = .ok (.iload_n 1, 1) := by decide +kernel
theorem dX2_hasBlock_5 : decode cX2_hasBlock 5 = .ok (.aload_n 0, 1) := by decide +kernel
theorem dX2_hasBlock_6 : decode cX2_hasBlock 6 = .ok (.getfield 21, 3) := by decide +kernel
theorem dX2_hasBlock_9 : decode cX2_hasBlock 9 = .ok (.getfield 101, 3) := by decide +kernel
theorem dX2_hasBlock_12 : decode cX2_hasBlock 12 = .ok (.if_icmp .ge 7, 3) := by decide +kernel
theorem dX2_hasBlock_15 : decode cX2_hasBlock 15 = .ok (.iconst 1, 1) := by decide +kernel
theorem dX2_hasBlock_16 : decode cX2_hasBlock 16 = .ok (.goto 4, 3) := by decide +kernel
theorem dX2_hasBlock_19 : decode cX2_hasBlock 19 = .ok (.iconst 0, 1) := by decide +kernel
theorem dX2_hasBlock_20 : decode cX2_hasBlock 20 = .ok (.ireturn, 1) := by decide +kernel
theorem dX2_canRead_0 : decode cX2_canRead 0 = .ok (.aload_n 0, 1) := by decide +kernel
theorem dX2_canRead_1 : decode cX2_canRead 1 = .ok (.iload_n 1, 1) := by decide +kernel
theorem dX2_canRead_2 : decode cX2_canRead 2 = .ok (.invokevirtual 104, 3) := by decide +kernel
theorem dX2_canRead_5 : decode cX2_canRead 5 = .ok (.ifCond .eq 16, 3) := by decide +kernel
theorem dX2_canRead_8 : decode cX2_canRead 8 = .ok (.aload_n 0, 1) := by decide +kernel
theorem dX2_canRead_9 : decode cX2_canRead 9 = .ok (.iload_n 1, 1) := by decide +kernel
theorem dX2_canRead_10 : decode cX2_canRead 10 = .ok (.invokevirtual 107, 3) := by decide +kernel
theorem dX2_canRead_13 : decode cX2_canRead 13 = .ok (.iconst (-1), 1) := by decide +kernel
theorem dX2_canRead_14 : decode cX2_canRead 14 = .ok (.if_icmp .eq 7, 3) := by decide +kernel
theorem dX2_canRead_17 : decode cX2_canRead 17 = .ok (.iconst 1, 1) := by decide +kernel
theorem dX2_canRead_18 : decode cX2_canRead 18 = .ok (.goto 4, 3) := by decide +kernel
theorem dX2_canRead_21 : decode cX2_canRead 21 = .ok (.iconst 0, 1) := by decide +kernel
theorem dX2_canRead_22 : decode cX2_canRead 22 = .ok (.ireturn, 1) := by decide +kernel
theorem dX2_heldBy_0 : decode cX2_heldBy 0 = .ok (.aload_n 0, 1) := by decide +kernel
theorem dX2_heldBy_1 : decode cX2_heldBy 1 = .ok (.getfield 32, 3) := by decide +kernel
theorem dX2_heldBy_4 : decode cX2_heldBy 4 = .ok (.iload_n 1, 1) := by decide +kernel
theorem dX2_heldBy_5 : decode cX2_heldBy 5 = .ok (.invokestatic 110, 3) := by decide +kernel
theorem dX2_heldBy_8 : decode cX2_heldBy 8 = .ok (.ireturn, 1) := by decide +kernel
theorem dX2_exchange_0 : decode cX2_exchange 0 = .ok (.aload_n 0, 1) := by decide +kernel
theorem dX2_exchange_1 : decode cX2_exchange 1 = .ok (.iload_n 1, 1) := by decide +kernel
theorem dX2_exchange_2 : decode cX2_exchange 2 = .ok (.invokevirtual 114, 3) := by decide +kernel
theorem dX2_exchange_5 : decode cX2_exchange 5 = .ok (.istore_n 3, 1) := by decide +kernel
theorem dX2_exchange_6 : decode cX2_exchange 6 = .ok (.iload_n 1, 1) := by decide +kernel
theorem dX2_exchange_7 : decode cX2_exchange 7 = .ok (.ifCond .lt 19, 3) := by decide +kernel
theorem dX2_exchange_10 : decode cX2_exchange 10 = .ok (.iload_n 1, 1) := by decide +kernel
theorem dX2_exchange_11 : decode cX2_exchange 11 = .ok (.aload_n 0, 1) := by decide +kernel
theorem dX2_exchange_12 : decode cX2_exchange 12 = .ok (.getfield 32, 3) := by decide +kernel
theorem dX2_exchange_15 : decode cX2_exchange 15 = .ok (.arraylength, 1) := by decide +kernel
theorem dX2_exchange_16 : decode cX2_exchange 16 = .ok (.if_icmp .ge 10, 3) := by decide +kernel
theorem dX2_exchange_19 : decode cX2_exchange 19 = .ok (.aload_n 0, 1) := by decide +kernel
theorem dX2_exchange_20 : decode cX2_exchange 20 = .ok (.getfield 32, 3) := by decide +kernel
theorem dX2_exchange_23 : decode cX2_exchange 23 = .ok (.iload_n 1, 1) := by decide +kernel
theorem dX2_exchange_24 : decode cX2_exchange 24 = .ok (.iload_n 2, 1) := by decide +kernel
theorem dX2_exchange_25 : decode cX2_exchange 25 = .ok (.iastore, 1) := by decide +kernel
theorem dX2_exchange_26 : decode cX2_exchange 26 = .ok (.iload_n 3, 1) := by decide +kernel
theorem dX2_exchange_27 : decode cX2_exchange 27 = .ok (.ireturn, 1) := by decide +kernel
theorem dX2_readSlotOf_0 : decode cX2_readSlotOf 0 = .ok (.aload_n 0, 1) := by decide +kernel
theorem dX2_readSlotOf_1 : decode cX2_readSlotOf 1 = .ok (.getfield 21, 3) := by decide +kernel
theorem dX2_readSlotOf_4 : decode cX2_readSlotOf 4 = .ok (.iload_n 1, 1) := by decide +kernel
theorem dX2_readSlotOf_5 : decode cX2_readSlotOf 5 = .ok (.invokevirtual 117, 3) := by decide +kernel
theorem dX2_readSlotOf_8 : decode cX2_readSlotOf 8 = .ok (.istore_n 2, 1) := by decide +kernel
theorem dX2_readSlotOf_9 : decode cX2_readSlotOf 9 = .ok (.aload_n 0, 1) := by decide +kernel
theorem dX2_readSlotOf_10 : decode cX2_readSlotOf 10 = .ok (.getfield 12, 3) := by decide +kernel
theorem dX2_readSlotOf_13 : decode cX2_readSlotOf 13 = .ok (.iload_n 2, 1) := by decide +kernel
theorem dX2_readSlotOf_14 : decode cX2_readSlotOf 14 = .ok (.invokevirtual 94, 3) := by decide +kernel
theorem dX2_readSlotOf_17 : decode cX2_readSlotOf 17 = .ok (.ifCond .eq 5, 3) := by decide +kernel
theorem dX2_readSlotOf_20 : decode cX2_readSlotOf 20 = .ok (.iload_n 2, 1) := by decide +kernel
theorem dX2_readSlotOf_21 : decode cX2_readSlotOf 21 = .ok (.ireturn, 1) := by decide +kernel
theorem dX2_readSlotOf_22 : decode cX2_readSlotOf 22 = .ok (.aload_n 0, 1) := by decide +kernel
theorem dX2_readSlotOf_23 : decode cX2_readSlotOf 23 = .ok (.getfield 21, 3) := by decide +kernel
theorem dX2_readSlotOf_26 : decode cX2_readSlotOf 26 = .ok (.iload_n 1, 1) := by decide +kernel
theorem dX2_readSlotOf_27 : decode cX2_readSlotOf 27 = .ok (.invokevirtual 120, 3) := by decide +kernel
theorem dX2_readSlotOf_30 : decode cX2_readSlotOf 30 = .ok (.istore_n 3, 1) := by decide +kernel
theorem dX2_readSlotOf_31 : decode cX2_readSlotOf 31 = .ok (.aload_n 0, 1) := by decide +kernel
theorem dX2_readSlotOf_32 : decode cX2_readSlotOf 32 = .ok (.getfield 12, 3) := by decide +kernel
theorem dX2_readSlotOf_35 : decode cX2_readSlotOf 35 = .ok (.iload_n 3, 1) := by decide +kernel
theorem dX2_readSlotOf_36 : decode cX2_readSlotOf 36 = .ok (.invokevirtual 94, 3) := by decide +kernel
theorem dX2_readSlotOf_39 : decode cX2_readSlotOf 39 = .ok (.ifCond .eq 7, 3) := by decide +kernel
theorem dX2_readSlotOf_42 : decode cX2_readSlotOf 42 = .ok (.iload_n 3, 1) := by decide +kernel
theorem dX2_readSlotOf_43 : decode cX2_readSlotOf 43 = .ok (.goto 4, 3) := by decide +kernel
theorem dX2_readSlotOf_46 : decode cX2_readSlotOf 46 = .ok (.iconst (-1), 1) := by decide +kernel
theorem dX2_readSlotOf_47 : decode cX2_readSlotOf 47 = .ok (.ireturn, 1) := by decide +kernel
theorem dX2_readRankOf_0 : decode cX2_readRankOf 0 = .ok (.aload_n 0, 1) := by decide +kernel
theorem dX2_readRankOf_1 : decode cX2_readRankOf 1 = .ok (.iload_n 1, 1) := by decide +kernel
theorem dX2_readRankOf_2 : decode cX2_readRankOf 2 = .ok (.invokevirtual 107, 3) := by decide +kernel
theorem dX2_readRankOf_5 : decode cX2_readRankOf 5 = .ok (.istore_n 2, 1) := by decide +kernel
theorem dX2_readRankOf_6 : decode cX2_readRankOf 6 = .ok (.iload_n 2, 1) := by decide +kernel
theorem dX2_readRankOf_7 : decode cX2_readRankOf 7 = .ok (.aload_n 0, 1) := by decide +kernel
theorem dX2_readRankOf_8 : decode cX2_readRankOf 8 = .ok (.getfield 21, 3) := by decide +kernel
theorem dX2_readRankOf_11 : decode cX2_readRankOf 11 = .ok (.iload_n 1, 1) := by decide +kernel
theorem dX2_readRankOf_12 : decode cX2_readRankOf 12 = .ok (.invokevirtual 117, 3) := by decide +kernel
theorem dX2_readRankOf_15 : decode cX2_readRankOf 15 = .ok (.if_icmp .eq 7, 3) := by decide +kernel
theorem dX2_readRankOf_18 : decode cX2_readRankOf 18 = .ok (.iconst 1, 1) := by decide +kernel
theorem dX2_readRankOf_19 : decode cX2_readRankOf 19 = .ok (.goto 4, 3) := by decide +kernel
theorem dX2_readRankOf_22 : decode cX2_readRankOf 22 = .ok (.iconst 0, 1) := by decide +kernel
theorem dX2_readRankOf_23 : decode cX2_readRankOf 23 = .ok (.istore_n 3, 1) := by decide +kernel
theorem dX2_readRankOf_24 : decode cX2_readRankOf 24 = .ok (.iload_n 3, 1) := by decide +kernel
theorem dX2_readRankOf_25 : decode cX2_readRankOf 25 = .ok (.ifCond .eq 14, 3) := by decide +kernel
theorem dX2_readRankOf_28 : decode cX2_readRankOf 28 = .ok (.aload_n 0, 1) := by decide +kernel
theorem dX2_readRankOf_29 : decode cX2_readRankOf 29 = .ok (.getfield 21, 3) := by decide +kernel
theorem dX2_readRankOf_32 : decode cX2_readRankOf 32 = .ok (.iload_n 1, 1) := by decide +kernel
theorem dX2_readRankOf_33 : decode cX2_readRankOf 33 = .ok (.invokevirtual 123, 3) := by decide +kernel
theorem dX2_readRankOf_36 : decode cX2_readRankOf 36 = .ok (.goto 11, 3) := by decide +kernel
theorem dX2_readRankOf_39 : decode cX2_readRankOf 39 = .ok (.aload_n 0, 1) := by decide +kernel
theorem dX2_readRankOf_40 : decode cX2_readRankOf 40 = .ok (.getfield 21, 3) := by decide +kernel
theorem dX2_readRankOf_43 : decode cX2_readRankOf 43 = .ok (.iload_n 1, 1) := by decide +kernel
theorem dX2_readRankOf_44 : decode cX2_readRankOf 44 = .ok (.invokevirtual 126, 3) := by decide +kernel
theorem dX2_readRankOf_47 : decode cX2_readRankOf 47 = .ok (.istore 4, 2) := by decide +kernel
theorem dX2_readRankOf_49 : decode cX2_readRankOf 49 = .ok (.aload_n 0, 1) := by decide +kernel
theorem dX2_readRankOf_50 : decode cX2_readRankOf 50 = .ok (.getfield 12, 3) := by decide +kernel
theorem dX2_readRankOf_53 : decode cX2_readRankOf 53 = .ok (.iload_n 2, 1) := by decide +kernel
theorem dX2_readRankOf_54 : decode cX2_readRankOf 54 = .ok (.iload 4, 2) := by decide +kernel
theorem dX2_readRankOf_56 : decode cX2_readRankOf 56 = .ok (.invokevirtual 129, 3) := by decide +kernel
theorem dX2_readRankOf_59 : decode cX2_readRankOf 59 = .ok (.ireturn, 1) := by decide +kernel
theorem dX2_readOne_0 : decode cX2_readOne 0 = .ok (.aload_n 0, 1) := by decide +kernel
theorem dX2_readOne_1 : decode cX2_readOne 1 = .ok (.iload_n 1, 1) := by decide +kernel
theorem dX2_readOne_2 : decode cX2_readOne 2 = .ok (.invokevirtual 107, 3) := by decide +kernel
theorem dX2_readOne_5 : decode cX2_readOne 5 = .ok (.istore_n 2, 1) := by decide +kernel
theorem dX2_readOne_6 : decode cX2_readOne 6 = .ok (.aload_n 0, 1) := by decide +kernel
theorem dX2_readOne_7 : decode cX2_readOne 7 = .ok (.getfield 28, 3) := by decide +kernel
theorem dX2_readOne_10 : decode cX2_readOne 10 = .ok (.aload_n 0, 1) := by decide +kernel
theorem dX2_readOne_11 : decode cX2_readOne 11 = .ok (.iload_n 1, 1) := by decide +kernel
theorem dX2_readOne_12 : decode cX2_readOne 12 = .ok (.invokevirtual 133, 3) := by decide +kernel
theorem dX2_readOne_15 : decode cX2_readOne 15 = .ok (.aload_n 0, 1) := by decide +kernel
theorem dX2_readOne_16 : decode cX2_readOne 16 = .ok (.getfield 12, 3) := by decide +kernel
theorem dX2_readOne_19 : decode cX2_readOne 19 = .ok (.iload_n 2, 1) := by decide +kernel
theorem dX2_readOne_20 : decode cX2_readOne 20 = .ok (.invokevirtual 136, 3) := by decide +kernel
theorem dX2_readOne_23 : decode cX2_readOne 23 = .ok (.invokevirtual 139, 3) := by decide +kernel
theorem dX2_readOne_26 : decode cX2_readOne 26 = .ok (.aload_n 0, 1) := by decide +kernel
theorem dX2_readOne_27 : decode cX2_readOne 27 = .ok (.getfield 12, 3) := by decide +kernel
theorem dX2_readOne_30 : decode cX2_readOne 30 = .ok (.iload_n 2, 1) := by decide +kernel
theorem dX2_readOne_31 : decode cX2_readOne 31 = .ok (.invokevirtual 143, 3) := by decide +kernel
theorem dX2_readOne_34 : decode cX2_readOne 34 = .ok (.aload_n 0, 1) := by decide +kernel
theorem dX2_readOne_35 : decode cX2_readOne 35 = .ok (.dup, 1) := by decide +kernel
theorem dX2_readOne_36 : decode cX2_readOne 36 = .ok (.getfield 59, 3) := by decide +kernel
theorem dX2_readOne_39 : decode cX2_readOne 39 = .ok (.iconst 1, 1) := by decide +kernel
theorem dX2_readOne_40 : decode cX2_readOne 40 = .ok (.iadd, 1) := by decide +kernel
theorem dX2_readOne_41 : decode cX2_readOne 41 = .ok (.putfield 59, 3) := by decide +kernel
theorem dX2_readOne_44 : decode cX2_readOne 44 = .ok (.aload_n 0, 1) := by decide +kernel
theorem dX2_readOne_45 : decode cX2_readOne 45 = .ok (.iload_n 1, 1) := by decide +kernel
theorem dX2_readOne_46 : decode cX2_readOne 46 = .ok (.invokevirtual 114, 3) := by decide +kernel
theorem dX2_readOne_49 : decode cX2_readOne 49 = .ok (.ireturn, 1) := by decide +kernel
theorem dX2_slotNumber_0 : decode cX2_slotNumber 0 = .ok (.aload_n 0, 1) := by decide +kernel
theorem dX2_slotNumber_1 : decode cX2_slotNumber 1 = .ok (.getfield 12, 3) := by decide +kernel
theorem dX2_slotNumber_4 : decode cX2_slotNumber 4 = .ok (.iload_n 1, 1) := by decide +kernel
theorem dX2_slotNumber_5 : decode cX2_slotNumber 5 = .ok (.invokevirtual 178, 3) := by decide +kernel
theorem dX2_slotNumber_8 : decode cX2_slotNumber 8 = .ok (.ifCond .ne 5, 3) := by decide +kernel
theorem dX2_slotNumber_11 : decode cX2_slotNumber 11 = .ok (.iconst (-1), 1) := by decide +kernel
theorem dX2_slotNumber_12 : decode cX2_slotNumber 12 = .ok (.ireturn, 1) := by decide +kernel
theorem dX2_slotNumber_13 : decode cX2_slotNumber 13 = .ok (.iload_n 2, 1) := by decide +kernel
theorem dX2_slotNumber_14 : decode cX2_slotNumber 14 = .ok (.tableswitch 139 0 6 #[42, 51, 60, 69, 86, 103, 113], 42) := by decide +kernel
theorem dX2_slotNumber_56 : decode cX2_slotNumber 56 = .ok (.aload_n 0, 1) := by decide +kernel
theorem dX2_slotNumber_57 : decode cX2_slotNumber 57 = .ok (.getfield 12, 3) := by decide +kernel
theorem dX2_slotNumber_60 : decode cX2_slotNumber 60 = .ok (.iload_n 1, 1) := by decide +kernel
theorem dX2_slotNumber_61 : decode cX2_slotNumber 61 = .ok (.invokevirtual 181, 3) := by decide +kernel
theorem dX2_slotNumber_64 : decode cX2_slotNumber 64 = .ok (.ireturn, 1) := by decide +kernel
theorem dX2_slotNumber_65 : decode cX2_slotNumber 65 = .ok (.aload_n 0, 1) := by decide +kernel
theorem dX2_slotNumber_66 : decode cX2_slotNumber 66 = .ok (.getfield 12, 3) := by decide +kernel
theorem dX2_slotNumber_69 : decode cX2_slotNumber 69 = .ok (.iload_n 1, 1) := by decide +kernel
theorem dX2_slotNumber_70 : decode cX2_slotNumber 70 = .ok (.invokevirtual 184, 3) := by decide +kernel
theorem dX2_slotNumber_73 : decode cX2_slotNumber 73 = .ok (.ireturn, 1) := by decide +kernel
theorem dX2_slotNumber_74 : decode cX2_slotNumber 74 = .ok (.aload_n 0, 1) := by decide +kernel
theorem dX2_slotNumber_75 : decode cX2_slotNumber 75 = .ok (.getfield 12, 3) := by decide +kernel
theorem dX2_slotNumber_78 : decode cX2_slotNumber 78 = .ok (.iload_n 1, 1) := by decide +kernel
theorem dX2_slotNumber_79 : decode cX2_slotNumber 79 = .ok (.invokevirtual 136, 3) := by decide +kernel
theorem dX2_slotNumber_82 : decode cX2_slotNumber 82 = .ok (.ireturn, 1) := by decide +kernel
theorem dX2_slotNumber_83 : decode cX2_slotNumber 83 = .ok (.aload_n 0, 1) := by decide +kernel
theorem dX2_slotNumber_84 : decode cX2_slotNumber 84 = .ok (.getfield 12, 3) := by decide +kernel
theorem dX2_slotNumber_87 : decode cX2_slotNumber 87 = .ok (.iload_n 1, 1) := by decide +kernel
theorem dX2_slotNumber_88 : decode cX2_slotNumber 88 = .ok (.invokevirtual 187, 3) := by decide +kernel
theorem dX2_slotNumber_91 : decode cX2_slotNumber 91 = .ok (.ifCond .eq 7, 3) := by decide +kernel
theorem dX2_slotNumber_94 : decode cX2_slotNumber 94 = .ok (.iconst 1, 1) := by decide +kernel
theorem dX2_slotNumber_95 : decode cX2_slotNumber 95 = .ok (.goto 4, 3) := by decide +kernel
theorem dX2_slotNumber_98 : decode cX2_slotNumber 98 = .ok (.iconst 0, 1) := by decide +kernel
theorem dX2_slotNumber_99 : decode cX2_slotNumber 99 = .ok (.ireturn, 1) := by decide +kernel
theorem dX2_slotNumber_100 : decode cX2_slotNumber 100 = .ok (.aload_n 0, 1) := by decide +kernel
theorem dX2_slotNumber_101 : decode cX2_slotNumber 101 = .ok (.getfield 12, 3) := by decide +kernel
theorem dX2_slotNumber_104 : decode cX2_slotNumber 104 = .ok (.iload_n 1, 1) := by decide +kernel
theorem dX2_slotNumber_105 : decode cX2_slotNumber 105 = .ok (.invokevirtual 190, 3) := by decide +kernel
theorem dX2_slotNumber_108 : decode cX2_slotNumber 108 = .ok (.ifCond .eq 7, 3) := by decide +kernel
theorem dX2_slotNumber_111 : decode cX2_slotNumber 111 = .ok (.iconst 1, 1) := by decide +kernel
theorem dX2_slotNumber_112 : decode cX2_slotNumber 112 = .ok (.goto 4, 3) := by decide +kernel
theorem dX2_slotNumber_115 : decode cX2_slotNumber 115 = .ok (.iconst 0, 1) := by decide +kernel
theorem dX2_slotNumber_116 : decode cX2_slotNumber 116 = .ok (.ireturn, 1) := by decide +kernel
theorem dX2_slotNumber_117 : decode cX2_slotNumber 117 = .ok (.aload_n 0, 1) := by decide +kernel
theorem dX2_slotNumber_118 : decode cX2_slotNumber 118 = .ok (.getfield 28, 3) := by decide +kernel
theorem dX2_slotNumber_121 : decode cX2_slotNumber 121 = .ok (.iload_n 1, 1) := by decide +kernel
theorem dX2_slotNumber_122 : decode cX2_slotNumber 122 = .ok (.iconst 0, 1) := by decide +kernel
theorem dX2_slotNumber_123 : decode cX2_slotNumber 123 = .ok (.invokevirtual 193, 3) := by decide +kernel
theorem dX2_slotNumber_126 : decode cX2_slotNumber 126 = .ok (.ireturn, 1) := by decide +kernel
theorem dX2_slotNumber_127 : decode cX2_slotNumber 127 = .ok (.aload_n 0, 1) := by decide +kernel
theorem dX2_slotNumber_128 : decode cX2_slotNumber 128 = .ok (.getfield 12, 3) := by decide +kernel
theorem dX2_slotNumber_131 : decode cX2_slotNumber 131 = .ok (.iload_n 1, 1) := by decide +kernel
theorem dX2_slotNumber_132 : decode cX2_slotNumber 132 = .ok (.invokevirtual 184, 3) := by decide +kernel
theorem dX2_slotNumber_135 : decode cX2_slotNumber 135 = .ok (.iconst 2, 1) := by decide +kernel
theorem dX2_slotNumber_136 : decode cX2_slotNumber 136 = .ok (.if_icmp .ne 15, 3) := by decide +kernel
theorem dX2_slotNumber_139 : decode cX2_slotNumber 139 = .ok (.aload_n 0, 1) := by decide +kernel
theorem dX2_slotNumber_140 : decode cX2_slotNumber 140 = .ok (.getfield 28, 3) := by decide +kernel
theorem dX2_slotNumber_143 : decode cX2_slotNumber 143 = .ok (.iload_n 1, 1) := by decide +kernel
theorem dX2_slotNumber_144 : decode cX2_slotNumber 144 = .ok (.iconst 1, 1) := by decide +kernel
theorem dX2_slotNumber_145 : decode cX2_slotNumber 145 = .ok (.invokevirtual 193, 3) := by decide +kernel
theorem dX2_slotNumber_148 : decode cX2_slotNumber 148 = .ok (.goto 4, 3) := by decide +kernel
theorem dX2_slotNumber_151 : decode cX2_slotNumber 151 = .ok (.iconst (-1), 1) := by decide +kernel
theorem dX2_slotNumber_152 : decode cX2_slotNumber 152 = .ok (.ireturn, 1) := by decide +kernel
theorem dX2_slotNumber_153 : decode cX2_slotNumber 153 = .ok (.aload_n 0, 1) := by decide +kernel
theorem dX2_slotNumber_154 : decode cX2_slotNumber 154 = .ok (.getfield 12, 3) := by decide +kernel
theorem dX2_slotNumber_157 : decode cX2_slotNumber 157 = .ok (.iload_n 1, 1) := by decide +kernel
theorem dX2_slotNumber_158 : decode cX2_slotNumber 158 = .ok (.invokevirtual 196, 3) := by decide +kernel
theorem dX2_slotNumber_161 : decode cX2_slotNumber 161 = .ok (.ireturn, 1) := by decide +kernel
theorem dX2_blockNumber_0 : decode cX2_blockNumber 0 = .ok (.iload_n 2, 1) := by decide +kernel
theorem dX2_blockNumber_1 : decode cX2_blockNumber 1 = .ok (.tableswitch 127 0 5 #[39, 48, 57, 78, 109, 118], 39) := by decide +kernel
theorem dX2_blockNumber_40 : decode cX2_blockNumber 40 = .ok (.aload_n 0, 1) := by decide +kernel
theorem dX2_blockNumber_41 : decode cX2_blockNumber 41 = .ok (.getfield 21, 3) := by decide +kernel
theorem dX2_blockNumber_44 : decode cX2_blockNumber 44 = .ok (.iload_n 1, 1) := by decide +kernel
theorem dX2_blockNumber_45 : decode cX2_blockNumber 45 = .ok (.invokevirtual 117, 3) := by decide +kernel
theorem dX2_blockNumber_48 : decode cX2_blockNumber 48 = .ok (.ireturn, 1) := by decide +kernel
theorem dX2_blockNumber_49 : decode cX2_blockNumber 49 = .ok (.aload_n 0, 1) := by decide +kernel
theorem dX2_blockNumber_50 : decode cX2_blockNumber 50 = .ok (.getfield 21, 3) := by decide +kernel
theorem dX2_blockNumber_53 : decode cX2_blockNumber 53 = .ok (.iload_n 1, 1) := by decide +kernel
theorem dX2_blockNumber_54 : decode cX2_blockNumber 54 = .ok (.invokevirtual 126, 3) := by decide +kernel
theorem dX2_blockNumber_57 : decode cX2_blockNumber 57 = .ok (.ireturn, 1) := by decide +kernel
theorem dX2_blockNumber_58 : decode cX2_blockNumber 58 = .ok (.aload_n 0, 1) := by decide +kernel
theorem dX2_blockNumber_59 : decode cX2_blockNumber 59 = .ok (.aload_n 0, 1) := by decide +kernel
theorem dX2_blockNumber_60 : decode cX2_blockNumber 60 = .ok (.getfield 21, 3) := by decide +kernel
theorem dX2_blockNumber_63 : decode cX2_blockNumber 63 = .ok (.iload_n 1, 1) := by decide +kernel
theorem dX2_blockNumber_64 : decode cX2_blockNumber 64 = .ok (.invokevirtual 117, 3) := by decide +kernel
theorem dX2_blockNumber_67 : decode cX2_blockNumber 67 = .ok (.aload_n 0, 1) := by decide +kernel
theorem dX2_blockNumber_68 : decode cX2_blockNumber 68 = .ok (.getfield 21, 3) := by decide +kernel
theorem dX2_blockNumber_71 : decode cX2_blockNumber 71 = .ok (.iload_n 1, 1) := by decide +kernel
theorem dX2_blockNumber_72 : decode cX2_blockNumber 72 = .ok (.invokevirtual 126, 3) := by decide +kernel
theorem dX2_blockNumber_75 : decode cX2_blockNumber 75 = .ok (.invokevirtual 199, 3) := by decide +kernel
theorem dX2_blockNumber_78 : decode cX2_blockNumber 78 = .ok (.ireturn, 1) := by decide +kernel
theorem dX2_blockNumber_79 : decode cX2_blockNumber 79 = .ok (.aload_n 0, 1) := by decide +kernel
theorem dX2_blockNumber_80 : decode cX2_blockNumber 80 = .ok (.getfield 21, 3) := by decide +kernel
theorem dX2_blockNumber_83 : decode cX2_blockNumber 83 = .ok (.invokevirtual 202, 3) := by decide +kernel
theorem dX2_blockNumber_86 : decode cX2_blockNumber 86 = .ok (.ifCond .eq 7, 3) := by decide +kernel
theorem dX2_blockNumber_89 : decode cX2_blockNumber 89 = .ok (.iconst 2, 1) := by decide +kernel
theorem dX2_blockNumber_90 : decode cX2_blockNumber 90 = .ok (.goto 19, 3) := by decide +kernel
theorem dX2_blockNumber_93 : decode cX2_blockNumber 93 = .ok (.aload_n 0, 1) := by decide +kernel
theorem dX2_blockNumber_94 : decode cX2_blockNumber 94 = .ok (.getfield 21, 3) := by decide +kernel
theorem dX2_blockNumber_97 : decode cX2_blockNumber 97 = .ok (.iload_n 1, 1) := by decide +kernel
theorem dX2_blockNumber_98 : decode cX2_blockNumber 98 = .ok (.invokevirtual 206, 3) := by decide +kernel
theorem dX2_blockNumber_101 : decode cX2_blockNumber 101 = .ok (.ifCond .eq 7, 3) := by decide +kernel
theorem dX2_blockNumber_104 : decode cX2_blockNumber 104 = .ok (.iconst 1, 1) := by decide +kernel
theorem dX2_blockNumber_105 : decode cX2_blockNumber 105 = .ok (.goto 4, 3) := by decide +kernel
theorem dX2_blockNumber_108 : decode cX2_blockNumber 108 = .ok (.iconst 0, 1) := by decide +kernel
theorem dX2_blockNumber_109 : decode cX2_blockNumber 109 = .ok (.ireturn, 1) := by decide +kernel
theorem dX2_blockNumber_110 : decode cX2_blockNumber 110 = .ok (.aload_n 0, 1) := by decide +kernel
theorem dX2_blockNumber_111 : decode cX2_blockNumber 111 = .ok (.getfield 21, 3) := by decide +kernel
theorem dX2_blockNumber_114 : decode cX2_blockNumber 114 = .ok (.iload_n 1, 1) := by decide +kernel
theorem dX2_blockNumber_115 : decode cX2_blockNumber 115 = .ok (.invokevirtual 120, 3) := by decide +kernel
theorem dX2_blockNumber_118 : decode cX2_blockNumber 118 = .ok (.ireturn, 1) := by decide +kernel
theorem dX2_blockNumber_119 : decode cX2_blockNumber 119 = .ok (.aload_n 0, 1) := by decide +kernel
theorem dX2_blockNumber_120 : decode cX2_blockNumber 120 = .ok (.getfield 21, 3) := by decide +kernel
theorem dX2_blockNumber_123 : decode cX2_blockNumber 123 = .ok (.iload_n 1, 1) := by decide +kernel
theorem dX2_blockNumber_124 : decode cX2_blockNumber 124 = .ok (.invokevirtual 123, 3) := by decide +kernel
theorem dX2_blockNumber_127 : decode cX2_blockNumber 127 = .ok (.ireturn, 1) := by decide +kernel
theorem dX2_blockNumber_128 : decode cX2_blockNumber 128 = .ok (.aload_n 0, 1) := by decide +kernel
theorem dX2_blockNumber_129 : decode cX2_blockNumber 129 = .ok (.iload_n 1, 1) := by decide +kernel
theorem dX2_blockNumber_130 : decode cX2_blockNumber 130 = .ok (.invokevirtual 162, 3) := by decide +kernel
theorem dX2_blockNumber_133 : decode cX2_blockNumber 133 = .ok (.ifCond .eq 7, 3) := by decide +kernel
theorem dX2_blockNumber_136 : decode cX2_blockNumber 136 = .ok (.iconst 1, 1) := by decide +kernel
theorem dX2_blockNumber_137 : decode cX2_blockNumber 137 = .ok (.goto 4, 3) := by decide +kernel
theorem dX2_blockNumber_140 : decode cX2_blockNumber 140 = .ok (.iconst 0, 1) := by decide +kernel
theorem dX2_blockNumber_141 : decode cX2_blockNumber 141 = .ok (.ireturn, 1) := by decide +kernel
theorem dX2_rankOrNone_0 : decode cX2_rankOrNone 0 = .ok (.aload_n 0, 1) := by decide +kernel
theorem dX2_rankOrNone_1 : decode cX2_rankOrNone 1 = .ok (.getfield 12, 3) := by decide +kernel
theorem dX2_rankOrNone_4 : decode cX2_rankOrNone 4 = .ok (.iload_n 1, 1) := by decide +kernel
theorem dX2_rankOrNone_5 : decode cX2_rankOrNone 5 = .ok (.invokevirtual 190, 3) := by decide +kernel
theorem dX2_rankOrNone_8 : decode cX2_rankOrNone 8 = .ok (.ifCond .eq 15, 3) := by decide +kernel
theorem dX2_rankOrNone_11 : decode cX2_rankOrNone 11 = .ok (.aload_n 0, 1) := by decide +kernel
theorem dX2_rankOrNone_12 : decode cX2_rankOrNone 12 = .ok (.getfield 12, 3) := by decide +kernel
theorem dX2_rankOrNone_15 : decode cX2_rankOrNone 15 = .ok (.iload_n 1, 1) := by decide +kernel
theorem dX2_rankOrNone_16 : decode cX2_rankOrNone 16 = .ok (.iload_n 2, 1) := by decide +kernel
theorem dX2_rankOrNone_17 : decode cX2_rankOrNone 17 = .ok (.invokevirtual 209, 3) := by decide +kernel
theorem dX2_rankOrNone_20 : decode cX2_rankOrNone 20 = .ok (.goto 4, 3) := by decide +kernel
theorem dX2_rankOrNone_23 : decode cX2_rankOrNone 23 = .ok (.iconst (-1), 1) := by decide +kernel
theorem dX2_rankOrNone_24 : decode cX2_rankOrNone 24 = .ok (.ireturn, 1) := by decide +kernel
theorem dX2_lostBlocks_0 : decode cX2_lostBlocks 0 = .ok (.iconst 0, 1) := by decide +kernel
theorem dX2_lostBlocks_1 : decode cX2_lostBlocks 1 = .ok (.istore_n 1, 1) := by decide +kernel
theorem dX2_lostBlocks_2 : decode cX2_lostBlocks 2 = .ok (.iconst 0, 1) := by decide +kernel
theorem dX2_lostBlocks_3 : decode cX2_lostBlocks 3 = .ok (.istore_n 2, 1) := by decide +kernel
theorem dX2_lostBlocks_4 : decode cX2_lostBlocks 4 = .ok (.iload_n 2, 1) := by decide +kernel
theorem dX2_lostBlocks_5 : decode cX2_lostBlocks 5 = .ok (.aload_n 0, 1) := by decide +kernel
theorem dX2_lostBlocks_6 : decode cX2_lostBlocks 6 = .ok (.getfield 21, 3) := by decide +kernel
theorem dX2_lostBlocks_9 : decode cX2_lostBlocks 9 = .ok (.getfield 101, 3) := by decide +kernel
theorem dX2_lostBlocks_12 : decode cX2_lostBlocks 12 = .ok (.if_icmp .ge 25, 3) := by decide +kernel
theorem dX2_lostBlocks_15 : decode cX2_lostBlocks 15 = .ok (.iload_n 1, 1) := by decide +kernel
theorem dX2_lostBlocks_16 : decode cX2_lostBlocks 16 = .ok (.aload_n 0, 1) := by decide +kernel
theorem dX2_lostBlocks_17 : decode cX2_lostBlocks 17 = .ok (.iload_n 2, 1) := by decide +kernel
theorem dX2_lostBlocks_18 : decode cX2_lostBlocks 18 = .ok (.invokevirtual 162, 3) := by decide +kernel
theorem dX2_lostBlocks_21 : decode cX2_lostBlocks 21 = .ok (.ifCond .eq 7, 3) := by decide +kernel
theorem dX2_lostBlocks_24 : decode cX2_lostBlocks 24 = .ok (.iconst 0, 1) := by decide +kernel
theorem dX2_lostBlocks_25 : decode cX2_lostBlocks 25 = .ok (.goto 4, 3) := by decide +kernel
theorem dX2_lostBlocks_28 : decode cX2_lostBlocks 28 = .ok (.iconst 1, 1) := by decide +kernel
theorem dX2_lostBlocks_29 : decode cX2_lostBlocks 29 = .ok (.iadd, 1) := by decide +kernel
theorem dX2_lostBlocks_30 : decode cX2_lostBlocks 30 = .ok (.istore_n 1, 1) := by decide +kernel
theorem dX2_lostBlocks_31 : decode cX2_lostBlocks 31 = .ok (.iinc 2 1, 3) := by decide +kernel
theorem dX2_lostBlocks_34 : decode cX2_lostBlocks 34 = .ok (.goto (-30), 3) := by decide +kernel
theorem dX2_lostBlocks_37 : decode cX2_lostBlocks 37 = .ok (.iload_n 1, 1) := by decide +kernel
theorem dX2_lostBlocks_38 : decode cX2_lostBlocks 38 = .ok (.ireturn, 1) := by decide +kernel
theorem dX2_sumOfValues_0 : decode cX2_sumOfValues 0 = .ok (.iconst 0, 1) := by decide +kernel
theorem dX2_sumOfValues_1 : decode cX2_sumOfValues 1 = .ok (.istore_n 1, 1) := by decide +kernel
theorem dX2_sumOfValues_2 : decode cX2_sumOfValues 2 = .ok (.iconst 0, 1) := by decide +kernel
theorem dX2_sumOfValues_3 : decode cX2_sumOfValues 3 = .ok (.istore_n 2, 1) := by decide +kernel
theorem dX2_sumOfValues_4 : decode cX2_sumOfValues 4 = .ok (.iload_n 2, 1) := by decide +kernel
theorem dX2_sumOfValues_5 : decode cX2_sumOfValues 5 = .ok (.aload_n 0, 1) := by decide +kernel
theorem dX2_sumOfValues_6 : decode cX2_sumOfValues 6 = .ok (.getfield 21, 3) := by decide +kernel
theorem dX2_sumOfValues_9 : decode cX2_sumOfValues 9 = .ok (.getfield 101, 3) := by decide +kernel
theorem dX2_sumOfValues_12 : decode cX2_sumOfValues 12 = .ok (.if_icmp .ge 29, 3) := by decide +kernel
theorem dX2_sumOfValues_15 : decode cX2_sumOfValues 15 = .ok (.iload_n 1, 1) := by decide +kernel
theorem dX2_sumOfValues_16 : decode cX2_sumOfValues 16 = .ok (.aload_n 0, 1) := by decide +kernel
theorem dX2_sumOfValues_17 : decode cX2_sumOfValues 17 = .ok (.iload_n 2, 1) := by decide +kernel
theorem dX2_sumOfValues_18 : decode cX2_sumOfValues 18 = .ok (.invokevirtual 162, 3) := by decide +kernel
theorem dX2_sumOfValues_21 : decode cX2_sumOfValues 21 = .ok (.ifCond .eq 11, 3) := by decide +kernel
theorem dX2_sumOfValues_24 : decode cX2_sumOfValues 24 = .ok (.aload_n 0, 1) := by decide +kernel
theorem dX2_sumOfValues_25 : decode cX2_sumOfValues 25 = .ok (.iload_n 2, 1) := by decide +kernel
theorem dX2_sumOfValues_26 : decode cX2_sumOfValues 26 = .ok (.invokevirtual 114, 3) := by decide +kernel
theorem dX2_sumOfValues_29 : decode cX2_sumOfValues 29 = .ok (.goto 4, 3) := by decide +kernel
theorem dX2_sumOfValues_32 : decode cX2_sumOfValues 32 = .ok (.iconst 0, 1) := by decide +kernel
theorem dX2_sumOfValues_33 : decode cX2_sumOfValues 33 = .ok (.iadd, 1) := by decide +kernel
theorem dX2_sumOfValues_34 : decode cX2_sumOfValues 34 = .ok (.istore_n 1, 1) := by decide +kernel
theorem dX2_sumOfValues_35 : decode cX2_sumOfValues 35 = .ok (.iinc 2 1, 3) := by decide +kernel
theorem dX2_sumOfValues_38 : decode cX2_sumOfValues 38 = .ok (.goto (-34), 3) := by decide +kernel
theorem dX2_sumOfValues_41 : decode cX2_sumOfValues 41 = .ok (.iload_n 1, 1) := by decide +kernel
theorem dX2_sumOfValues_42 : decode cX2_sumOfValues 42 = .ok (.ireturn, 1) := by decide +kernel
theorem dX3_init_0 : decode cX3_init 0 = .ok (.aload_n 0, 1) := by decide +kernel
theorem dX3_init_1 : decode cX3_init 1 = .ok (.invokespecial 3, 3) := by decide +kernel
theorem dX3_init_4 : decode cX3_init 4 = .ok (.aload_n 0, 1) := by decide +kernel
theorem dX3_init_5 : decode cX3_init 5 = .ok (.iconst 4, 1) := by decide +kernel
theorem dX3_init_6 : decode cX3_init 6 = .ok (.newarray .int, 2) := by decide +kernel
theorem dX3_init_8 : decode cX3_init 8 = .ok (.putfield 9, 3) := by decide +kernel
theorem dX3_init_11 : decode cX3_init 11 = .ok (.aload_n 0, 1) := by decide +kernel
theorem dX3_init_12 : decode cX3_init 12 = .ok (.iconst 4, 1) := by decide +kernel
theorem dX3_init_13 : decode cX3_init 13 = .ok (.newarray .int, 2) := by decide +kernel
theorem dX3_init_15 : decode cX3_init 15 = .ok (.putfield 15, 3) := by decide +kernel
theorem dX3_init_18 : decode cX3_init 18 = .ok (.aload_n 0, 1) := by decide +kernel
theorem dX3_init_19 : decode cX3_init 19 = .ok (.iconst 4, 1) := by decide +kernel
theorem dX3_init_20 : decode cX3_init 20 = .ok (.newarray .int, 2) := by decide +kernel
theorem dX3_init_22 : decode cX3_init 22 = .ok (.putfield 18, 3) := by decide +kernel
theorem dX3_init_25 : decode cX3_init 25 = .ok (.aload_n 0, 1) := by decide +kernel
theorem dX3_init_26 : decode cX3_init 26 = .ok (.iconst 4, 1) := by decide +kernel
theorem dX3_init_27 : decode cX3_init 27 = .ok (.newarray .int, 2) := by decide +kernel
theorem dX3_init_29 : decode cX3_init 29 = .ok (.putfield 21, 3) := by decide +kernel
theorem dX3_init_32 : decode cX3_init 32 = .ok (.aload_n 0, 1) := by decide +kernel
theorem dX3_init_33 : decode cX3_init 33 = .ok (.iconst 4, 1) := by decide +kernel
theorem dX3_init_34 : decode cX3_init 34 = .ok (.newarray .boolean, 2) := by decide +kernel
theorem dX3_init_36 : decode cX3_init 36 = .ok (.putfield 24, 3) := by decide +kernel
theorem dX3_init_39 : decode cX3_init 39 = .ok (.aload_n 0, 1) := by decide +kernel
theorem dX3_init_40 : decode cX3_init 40 = .ok (.iconst 4, 1) := by decide +kernel
theorem dX3_init_41 : decode cX3_init 41 = .ok (.newarray .boolean, 2) := by decide +kernel
theorem dX3_init_43 : decode cX3_init 43 = .ok (.putfield 28, 3) := by decide +kernel
theorem dX3_init_46 : decode cX3_init 46 = .ok (.return_, 1) := by decide +kernel
theorem dX3_copyFrom_0 : decode cX3_copyFrom 0 = .ok (.iconst 0, 1) := by decide +kernel
theorem dX3_copyFrom_1 : decode cX3_copyFrom 1 = .ok (.istore_n 2, 1) := by decide +kernel
theorem dX3_copyFrom_2 : decode cX3_copyFrom 2 = .ok (.iload_n 2, 1) := by decide +kernel
theorem dX3_copyFrom_3 : decode cX3_copyFrom 3 = .ok (.iconst 4, 1) := by decide +kernel
theorem dX3_copyFrom_4 : decode cX3_copyFrom 4 = .ok (.if_icmp .ge 81, 3) := by decide +kernel
theorem dX3_copyFrom_7 : decode cX3_copyFrom 7 = .ok (.aload_n 0, 1) := by decide +kernel
theorem dX3_copyFrom_8 : decode cX3_copyFrom 8 = .ok (.getfield 9, 3) := by decide +kernel
theorem dX3_copyFrom_11 : decode cX3_copyFrom 11 = .ok (.iload_n 2, 1) := by decide +kernel
theorem dX3_copyFrom_12 : decode cX3_copyFrom 12 = .ok (.aload_n 1, 1) := by decide +kernel
theorem dX3_copyFrom_13 : decode cX3_copyFrom 13 = .ok (.getfield 9, 3) := by decide +kernel
theorem dX3_copyFrom_16 : decode cX3_copyFrom 16 = .ok (.iload_n 2, 1) := by decide +kernel
theorem dX3_copyFrom_17 : decode cX3_copyFrom 17 = .ok (.iaload, 1) := by decide +kernel
theorem dX3_copyFrom_18 : decode cX3_copyFrom 18 = .ok (.iastore, 1) := by decide +kernel
theorem dX3_copyFrom_19 : decode cX3_copyFrom 19 = .ok (.aload_n 0, 1) := by decide +kernel
theorem dX3_copyFrom_20 : decode cX3_copyFrom 20 = .ok (.getfield 15, 3) := by decide +kernel
theorem dX3_copyFrom_23 : decode cX3_copyFrom 23 = .ok (.iload_n 2, 1) := by decide +kernel
theorem dX3_copyFrom_24 : decode cX3_copyFrom 24 = .ok (.aload_n 1, 1) := by decide +kernel
theorem dX3_copyFrom_25 : decode cX3_copyFrom 25 = .ok (.getfield 15, 3) := by decide +kernel
theorem dX3_copyFrom_28 : decode cX3_copyFrom 28 = .ok (.iload_n 2, 1) := by decide +kernel
theorem dX3_copyFrom_29 : decode cX3_copyFrom 29 = .ok (.iaload, 1) := by decide +kernel
theorem dX3_copyFrom_30 : decode cX3_copyFrom 30 = .ok (.iastore, 1) := by decide +kernel
theorem dX3_copyFrom_31 : decode cX3_copyFrom 31 = .ok (.aload_n 0, 1) := by decide +kernel
theorem dX3_copyFrom_32 : decode cX3_copyFrom 32 = .ok (.getfield 18, 3) := by decide +kernel
theorem dX3_copyFrom_35 : decode cX3_copyFrom 35 = .ok (.iload_n 2, 1) := by decide +kernel
theorem dX3_copyFrom_36 : decode cX3_copyFrom 36 = .ok (.aload_n 1, 1) := by decide +kernel
theorem dX3_copyFrom_37 : decode cX3_copyFrom 37 = .ok (.getfield 18, 3) := by decide +kernel
theorem dX3_copyFrom_40 : decode cX3_copyFrom 40 = .ok (.iload_n 2, 1) := by decide +kernel
theorem dX3_copyFrom_41 : decode cX3_copyFrom 41 = .ok (.iaload, 1) := by decide +kernel
theorem dX3_copyFrom_42 : decode cX3_copyFrom 42 = .ok (.iastore, 1) := by decide +kernel
theorem dX3_copyFrom_43 : decode cX3_copyFrom 43 = .ok (.aload_n 0, 1) := by decide +kernel
theorem dX3_copyFrom_44 : decode cX3_copyFrom 44 = .ok (.getfield 21, 3) := by decide +kernel
theorem dX3_copyFrom_47 : decode cX3_copyFrom 47 = .ok (.iload_n 2, 1) := by decide +kernel
theorem dX3_copyFrom_48 : decode cX3_copyFrom 48 = .ok (.aload_n 1, 1) := by decide +kernel
theorem dX3_copyFrom_49 : decode cX3_copyFrom 49 = .ok (.getfield 21, 3) := by decide +kernel
theorem dX3_copyFrom_52 : decode cX3_copyFrom 52 = .ok (.iload_n 2, 1) := by decide +kernel
theorem dX3_copyFrom_53 : decode cX3_copyFrom 53 = .ok (.iaload, 1) := by decide +kernel
theorem dX3_copyFrom_54 : decode cX3_copyFrom 54 = .ok (.iastore, 1) := by decide +kernel
theorem dX3_copyFrom_55 : decode cX3_copyFrom 55 = .ok (.aload_n 0, 1) := by decide +kernel
theorem dX3_copyFrom_56 : decode cX3_copyFrom 56 = .ok (.getfield 24, 3) := by decide +kernel
theorem dX3_copyFrom_59 : decode cX3_copyFrom 59 = .ok (.iload_n 2, 1) := by decide +kernel
theorem dX3_copyFrom_60 : decode cX3_copyFrom 60 = .ok (.aload_n 1, 1) := by decide +kernel
theorem dX3_copyFrom_61 : decode cX3_copyFrom 61 = .ok (.getfield 24, 3) := by decide +kernel
theorem dX3_copyFrom_64 : decode cX3_copyFrom 64 = .ok (.iload_n 2, 1) := by decide +kernel
theorem dX3_copyFrom_65 : decode cX3_copyFrom 65 = .ok (.baload, 1) := by decide +kernel
theorem dX3_copyFrom_66 : decode cX3_copyFrom 66 = .ok (.bastore, 1) := by decide +kernel
theorem dX3_copyFrom_67 : decode cX3_copyFrom 67 = .ok (.aload_n 0, 1) := by decide +kernel
theorem dX3_copyFrom_68 : decode cX3_copyFrom 68 = .ok (.getfield 28, 3) := by decide +kernel
theorem dX3_copyFrom_71 : decode cX3_copyFrom 71 = .ok (.iload_n 2, 1) := by decide +kernel
theorem dX3_copyFrom_72 : decode cX3_copyFrom 72 = .ok (.aload_n 1, 1) := by decide +kernel
theorem dX3_copyFrom_73 : decode cX3_copyFrom 73 = .ok (.getfield 28, 3) := by decide +kernel
theorem dX3_copyFrom_76 : decode cX3_copyFrom 76 = .ok (.iload_n 2, 1) := by decide +kernel
theorem dX3_copyFrom_77 : decode cX3_copyFrom 77 = .ok (.baload, 1) := by decide +kernel
theorem dX3_copyFrom_78 : decode cX3_copyFrom 78 = .ok (.bastore, 1) := by decide +kernel
theorem dX3_copyFrom_79 : decode cX3_copyFrom 79 = .ok (.iinc 2 1, 3) := by decide +kernel
theorem dX3_copyFrom_82 : decode cX3_copyFrom 82 = .ok (.goto (-80), 3) := by decide +kernel
theorem dX3_copyFrom_85 : decode cX3_copyFrom 85 = .ok (.return_, 1) := by decide +kernel
theorem dX3_put_0 : decode cX3_put 0 = .ok (.iload_n 1, 1) := by decide +kernel
theorem dX3_put_1 : decode cX3_put 1 = .ok (.invokestatic 31, 3) := by decide +kernel
theorem dX3_put_4 : decode cX3_put 4 = .ok (.ifCond .eq 46, 3) := by decide +kernel
theorem dX3_put_7 : decode cX3_put 7 = .ok (.aload_n 0, 1) := by decide +kernel
theorem dX3_put_8 : decode cX3_put 8 = .ok (.getfield 9, 3) := by decide +kernel
theorem dX3_put_11 : decode cX3_put 11 = .ok (.iload_n 1, 1) := by decide +kernel
theorem dX3_put_12 : decode cX3_put 12 = .ok (.iload_n 2, 1) := by decide +kernel
theorem dX3_put_13 : decode cX3_put 13 = .ok (.iastore, 1) := by decide +kernel
theorem dX3_put_14 : decode cX3_put 14 = .ok (.aload_n 0, 1) := by decide +kernel
theorem dX3_put_15 : decode cX3_put 15 = .ok (.getfield 15, 3) := by decide +kernel
theorem dX3_put_18 : decode cX3_put 18 = .ok (.iload_n 1, 1) := by decide +kernel
theorem dX3_put_19 : decode cX3_put 19 = .ok (.iload_n 3, 1) := by decide +kernel
theorem dX3_put_20 : decode cX3_put 20 = .ok (.iastore, 1) := by decide +kernel
theorem dX3_put_21 : decode cX3_put 21 = .ok (.aload_n 0, 1) := by decide +kernel
theorem dX3_put_22 : decode cX3_put 22 = .ok (.getfield 18, 3) := by decide +kernel
theorem dX3_put_25 : decode cX3_put 25 = .ok (.iload_n 1, 1) := by decide +kernel
theorem dX3_put_26 : decode cX3_put 26 = .ok (.iload 4, 2) := by decide +kernel
theorem dX3_put_28 : decode cX3_put 28 = .ok (.iastore, 1) := by decide +kernel
theorem dX3_put_29 : decode cX3_put 29 = .ok (.aload_n 0, 1) := by decide +kernel
theorem dX3_put_30 : decode cX3_put 30 = .ok (.getfield 21, 3) := by decide +kernel
theorem dX3_put_33 : decode cX3_put 33 = .ok (.iload_n 1, 1) := by decide +kernel
theorem dX3_put_34 : decode cX3_put 34 = .ok (.iconst 0, 1) := by decide +kernel
theorem dX3_put_35 : decode cX3_put 35 = .ok (.iastore, 1) := by decide +kernel
theorem dX3_put_36 : decode cX3_put 36 = .ok (.aload_n 0, 1) := by decide +kernel
theorem dX3_put_37 : decode cX3_put 37 = .ok (.getfield 24, 3) := by decide +kernel
theorem dX3_put_40 : decode cX3_put 40 = .ok (.iload_n 1, 1) := by decide +kernel
theorem dX3_put_41 : decode cX3_put 41 = .ok (.iconst 0, 1) := by decide +kernel
theorem dX3_put_42 : decode cX3_put 42 = .ok (.bastore, 1) := by decide +kernel
theorem dX3_put_43 : decode cX3_put 43 = .ok (.aload_n 0, 1) := by decide +kernel
theorem dX3_put_44 : decode cX3_put 44 = .ok (.getfield 28, 3) := by decide +kernel
theorem dX3_put_47 : decode cX3_put 47 = .ok (.iload_n 1, 1) := by decide +kernel
theorem dX3_put_48 : decode cX3_put 48 = .ok (.iconst 0, 1) := by decide +kernel
theorem dX3_put_49 : decode cX3_put 49 = .ok (.bastore, 1) := by decide +kernel
theorem dX3_put_50 : decode cX3_put 50 = .ok (.return_, 1) := by decide +kernel
theorem dX3_take_0 : decode cX3_take 0 = .ok (.aload_n 0, 1) := by decide +kernel
theorem dX3_take_1 : decode cX3_take 1 = .ok (.iload_n 1, 1) := by decide +kernel
theorem dX3_take_2 : decode cX3_take 2 = .ok (.iconst 0, 1) := by decide +kernel
theorem dX3_take_3 : decode cX3_take 3 = .ok (.iconst 0, 1) := by decide +kernel
theorem dX3_take_4 : decode cX3_take 4 = .ok (.iconst 0, 1) := by decide +kernel
theorem dX3_take_5 : decode cX3_take 5 = .ok (.invokevirtual 35, 3) := by decide +kernel
theorem dX3_take_8 : decode cX3_take 8 = .ok (.return_, 1) := by decide +kernel
theorem dX3_spoil_0 : decode cX3_spoil 0 = .ok (.iload_n 1, 1) := by decide +kernel
theorem dX3_spoil_1 : decode cX3_spoil 1 = .ok (.invokestatic 31, 3) := by decide +kernel
theorem dX3_spoil_4 : decode cX3_spoil 4 = .ok (.ifCond .eq 10, 3) := by decide +kernel
theorem dX3_spoil_7 : decode cX3_spoil 7 = .ok (.aload_n 0, 1) := by decide +kernel
theorem dX3_spoil_8 : decode cX3_spoil 8 = .ok (.getfield 24, 3) := by decide +kernel
theorem dX3_spoil_11 : decode cX3_spoil 11 = .ok (.iload_n 1, 1) := by decide +kernel
theorem dX3_spoil_12 : decode cX3_spoil 12 = .ok (.iconst 1, 1) := by decide +kernel
theorem dX3_spoil_13 : decode cX3_spoil 13 = .ok (.bastore, 1) := by decide +kernel
theorem dX3_spoil_14 : decode cX3_spoil 14 = .ok (.return_, 1) := by decide +kernel
theorem dX3_tellRead_0 : decode cX3_tellRead 0 = .ok (.iload_n 1, 1) := by decide +kernel
theorem dX3_tellRead_1 : decode cX3_tellRead 1 = .ok (.invokestatic 31, 3) := by decide +kernel
theorem dX3_tellRead_4 : decode cX3_tellRead 4 = .ok (.ifCond .eq 13, 3) := by decide +kernel
theorem dX3_tellRead_7 : decode cX3_tellRead 7 = .ok (.aload_n 0, 1) := by decide +kernel
theorem dX3_tellRead_8 : decode cX3_tellRead 8 = .ok (.getfield 21, 3) := by decide +kernel
theorem dX3_tellRead_11 : decode cX3_tellRead 11 = .ok (.iload_n 1, 1) := by decide +kernel
theorem dX3_tellRead_12 : decode cX3_tellRead 12 = .ok (.dup2, 1) := by decide +kernel
theorem dX3_tellRead_13 : decode cX3_tellRead 13 = .ok (.iaload, 1) := by decide +kernel
theorem dX3_tellRead_14 : decode cX3_tellRead 14 = .ok (.iconst 1, 1) := by decide +kernel
theorem dX3_tellRead_15 : decode cX3_tellRead 15 = .ok (.iadd, 1) := by decide +kernel
theorem dX3_tellRead_16 : decode cX3_tellRead 16 = .ok (.iastore, 1) := by decide +kernel
theorem dX3_tellRead_17 : decode cX3_tellRead 17 = .ok (.return_, 1) := by decide +kernel
theorem dX3_mapGoodOnes_0 : decode cX3_mapGoodOnes 0 = .ok (.iconst 0, 1) := by decide +kernel
theorem dX3_mapGoodOnes_1 : decode cX3_mapGoodOnes 1 = .ok (.istore_n 1, 1) := by decide +kernel
theorem dX3_mapGoodOnes_2 : decode cX3_mapGoodOnes 2 = .ok (.iload_n 1, 1) := by decide +kernel
theorem dX3_mapGoodOnes_3 : decode cX3_mapGoodOnes 3 = .ok (.iconst 4, 1) := by decide +kernel
theorem dX3_mapGoodOnes_4 : decode cX3_mapGoodOnes 4 = .ok (.if_icmp .ge 20, 3) := by decide +kernel
theorem dX3_mapGoodOnes_7 : decode cX3_mapGoodOnes 7 = .ok (.aload_n 0, 1) := by decide +kernel
theorem dX3_mapGoodOnes_8 : decode cX3_mapGoodOnes 8 = .ok (.getfield 28, 3) := by decide +kernel
theorem dX3_mapGoodOnes_11 : decode cX3_mapGoodOnes 11 = .ok (.iload_n 1, 1) := by decide +kernel
theorem dX3_mapGoodOnes_12 : decode cX3_mapGoodOnes 12 = .ok (.aload_n 0, 1) := by decide +kernel
theorem dX3_mapGoodOnes_13 : decode cX3_mapGoodOnes 13 = .ok (.iload_n 1, 1) := by decide +kernel
theorem dX3_mapGoodOnes_14 : decode cX3_mapGoodOnes 14 = .ok (.invokevirtual 39, 3) := by decide +kernel
theorem dX3_mapGoodOnes_17 : decode cX3_mapGoodOnes 17 = .ok (.bastore, 1) := by decide +kernel
theorem dX3_mapGoodOnes_18 : decode cX3_mapGoodOnes 18 = .ok (.iinc 1 1, 3) := by decide +kernel
theorem dX3_mapGoodOnes_21 : decode cX3_mapGoodOnes 21 = .ok (.goto (-19), 3) := by decide +kernel
theorem dX3_mapGoodOnes_24 : decode cX3_mapGoodOnes 24 = .ok (.return_, 1) := by decide +kernel
theorem dX3_unmapAll_0 : decode cX3_unmapAll 0 = .ok (.iconst 0, 1) := by decide +kernel
theorem dX3_unmapAll_1 : decode cX3_unmapAll 1 = .ok (.istore_n 1, 1) := by decide +kernel
theorem dX3_unmapAll_2 : decode cX3_unmapAll 2 = .ok (.iload_n 1, 1) := by decide +kernel
theorem dX3_unmapAll_3 : decode cX3_unmapAll 3 = .ok (.iconst 4, 1) := by decide +kernel
theorem dX3_unmapAll_4 : decode cX3_unmapAll 4 = .ok (.if_icmp .ge 16, 3) := by decide +kernel
theorem dX3_unmapAll_7 : decode cX3_unmapAll 7 = .ok (.aload_n 0, 1) := by decide +kernel
theorem dX3_unmapAll_8 : decode cX3_unmapAll 8 = .ok (.getfield 28, 3) := by decide +kernel
theorem dX3_unmapAll_11 : decode cX3_unmapAll 11 = .ok (.iload_n 1, 1) := by decide +kernel
theorem dX3_unmapAll_12 : decode cX3_unmapAll 12 = .ok (.iconst 0, 1) := by decide +kernel
theorem dX3_unmapAll_13 : decode cX3_unmapAll 13 = .ok (.bastore, 1) := by decide +kernel
theorem dX3_unmapAll_14 : decode cX3_unmapAll 14 = .ok (.iinc 1 1, 3) := by decide +kernel
theorem dX3_unmapAll_17 : decode cX3_unmapAll 17 = .ok (.goto (-15), 3) := by decide +kernel
theorem dX3_unmapAll_20 : decode cX3_unmapAll 20 = .ok (.return_, 1) := by decide +kernel
theorem dX3_isPlugged_0 : decode cX3_isPlugged 0 = .ok (.aload_n 0, 1) := by decide +kernel
theorem dX3_isPlugged_1 : decode cX3_isPlugged 1 = .ok (.getfield 9, 3) := by decide +kernel
theorem dX3_isPlugged_4 : decode cX3_isPlugged 4 = .ok (.iload_n 1, 1) := by decide +kernel
theorem dX3_isPlugged_5 : decode cX3_isPlugged 5 = .ok (.invokestatic 42, 3) := by decide +kernel
theorem dX3_isPlugged_8 : decode cX3_isPlugged 8 = .ok (.ifCond .le 7, 3) := by decide +kernel
theorem dX3_isPlugged_11 : decode cX3_isPlugged 11 = .ok (.iconst 1, 1) := by decide +kernel
theorem dX3_isPlugged_12 : decode cX3_isPlugged 12 = .ok (.goto 4, 3) := by decide +kernel
theorem dX3_isPlugged_15 : decode cX3_isPlugged 15 = .ok (.iconst 0, 1) := by decide +kernel
theorem dX3_isPlugged_16 : decode cX3_isPlugged 16 = .ok (.ireturn, 1) := by decide +kernel
theorem dX3_hasFailed_0 : decode cX3_hasFailed 0 = .ok (.iload_n 1, 1) := by decide +kernel
theorem dX3_hasFailed_1 : decode cX3_hasFailed 1 = .ok (.invokestatic 31, 3) := by decide +kernel
theorem dX3_hasFailed_4 : decode cX3_hasFailed 4 = .ok (.ifCond .eq 16, 3) := by decide +kernel
theorem dX3_hasFailed_7 : decode cX3_hasFailed 7 = .ok (.aload_n 0, 1) := by decide +kernel
theorem dX3_hasFailed_8 : decode cX3_hasFailed 8 = .ok (.getfield 24, 3) := by decide +kernel
theorem dX3_hasFailed_11 : decode cX3_hasFailed 11 = .ok (.iload_n 1, 1) := by decide +kernel
theorem dX3_hasFailed_12 : decode cX3_hasFailed 12 = .ok (.baload, 1) := by decide +kernel
theorem dX3_hasFailed_13 : decode cX3_hasFailed 13 = .ok (.ifCond .eq 7, 3) := by decide +kernel
theorem dX3_hasFailed_16 : decode cX3_hasFailed 16 = .ok (.iconst 1, 1) := by decide +kernel
theorem dX3_hasFailed_17 : decode cX3_hasFailed 17 = .ok (.goto 4, 3) := by decide +kernel
theorem dX3_hasFailed_20 : decode cX3_hasFailed 20 = .ok (.iconst 0, 1) := by decide +kernel
theorem dX3_hasFailed_21 : decode cX3_hasFailed 21 = .ok (.ireturn, 1) := by decide +kernel
theorem dX3_isMapped_0 : decode cX3_isMapped 0 = .ok (.iload_n 1, 1) := by decide +kernel
theorem dX3_isMapped_1 : decode cX3_isMapped 1 = .ok (.invokestatic 31, 3) := by decide +kernel
theorem dX3_isMapped_4 : decode cX3_isMapped 4 = .ok (.ifCond .eq 16, 3) := by decide +kernel
theorem dX3_isMapped_7 : decode cX3_isMapped 7 = .ok (.aload_n 0, 1) := by decide +kernel
theorem dX3_isMapped_8 : decode cX3_isMapped 8 = .ok (.getfield 28, 3) := by decide +kernel
theorem dX3_isMapped_11 : decode cX3_isMapped 11 = .ok (.iload_n 1, 1) := by decide +kernel
theorem dX3_isMapped_12 : decode cX3_isMapped 12 = .ok (.baload, 1) := by decide +kernel
theorem dX3_isMapped_13 : decode cX3_isMapped 13 = .ok (.ifCond .eq 7, 3) := by decide +kernel
theorem dX3_isMapped_16 : decode cX3_isMapped 16 = .ok (.iconst 1, 1) := by decide +kernel
theorem dX3_isMapped_17 : decode cX3_isMapped 17 = .ok (.goto 4, 3) := by decide +kernel
theorem dX3_isMapped_20 : decode cX3_isMapped 20 = .ok (.iconst 0, 1) := by decide +kernel
theorem dX3_isMapped_21 : decode cX3_isMapped 21 = .ok (.ireturn, 1) := by decide +kernel
theorem dX3_isGood_0 : decode cX3_isGood 0 = .ok (.iload_n 1, 1) := by decide +kernel
theorem dX3_isGood_1 : decode cX3_isGood 1 = .ok (.invokestatic 31, 3) := by decide +kernel
theorem dX3_isGood_4 : decode cX3_isGood 4 = .ok (.ifCond .eq 25, 3) := by decide +kernel
theorem dX3_isGood_7 : decode cX3_isGood 7 = .ok (.aload_n 0, 1) := by decide +kernel
theorem dX3_isGood_8 : decode cX3_isGood 8 = .ok (.getfield 9, 3) := by decide +kernel
theorem dX3_isGood_11 : decode cX3_isGood 11 = .ok (.iload_n 1, 1) := by decide +kernel
theorem dX3_isGood_12 : decode cX3_isGood 12 = .ok (.iaload, 1) := by decide +kernel
theorem dX3_isGood_13 : decode cX3_isGood 13 = .ok (.ifCond .le 16, 3) := by decide +kernel
theorem dX3_isGood_16 : decode cX3_isGood 16 = .ok (.aload_n 0, 1) := by decide +kernel
theorem dX3_isGood_17 : decode cX3_isGood 17 = .ok (.getfield 24, 3) := by decide +kernel
theorem dX3_isGood_20 : decode cX3_isGood 20 = .ok (.iload_n 1, 1) := by decide +kernel
theorem dX3_isGood_21 : decode cX3_isGood 21 = .ok (.baload, 1) := by decide +kernel
theorem dX3_isGood_22 : decode cX3_isGood 22 = .ok (.ifCond .ne 7, 3) := by decide +kernel
theorem dX3_isGood_25 : decode cX3_isGood 25 = .ok (.iconst 1, 1) := by decide +kernel
theorem dX3_isGood_26 : decode cX3_isGood 26 = .ok (.goto 4, 3) := by decide +kernel
theorem dX3_isGood_29 : decode cX3_isGood 29 = .ok (.iconst 0, 1) := by decide +kernel
theorem dX3_isGood_30 : decode cX3_isGood 30 = .ok (.ireturn, 1) := by decide +kernel
theorem dX3_isLeft_0 : decode cX3_isLeft 0 = .ok (.iload_n 1, 1) := by decide +kernel
theorem dX3_isLeft_1 : decode cX3_isLeft 1 = .ok (.invokestatic 31, 3) := by decide +kernel
theorem dX3_isLeft_4 : decode cX3_isLeft 4 = .ok (.ifCond .eq 25, 3) := by decide +kernel
theorem dX3_isLeft_7 : decode cX3_isLeft 7 = .ok (.aload_n 0, 1) := by decide +kernel
theorem dX3_isLeft_8 : decode cX3_isLeft 8 = .ok (.getfield 28, 3) := by decide +kernel
theorem dX3_isLeft_11 : decode cX3_isLeft 11 = .ok (.iload_n 1, 1) := by decide +kernel
theorem dX3_isLeft_12 : decode cX3_isLeft 12 = .ok (.baload, 1) := by decide +kernel
theorem dX3_isLeft_13 : decode cX3_isLeft 13 = .ok (.ifCond .eq 16, 3) := by decide +kernel
theorem dX3_isLeft_16 : decode cX3_isLeft 16 = .ok (.aload_n 0, 1) := by decide +kernel
theorem dX3_isLeft_17 : decode cX3_isLeft 17 = .ok (.getfield 24, 3) := by decide +kernel
theorem dX3_isLeft_20 : decode cX3_isLeft 20 = .ok (.iload_n 1, 1) := by decide +kernel
theorem dX3_isLeft_21 : decode cX3_isLeft 21 = .ok (.baload, 1) := by decide +kernel
theorem dX3_isLeft_22 : decode cX3_isLeft 22 = .ok (.ifCond .ne 7, 3) := by decide +kernel
theorem dX3_isLeft_25 : decode cX3_isLeft 25 = .ok (.iconst 1, 1) := by decide +kernel
theorem dX3_isLeft_26 : decode cX3_isLeft 26 = .ok (.goto 4, 3) := by decide +kernel
theorem dX3_isLeft_29 : decode cX3_isLeft 29 = .ok (.iconst 0, 1) := by decide +kernel
theorem dX3_isLeft_30 : decode cX3_isLeft 30 = .ok (.ireturn, 1) := by decide +kernel
theorem dX3_pluggedOnes_0 : decode cX3_pluggedOnes 0 = .ok (.iconst 0, 1) := by decide +kernel
theorem dX3_pluggedOnes_1 : decode cX3_pluggedOnes 1 = .ok (.istore_n 1, 1) := by decide +kernel
theorem dX3_pluggedOnes_2 : decode cX3_pluggedOnes 2 = .ok (.iconst 0, 1) := by decide +kernel
theorem dX3_pluggedOnes_3 : decode cX3_pluggedOnes 3 = .ok (.istore_n 2, 1) := by decide +kernel
theorem dX3_pluggedOnes_4 : decode cX3_pluggedOnes 4 = .ok (.iload_n 2, 1) := by decide +kernel
theorem dX3_pluggedOnes_5 : decode cX3_pluggedOnes 5 = .ok (.iconst 4, 1) := by decide +kernel
theorem dX3_pluggedOnes_6 : decode cX3_pluggedOnes 6 = .ok (.if_icmp .ge 25, 3) := by decide +kernel
theorem dX3_pluggedOnes_9 : decode cX3_pluggedOnes 9 = .ok (.iload_n 1, 1) := by decide +kernel
theorem dX3_pluggedOnes_10 : decode cX3_pluggedOnes 10 = .ok (.aload_n 0, 1) := by decide +kernel
theorem dX3_pluggedOnes_11 : decode cX3_pluggedOnes 11 = .ok (.iload_n 2, 1) := by decide +kernel
theorem dX3_pluggedOnes_12 : decode cX3_pluggedOnes 12 = .ok (.invokevirtual 46, 3) := by decide +kernel
theorem dX3_pluggedOnes_15 : decode cX3_pluggedOnes 15 = .ok (.ifCond .eq 7, 3) := by decide +kernel
theorem dX3_pluggedOnes_18 : decode cX3_pluggedOnes 18 = .ok (.iconst 1, 1) := by decide +kernel
theorem dX3_pluggedOnes_19 : decode cX3_pluggedOnes 19 = .ok (.goto 4, 3) := by decide +kernel
theorem dX3_pluggedOnes_22 : decode cX3_pluggedOnes 22 = .ok (.iconst 0, 1) := by decide +kernel
theorem dX3_pluggedOnes_23 : decode cX3_pluggedOnes 23 = .ok (.iadd, 1) := by decide +kernel
theorem dX3_pluggedOnes_24 : decode cX3_pluggedOnes 24 = .ok (.istore_n 1, 1) := by decide +kernel
theorem dX3_pluggedOnes_25 : decode cX3_pluggedOnes 25 = .ok (.iinc 2 1, 3) := by decide +kernel
theorem dX3_pluggedOnes_28 : decode cX3_pluggedOnes 28 = .ok (.goto (-24), 3) := by decide +kernel
theorem dX3_pluggedOnes_31 : decode cX3_pluggedOnes 31 = .ok (.iload_n 1, 1) := by decide +kernel
theorem dX3_pluggedOnes_32 : decode cX3_pluggedOnes 32 = .ok (.ireturn, 1) := by decide +kernel
theorem dX3_failedOnes_0 : decode cX3_failedOnes 0 = .ok (.iconst 0, 1) := by decide +kernel
theorem dX3_failedOnes_1 : decode cX3_failedOnes 1 = .ok (.istore_n 1, 1) := by decide +kernel
theorem dX3_failedOnes_2 : decode cX3_failedOnes 2 = .ok (.iconst 0, 1) := by decide +kernel
theorem dX3_failedOnes_3 : decode cX3_failedOnes 3 = .ok (.istore_n 2, 1) := by decide +kernel
theorem dX3_failedOnes_4 : decode cX3_failedOnes 4 = .ok (.iload_n 2, 1) := by decide +kernel
theorem dX3_failedOnes_5 : decode cX3_failedOnes 5 = .ok (.iconst 4, 1) := by decide +kernel
theorem dX3_failedOnes_6 : decode cX3_failedOnes 6 = .ok (.if_icmp .ge 25, 3) := by decide +kernel
theorem dX3_failedOnes_9 : decode cX3_failedOnes 9 = .ok (.iload_n 1, 1) := by decide +kernel
theorem dX3_failedOnes_10 : decode cX3_failedOnes 10 = .ok (.aload_n 0, 1) := by decide +kernel
theorem dX3_failedOnes_11 : decode cX3_failedOnes 11 = .ok (.iload_n 2, 1) := by decide +kernel
theorem dX3_failedOnes_12 : decode cX3_failedOnes 12 = .ok (.invokevirtual 49, 3) := by decide +kernel
theorem dX3_failedOnes_15 : decode cX3_failedOnes 15 = .ok (.ifCond .eq 7, 3) := by decide +kernel
theorem dX3_failedOnes_18 : decode cX3_failedOnes 18 = .ok (.iconst 1, 1) := by decide +kernel
theorem dX3_failedOnes_19 : decode cX3_failedOnes 19 = .ok (.goto 4, 3) := by decide +kernel
theorem dX3_failedOnes_22 : decode cX3_failedOnes 22 = .ok (.iconst 0, 1) := by decide +kernel
theorem dX3_failedOnes_23 : decode cX3_failedOnes 23 = .ok (.iadd, 1) := by decide +kernel
theorem dX3_failedOnes_24 : decode cX3_failedOnes 24 = .ok (.istore_n 1, 1) := by decide +kernel
theorem dX3_failedOnes_25 : decode cX3_failedOnes 25 = .ok (.iinc 2 1, 3) := by decide +kernel
theorem dX3_failedOnes_28 : decode cX3_failedOnes 28 = .ok (.goto (-24), 3) := by decide +kernel
theorem dX3_failedOnes_31 : decode cX3_failedOnes 31 = .ok (.iload_n 1, 1) := by decide +kernel
theorem dX3_failedOnes_32 : decode cX3_failedOnes 32 = .ok (.ireturn, 1) := by decide +kernel
theorem dX3_sizeIn_0 : decode cX3_sizeIn 0 = .ok (.aload_n 0, 1) := by decide +kernel
theorem dX3_sizeIn_1 : decode cX3_sizeIn 1 = .ok (.getfield 9, 3) := by decide +kernel
theorem dX3_sizeIn_4 : decode cX3_sizeIn 4 = .ok (.iload_n 1, 1) := by decide +kernel
theorem dX3_sizeIn_5 : decode cX3_sizeIn 5 = .ok (.invokestatic 42, 3) := by decide +kernel
theorem dX3_sizeIn_8 : decode cX3_sizeIn 8 = .ok (.ireturn, 1) := by decide +kernel
theorem dX3_ranksIn_0 : decode cX3_ranksIn 0 = .ok (.aload_n 0, 1) := by decide +kernel
theorem dX3_ranksIn_1 : decode cX3_ranksIn 1 = .ok (.getfield 15, 3) := by decide +kernel
theorem dX3_ranksIn_4 : decode cX3_ranksIn 4 = .ok (.iload_n 1, 1) := by decide +kernel
theorem dX3_ranksIn_5 : decode cX3_ranksIn 5 = .ok (.invokestatic 42, 3) := by decide +kernel
theorem dX3_ranksIn_8 : decode cX3_ranksIn 8 = .ok (.ireturn, 1) := by decide +kernel
theorem dX3_delayIn_0 : decode cX3_delayIn 0 = .ok (.aload_n 0, 1) := by decide +kernel
theorem dX3_delayIn_1 : decode cX3_delayIn 1 = .ok (.getfield 18, 3) := by decide +kernel
theorem dX3_delayIn_4 : decode cX3_delayIn 4 = .ok (.iload_n 1, 1) := by decide +kernel
theorem dX3_delayIn_5 : decode cX3_delayIn 5 = .ok (.invokestatic 42, 3) := by decide +kernel
theorem dX3_delayIn_8 : decode cX3_delayIn 8 = .ok (.ireturn, 1) := by decide +kernel
theorem dX3_readsIn_0 : decode cX3_readsIn 0 = .ok (.aload_n 0, 1) := by decide +kernel
theorem dX3_readsIn_1 : decode cX3_readsIn 1 = .ok (.getfield 21, 3) := by decide +kernel
theorem dX3_readsIn_4 : decode cX3_readsIn 4 = .ok (.iload_n 1, 1) := by decide +kernel
theorem dX3_readsIn_5 : decode cX3_readsIn 5 = .ok (.invokestatic 42, 3) := by decide +kernel
theorem dX3_readsIn_8 : decode cX3_readsIn 8 = .ok (.ireturn, 1) := by decide +kernel
theorem dX3_goodSizeIn_0 : decode cX3_goodSizeIn 0 = .ok (.aload_n 0, 1) := by decide +kernel
theorem dX3_goodSizeIn_1 : decode cX3_goodSizeIn 1 = .ok (.iload_n 1, 1) := by decide +kernel
theorem dX3_goodSizeIn_2 : decode cX3_goodSizeIn 2 = .ok (.invokevirtual 39, 3) := by decide +kernel
theorem dX3_goodSizeIn_5 : decode cX3_goodSizeIn 5 = .ok (.ifCond .eq 14, 3) := by decide +kernel
theorem dX3_goodSizeIn_8 : decode cX3_goodSizeIn 8 = .ok (.aload_n 0, 1) := by decide +kernel
theorem dX3_goodSizeIn_9 : decode cX3_goodSizeIn 9 = .ok (.getfield 9, 3) := by decide +kernel
theorem dX3_goodSizeIn_12 : decode cX3_goodSizeIn 12 = .ok (.iload_n 1, 1) := by decide +kernel
theorem dX3_goodSizeIn_13 : decode cX3_goodSizeIn 13 = .ok (.invokestatic 42, 3) := by decide +kernel
theorem dX3_goodSizeIn_16 : decode cX3_goodSizeIn 16 = .ok (.goto 4, 3) := by decide +kernel
theorem dX3_goodSizeIn_19 : decode cX3_goodSizeIn 19 = .ok (.iconst 0, 1) := by decide +kernel
theorem dX3_goodSizeIn_20 : decode cX3_goodSizeIn 20 = .ok (.ireturn, 1) := by decide +kernel
theorem dX3_rankOf_0 : decode cX3_rankOf 0 = .ok (.aload_n 0, 1) := by decide +kernel
theorem dX3_rankOf_1 : decode cX3_rankOf 1 = .ok (.getfield 15, 3) := by decide +kernel
theorem dX3_rankOf_4 : decode cX3_rankOf 4 = .ok (.iload_n 1, 1) := by decide +kernel
theorem dX3_rankOf_5 : decode cX3_rankOf 5 = .ok (.invokestatic 42, 3) := by decide +kernel
theorem dX3_rankOf_8 : decode cX3_rankOf 8 = .ok (.iconst 2, 1) := by decide +kernel
theorem dX3_rankOf_9 : decode cX3_rankOf 9 = .ok (.if_icmp .ne 9, 3) := by decide +kernel
theorem dX3_rankOf_12 : decode cX3_rankOf 12 = .ok (.iload_n 2, 1) := by decide +kernel
theorem dX3_rankOf_13 : decode cX3_rankOf 13 = .ok (.iconst 1, 1) := by decide +kernel
theorem dX3_rankOf_14 : decode cX3_rankOf 14 = .ok (.iand, 1) := by decide +kernel
theorem dX3_rankOf_15 : decode cX3_rankOf 15 = .ok (.goto 4, 3) := by decide +kernel
theorem dX3_rankOf_18 : decode cX3_rankOf 18 = .ok (.iconst 0, 1) := by decide +kernel
theorem dX3_rankOf_19 : decode cX3_rankOf 19 = .ok (.ireturn, 1) := by decide +kernel
theorem dX3_rankRow_0 : decode cX3_rankRow 0 = .ok (.iconst 2, 1) := by decide +kernel
theorem dX3_rankRow_1 : decode cX3_rankRow 1 = .ok (.iload_n 1, 1) := by decide +kernel
theorem dX3_rankRow_2 : decode cX3_rankRow 2 = .ok (.imul, 1) := by decide +kernel
theorem dX3_rankRow_3 : decode cX3_rankRow 3 = .ok (.aload_n 0, 1) := by decide +kernel
theorem dX3_rankRow_4 : decode cX3_rankRow 4 = .ok (.iload_n 1, 1) := by decide +kernel
theorem dX3_rankRow_5 : decode cX3_rankRow 5 = .ok (.iload_n 2, 1) := by decide +kernel
theorem dX3_rankRow_6 : decode cX3_rankRow 6 = .ok (.invokevirtual 52, 3) := by decide +kernel
theorem dX3_rankRow_9 : decode cX3_rankRow 9 = .ok (.iadd, 1) := by decide +kernel
theorem dX3_rankRow_10 : decode cX3_rankRow 10 = .ok (.ireturn, 1) := by decide +kernel
theorem dX3_hindrance_0 : decode cX3_hindrance 0 = .ok (.aload_n 0, 1) := by decide +kernel
theorem dX3_hindrance_1 : decode cX3_hindrance 1 = .ok (.iconst 0, 1) := by decide +kernel
theorem dX3_hindrance_2 : decode cX3_hindrance 2 = .ok (.invokevirtual 56, 3) := by decide +kernel
theorem dX3_hindrance_5 : decode cX3_hindrance 5 = .ok (.aload_n 0, 1) := by decide +kernel
theorem dX3_hindrance_6 : decode cX3_hindrance 6 = .ok (.iconst 1, 1) := by decide +kernel
theorem dX3_hindrance_7 : decode cX3_hindrance 7 = .ok (.invokevirtual 56, 3) := by decide +kernel
theorem dX3_hindrance_10 : decode cX3_hindrance 10 = .ok (.iadd, 1) := by decide +kernel
theorem dX3_hindrance_11 : decode cX3_hindrance 11 = .ok (.istore_n 2, 1) := by decide +kernel
theorem dX3_hindrance_12 : decode cX3_hindrance 12 = .ok (.aload_n 0, 1) := by decide +kernel
theorem dX3_hindrance_13 : decode cX3_hindrance 13 = .ok (.iconst 2, 1) := by decide +kernel
theorem dX3_hindrance_14 : decode cX3_hindrance 14 = .ok (.invokevirtual 56, 3) := by decide +kernel
theorem dX3_hindrance_17 : decode cX3_hindrance 17 = .ok (.aload_n 0, 1) := by decide +kernel
theorem dX3_hindrance_18 : decode cX3_hindrance 18 = .ok (.iconst 3, 1) := by decide +kernel
theorem dX3_hindrance_19 : decode cX3_hindrance 19 = .ok (.invokevirtual 56, 3) := by decide +kernel
theorem dX3_hindrance_22 : decode cX3_hindrance 22 = .ok (.iadd, 1) := by decide +kernel
theorem dX3_hindrance_23 : decode cX3_hindrance 23 = .ok (.istore_n 3, 1) := by decide +kernel
theorem dX3_hindrance_24 : decode cX3_hindrance 24 = .ok (.iload_n 2, 1) := by decide +kernel
theorem dX3_hindrance_25 : decode cX3_hindrance 25 = .ok (.iload_n 3, 1) := by decide +kernel
theorem dX3_hindrance_26 : decode cX3_hindrance 26 = .ok (.iadd, 1) := by decide +kernel
theorem dX3_hindrance_27 : decode cX3_hindrance 27 = .ok (.ifCond .ne 5, 3) := by decide +kernel
theorem dX3_hindrance_30 : decode cX3_hindrance 30 = .ok (.iconst 1, 1) := by decide +kernel
theorem dX3_hindrance_31 : decode cX3_hindrance 31 = .ok (.ireturn, 1) := by decide +kernel
theorem dX3_hindrance_32 : decode cX3_hindrance 32 = .ok (.iload_n 1, 1) := by decide +kernel
theorem dX3_hindrance_33 : decode cX3_hindrance 33 = .ok (.iconst 2, 1) := by decide +kernel
theorem dX3_hindrance_34 : decode cX3_hindrance 34 = .ok (.if_icmp .ne 15, 3) := by decide +kernel
theorem dX3_hindrance_37 : decode cX3_hindrance 37 = .ok (.iload_n 2, 1) := by decide +kernel
theorem dX3_hindrance_38 : decode cX3_hindrance 38 = .ok (.ifCond .eq 7, 3) := by decide +kernel
theorem dX3_hindrance_41 : decode cX3_hindrance 41 = .ok (.iload_n 3, 1) := by decide +kernel
theorem dX3_hindrance_42 : decode cX3_hindrance 42 = .ok (.ifCond .ne 7, 3) := by decide +kernel
theorem dX3_hindrance_45 : decode cX3_hindrance 45 = .ok (.iconst 2, 1) := by decide +kernel
theorem dX3_hindrance_46 : decode cX3_hindrance 46 = .ok (.goto 4, 3) := by decide +kernel
theorem dX3_hindrance_49 : decode cX3_hindrance 49 = .ok (.iconst 0, 1) := by decide +kernel
theorem dX3_hindrance_50 : decode cX3_hindrance 50 = .ok (.ireturn, 1) := by decide +kernel
theorem dX3_wideIfChanged_0 : decode cX3_wideIfChanged 0 = .ok (.iconst 0, 1) := by decide +kernel
theorem dX3_wideIfChanged_1 : decode cX3_wideIfChanged 1 = .ok (.istore_n 3, 1) := by decide +kernel
theorem dX3_wideIfChanged_2 : decode cX3_wideIfChanged 2 = .ok (.iconst 0, 1) := by decide +kernel
theorem dX3_wideIfChanged_3 : decode cX3_wideIfChanged 3 = .ok (.istore 4, 2) := by decide +kernel
theorem dX3_wideIfChanged_5 : decode cX3_wideIfChanged 5 = .ok (.iconst 0, 1) := by decide +kernel
theorem dX3_wideIfChanged_6 : decode cX3_wideIfChanged 6 = .ok (.istore 5, 2) := by decide +kernel
theorem dX3_wideIfChanged_8 : decode cX3_wideIfChanged 8 = .ok (.iload 5, 2) := by decide +kernel
theorem dX3_wideIfChanged_10 : decode cX3_wideIfChanged 10 = .ok (.iconst 4, 1) := by decide +kernel
theorem dX3_wideIfChanged_11 : decode cX3_wideIfChanged 11 = .ok (.if_icmp .ge 62, 3) := by decide +kernel
theorem dX3_wideIfChanged_14 : decode cX3_wideIfChanged 14 = .ok (.iload 5, 2) := by decide +kernel
theorem dX3_wideIfChanged_16 : decode cX3_wideIfChanged 16 = .ok (.iload_n 1, 1) := by decide +kernel
theorem dX3_wideIfChanged_17 : decode cX3_wideIfChanged 17 = .ok (.if_icmp .ne 7, 3) := by decide +kernel
theorem dX3_wideIfChanged_20 : decode cX3_wideIfChanged 20 = .ok (.iload_n 2, 1) := by decide +kernel
theorem dX3_wideIfChanged_21 : decode cX3_wideIfChanged 21 = .ok (.goto 15, 3) := by decide +kernel
theorem dX3_wideIfChanged_24 : decode cX3_wideIfChanged 24 = .ok (.iload 5, 2) := by decide +kernel
theorem dX3_wideIfChanged_26 : decode cX3_wideIfChanged 26 = .ok (.iload_n 2, 1) := by decide +kernel
theorem dX3_wideIfChanged_27 : decode cX3_wideIfChanged 27 = .ok (.if_icmp .ne 7, 3) := by decide +kernel
theorem dX3_wideIfChanged_30 : decode cX3_wideIfChanged 30 = .ok (.iload_n 1, 1) := by decide +kernel
theorem dX3_wideIfChanged_31 : decode cX3_wideIfChanged 31 = .ok (.goto 5, 3) := by decide +kernel
theorem dX3_wideIfChanged_34 : decode cX3_wideIfChanged 34 = .ok (.iload 5, 2) := by decide +kernel
theorem dX3_wideIfChanged_36 : decode cX3_wideIfChanged 36 = .ok (.istore 6, 2) := by decide +kernel
theorem dX3_wideIfChanged_38 : decode cX3_wideIfChanged 38 = .ok (.iload 5, 2) := by decide +kernel
theorem dX3_wideIfChanged_40 : decode cX3_wideIfChanged 40 = .ok (.iconst 2, 1) := by decide +kernel
theorem dX3_wideIfChanged_41 : decode cX3_wideIfChanged 41 = .ok (.if_icmp .ge 15, 3) := by decide +kernel
theorem dX3_wideIfChanged_44 : decode cX3_wideIfChanged 44 = .ok (.iload_n 3, 1) := by decide +kernel
theorem dX3_wideIfChanged_45 : decode cX3_wideIfChanged 45 = .ok (.aload_n 0, 1) := by decide +kernel
theorem dX3_wideIfChanged_46 : decode cX3_wideIfChanged 46 = .ok (.iload 6, 2) := by decide +kernel
theorem dX3_wideIfChanged_48 : decode cX3_wideIfChanged 48 = .ok (.invokevirtual 56, 3) := by decide +kernel
theorem dX3_wideIfChanged_51 : decode cX3_wideIfChanged 51 = .ok (.iadd, 1) := by decide +kernel
theorem dX3_wideIfChanged_52 : decode cX3_wideIfChanged 52 = .ok (.istore_n 3, 1) := by decide +kernel
theorem dX3_wideIfChanged_53 : decode cX3_wideIfChanged 53 = .ok (.goto 14, 3) := by decide +kernel
theorem dX3_wideIfChanged_56 : decode cX3_wideIfChanged 56 = .ok (.iload 4, 2) := by decide +kernel
theorem dX3_wideIfChanged_58 : decode cX3_wideIfChanged 58 = .ok (.aload_n 0, 1) := by decide +kernel
theorem dX3_wideIfChanged_59 : decode cX3_wideIfChanged 59 = .ok (.iload 6, 2) := by decide +kernel
theorem dX3_wideIfChanged_61 : decode cX3_wideIfChanged 61 = .ok (.invokevirtual 56, 3) := by decide +kernel
theorem dX3_wideIfChanged_64 : decode cX3_wideIfChanged 64 = .ok (.iadd, 1) := by decide +kernel
theorem dX3_wideIfChanged_65 : decode cX3_wideIfChanged 65 = .ok (.istore 4, 2) := by decide +kernel
theorem dX3_wideIfChanged_67 : decode cX3_wideIfChanged 67 = .ok (.iinc 5 1, 3) := by decide +kernel
theorem dX3_wideIfChanged_70 : decode cX3_wideIfChanged 70 = .ok (.goto (-62), 3) := by decide +kernel
theorem dX3_wideIfChanged_73 : decode cX3_wideIfChanged 73 = .ok (.iconst 2, 1) := by decide +kernel
theorem dX3_wideIfChanged_74 : decode cX3_wideIfChanged 74 = .ok (.iload_n 3, 1) := by decide +kernel
theorem dX3_wideIfChanged_75 : decode cX3_wideIfChanged 75 = .ok (.iload 4, 2) := by decide +kernel
theorem dX3_wideIfChanged_77 : decode cX3_wideIfChanged 77 = .ok (.invokestatic 60, 3) := by decide +kernel
theorem dX3_wideIfChanged_80 : decode cX3_wideIfChanged 80 = .ok (.imul, 1) := by decide +kernel
theorem dX3_wideIfChanged_81 : decode cX3_wideIfChanged 81 = .ok (.ireturn, 1) := by decide +kernel
theorem dX4_init_0 : decode cX4_init 0 = .ok (.aload_n 0, 1) := by decide +kernel
theorem dX4_init_1 : decode cX4_init 1 = .ok (.invokespecial 3, 3) := by decide +kernel
theorem dX4_init_4 : decode cX4_init 4 = .ok (.aload_n 0, 1) := by decide +kernel
theorem dX4_init_5 : decode cX4_init 5 = .ok (.bipush 60, 2) := by decide +kernel
theorem dX4_init_7 : decode cX4_init 7 = .ok (.newarray .int, 2) := by decide +kernel
theorem dX4_init_9 : decode cX4_init 9 = .ok (.putfield 9, 3) := by decide +kernel
theorem dX4_init_12 : decode cX4_init 12 = .ok (.aload_n 0, 1) := by decide +kernel
theorem dX4_init_13 : decode cX4_init 13 = .ok (.bipush 30, 2) := by decide +kernel
theorem dX4_init_15 : decode cX4_init 15 = .ok (.newarray .int, 2) := by decide +kernel
theorem dX4_init_17 : decode cX4_init 17 = .ok (.putfield 15, 3) := by decide +kernel
theorem dX4_init_20 : decode cX4_init 20 = .ok (.aload_n 0, 1) := by decide +kernel
theorem dX4_init_21 : decode cX4_init 21 = .ok (.bipush 30, 2) := by decide +kernel
theorem dX4_init_23 : decode cX4_init 23 = .ok (.newarray .int, 2) := by decide +kernel
theorem dX4_init_25 : decode cX4_init 25 = .ok (.putfield 18, 3) := by decide +kernel
theorem dX4_init_28 : decode cX4_init 28 = .ok (.return_, 1) := by decide +kernel
theorem dX5_init_0 : decode cX5_init 0 = .ok (.aload_n 0, 1) := by decide +kernel
theorem dX5_init_1 : decode cX5_init 1 = .ok (.invokespecial 3, 3) := by decide +kernel
theorem dX5_init_4 : decode cX5_init 4 = .ok (.aload_n 0, 1) := by decide +kernel
theorem dX5_init_5 : decode cX5_init 5 = .ok (.new 9, 3) := by decide +kernel
theorem dX5_init_8 : decode cX5_init 8 = .ok (.dup, 1) := by decide +kernel
theorem dX5_init_9 : decode cX5_init 9 = .ok (.invokespecial 11, 3) := by decide +kernel
theorem dX5_init_12 : decode cX5_init 12 = .ok (.putfield 12, 3) := by decide +kernel
theorem dX5_init_15 : decode cX5_init 15 = .ok (.aload_n 0, 1) := by decide +kernel
theorem dX5_init_16 : decode cX5_init 16 = .ok (.new 9, 3) := by decide +kernel
theorem dX5_init_19 : decode cX5_init 19 = .ok (.dup, 1) := by decide +kernel
theorem dX5_init_20 : decode cX5_init 20 = .ok (.invokespecial 11, 3) := by decide +kernel
theorem dX5_init_23 : decode cX5_init 23 = .ok (.putfield 16, 3) := by decide +kernel
theorem dX5_init_26 : decode cX5_init 26 = .ok (.aload_n 0, 1) := by decide +kernel
theorem dX5_init_27 : decode cX5_init 27 = .ok (.bipush 6, 2) := by decide +kernel
theorem dX5_init_29 : decode cX5_init 29 = .ok (.anewarray 9, 3) := by decide +kernel
theorem dX5_init_32 : decode cX5_init 32 = .ok (.putfield 19, 3) := by decide +kernel
theorem dX5_init_35 : decode cX5_init 35 = .ok (.iconst 0, 1) := by decide +kernel
theorem dX5_init_36 : decode cX5_init 36 = .ok (.istore_n 1, 1) := by decide +kernel
theorem dX5_init_37 : decode cX5_init 37 = .ok (.iload_n 1, 1) := by decide +kernel
theorem dX5_init_38 : decode cX5_init 38 = .ok (.bipush 6, 2) := by decide +kernel
theorem dX5_init_40 : decode cX5_init 40 = .ok (.if_icmp .ge 22, 3) := by decide +kernel
theorem dX5_init_43 : decode cX5_init 43 = .ok (.aload_n 0, 1) := by decide +kernel
theorem dX5_init_44 : decode cX5_init 44 = .ok (.getfield 19, 3) := by decide +kernel
theorem dX5_init_47 : decode cX5_init 47 = .ok (.iload_n 1, 1) := by decide +kernel
theorem dX5_init_48 : decode cX5_init 48 = .ok (.new 9, 3) := by decide +kernel
theorem dX5_init_51 : decode cX5_init 51 = .ok (.dup, 1) := by decide +kernel
theorem dX5_init_52 : decode cX5_init 52 = .ok (.invokespecial 11, 3) := by decide +kernel
theorem dX5_init_55 : decode cX5_init 55 = .ok (.aastore, 1) := by decide +kernel
theorem dX5_init_56 : decode cX5_init 56 = .ok (.iinc 1 1, 3) := by decide +kernel
theorem dX5_init_59 : decode cX5_init 59 = .ok (.goto (-22), 3) := by decide +kernel
theorem dX5_init_62 : decode cX5_init 62 = .ok (.aload_n 0, 1) := by decide +kernel
theorem dX5_init_63 : decode cX5_init 63 = .ok (.new 23, 3) := by decide +kernel
theorem dX5_init_66 : decode cX5_init 66 = .ok (.dup, 1) := by decide +kernel
theorem dX5_init_67 : decode cX5_init 67 = .ok (.invokespecial 25, 3) := by decide +kernel
theorem dX5_init_70 : decode cX5_init 70 = .ok (.putfield 26, 3) := by decide +kernel
theorem dX5_init_73 : decode cX5_init 73 = .ok (.aload_n 0, 1) := by decide +kernel
theorem dX5_init_74 : decode cX5_init 74 = .ok (.new 30, 3) := by decide +kernel
theorem dX5_init_77 : decode cX5_init 77 = .ok (.dup, 1) := by decide +kernel
theorem dX5_init_78 : decode cX5_init 78 = .ok (.invokespecial 32, 3) := by decide +kernel
theorem dX5_init_81 : decode cX5_init 81 = .ok (.putfield 33, 3) := by decide +kernel
theorem dX5_init_84 : decode cX5_init 84 = .ok (.aload_n 0, 1) := by decide +kernel
theorem dX5_init_85 : decode cX5_init 85 = .ok (.new 37, 3) := by decide +kernel
theorem dX5_init_88 : decode cX5_init 88 = .ok (.dup, 1) := by decide +kernel
theorem dX5_init_89 : decode cX5_init 89 = .ok (.invokespecial 39, 3) := by decide +kernel
theorem dX5_init_92 : decode cX5_init 92 = .ok (.putfield 40, 3) := by decide +kernel
theorem dX5_init_95 : decode cX5_init 95 = .ok (.return_, 1) := by decide +kernel
theorem dX5_plug_0 : decode cX5_plug 0 = .ok (.iload_n 1, 1) := by decide +kernel
theorem dX5_plug_1 : decode cX5_plug 1 = .ok (.invokestatic 44, 3) := by decide +kernel
theorem dX5_plug_4 : decode cX5_plug 4 = .ok (.ifCond .ne 13, 3) := by decide +kernel
theorem dX5_plug_7 : decode cX5_plug 7 = .ok (.new 48, 3) := by decide +kernel
theorem dX5_plug_10 : decode cX5_plug 10 = .ok (.dup, 1) := by decide +kernel
theorem dX5_plug_11 : decode cX5_plug 11 = .ok (.ldc 50, 2) := by decide +kernel
theorem dX5_plug_13 : decode cX5_plug 13 = .ok (.invokespecial 52, 3) := by decide +kernel
theorem dX5_plug_16 : decode cX5_plug 16 = .ok (.athrow, 1) := by decide +kernel
theorem dX5_plug_17 : decode cX5_plug 17 = .ok (.iload_n 2, 1) := by decide +kernel
theorem dX5_plug_18 : decode cX5_plug 18 = .ok (.iconst 1, 1) := by decide +kernel
theorem dX5_plug_19 : decode cX5_plug 19 = .ok (.bipush 12, 2) := by decide +kernel
theorem dX5_plug_21 : decode cX5_plug 21 = .ok (.invokestatic 55, 3) := by decide +kernel
theorem dX5_plug_24 : decode cX5_plug 24 = .ok (.ifCond .eq 23, 3) := by decide +kernel
theorem dX5_plug_27 : decode cX5_plug 27 = .ok (.iload_n 3, 1) := by decide +kernel
theorem dX5_plug_28 : decode cX5_plug 28 = .ok (.iconst 1, 1) := by decide +kernel
theorem dX5_plug_29 : decode cX5_plug 29 = .ok (.iconst 2, 1) := by decide +kernel
theorem dX5_plug_30 : decode cX5_plug 30 = .ok (.invokestatic 55, 3) := by decide +kernel
theorem dX5_plug_33 : decode cX5_plug 33 = .ok (.ifCond .eq 14, 3) := by decide +kernel
theorem dX5_plug_36 : decode cX5_plug 36 = .ok (.iload 4, 2) := by decide +kernel
theorem dX5_plug_38 : decode cX5_plug 38 = .ok (.iconst 1, 1) := by decide +kernel
theorem dX5_plug_39 : decode cX5_plug 39 = .ok (.bipush 9, 2) := by decide +kernel
theorem dX5_plug_41 : decode cX5_plug 41 = .ok (.invokestatic 55, 3) := by decide +kernel
theorem dX5_plug_44 : decode cX5_plug 44 = .ok (.ifCond .ne 13, 3) := by decide +kernel
theorem dX5_plug_47 : decode cX5_plug 47 = .ok (.new 59, 3) := by decide +kernel
theorem dX5_plug_50 : decode cX5_plug 50 = .ok (.dup, 1) := by decide +kernel
theorem dX5_plug_51 : decode cX5_plug 51 = .ok (.ldc 61, 2) := by decide +kernel
theorem dX5_plug_53 : decode cX5_plug 53 = .ok (.invokespecial 63, 3) := by decide +kernel
theorem dX5_plug_56 : decode cX5_plug 56 = .ok (.athrow, 1) := by decide +kernel
theorem dX5_plug_57 : decode cX5_plug 57 = .ok (.aload_n 0, 1) := by decide +kernel
theorem dX5_plug_58 : decode cX5_plug 58 = .ok (.getfield 12, 3) := by decide +kernel
theorem dX5_plug_61 : decode cX5_plug 61 = .ok (.getfield 64, 3) := by decide +kernel
theorem dX5_plug_64 : decode cX5_plug 64 = .ok (.iload_n 1, 1) := by decide +kernel
theorem dX5_plug_65 : decode cX5_plug 65 = .ok (.invokevirtual 68, 3) := by decide +kernel
theorem dX5_plug_68 : decode cX5_plug 68 = .ok (.ifCond .eq 13, 3) := by decide +kernel
theorem dX5_plug_71 : decode cX5_plug 71 = .ok (.new 73, 3) := by decide +kernel
theorem dX5_plug_74 : decode cX5_plug 74 = .ok (.dup, 1) := by decide +kernel
theorem dX5_plug_75 : decode cX5_plug 75 = .ok (.ldc 75, 2) := by decide +kernel
theorem dX5_plug_77 : decode cX5_plug 77 = .ok (.invokespecial 77, 3) := by decide +kernel
theorem dX5_plug_80 : decode cX5_plug 80 = .ok (.athrow, 1) := by decide +kernel
theorem dX5_plug_81 : decode cX5_plug 81 = .ok (.aload_n 0, 1) := by decide +kernel
theorem dX5_plug_82 : decode cX5_plug 82 = .ok (.invokevirtual 78, 3) := by decide +kernel
theorem dX5_plug_85 : decode cX5_plug 85 = .ok (.aload_n 0, 1) := by decide +kernel
theorem dX5_plug_86 : decode cX5_plug 86 = .ok (.getfield 12, 3) := by decide +kernel
theorem dX5_plug_89 : decode cX5_plug 89 = .ok (.getfield 64, 3) := by decide +kernel
theorem dX5_plug_92 : decode cX5_plug 92 = .ok (.iload_n 1, 1) := by decide +kernel
theorem dX5_plug_93 : decode cX5_plug 93 = .ok (.iload_n 2, 1) := by decide +kernel
theorem dX5_plug_94 : decode cX5_plug 94 = .ok (.iload_n 3, 1) := by decide +kernel
theorem dX5_plug_95 : decode cX5_plug 95 = .ok (.iload 4, 2) := by decide +kernel
theorem dX5_plug_97 : decode cX5_plug 97 = .ok (.invokevirtual 81, 3) := by decide +kernel
theorem dX5_plug_100 : decode cX5_plug 100 = .ok (.aload_n 0, 1) := by decide +kernel
theorem dX5_plug_101 : decode cX5_plug 101 = .ok (.getfield 12, 3) := by decide +kernel
theorem dX5_plug_104 : decode cX5_plug 104 = .ok (.getfield 85, 3) := by decide +kernel
theorem dX5_plug_107 : decode cX5_plug 107 = .ok (.iload_n 1, 1) := by decide +kernel
theorem dX5_plug_108 : decode cX5_plug 108 = .ok (.invokevirtual 88, 3) := by decide +kernel
theorem dX5_plug_111 : decode cX5_plug 111 = .ok (.aload_n 0, 1) := by decide +kernel
theorem dX5_plug_112 : decode cX5_plug 112 = .ok (.getfield 12, 3) := by decide +kernel
theorem dX5_plug_115 : decode cX5_plug 115 = .ok (.getfield 64, 3) := by decide +kernel
theorem dX5_plug_118 : decode cX5_plug 118 = .ok (.invokevirtual 92, 3) := by decide +kernel
theorem dX5_plug_121 : decode cX5_plug 121 = .ok (.ireturn, 1) := by decide +kernel
theorem dX5_pull_0 : decode cX5_pull 0 = .ok (.iload_n 1, 1) := by decide +kernel
theorem dX5_pull_1 : decode cX5_pull 1 = .ok (.invokestatic 44, 3) := by decide +kernel
theorem dX5_pull_4 : decode cX5_pull 4 = .ok (.ifCond .ne 13, 3) := by decide +kernel
theorem dX5_pull_7 : decode cX5_pull 7 = .ok (.new 48, 3) := by decide +kernel
theorem dX5_pull_10 : decode cX5_pull 10 = .ok (.dup, 1) := by decide +kernel
theorem dX5_pull_11 : decode cX5_pull 11 = .ok (.ldc 50, 2) := by decide +kernel
theorem dX5_pull_13 : decode cX5_pull 13 = .ok (.invokespecial 52, 3) := by decide +kernel
theorem dX5_pull_16 : decode cX5_pull 16 = .ok (.athrow, 1) := by decide +kernel
theorem dX5_pull_17 : decode cX5_pull 17 = .ok (.aload_n 0, 1) := by decide +kernel
theorem dX5_pull_18 : decode cX5_pull 18 = .ok (.getfield 12, 3) := by decide +kernel
theorem dX5_pull_21 : decode cX5_pull 21 = .ok (.getfield 64, 3) := by decide +kernel
theorem dX5_pull_24 : decode cX5_pull 24 = .ok (.iload_n 1, 1) := by decide +kernel
theorem dX5_pull_25 : decode cX5_pull 25 = .ok (.invokevirtual 68, 3) := by decide +kernel
theorem dX5_pull_28 : decode cX5_pull 28 = .ok (.ifCond .ne 13, 3) := by decide +kernel
theorem dX5_pull_31 : decode cX5_pull 31 = .ok (.new 73, 3) := by decide +kernel
theorem dX5_pull_34 : decode cX5_pull 34 = .ok (.dup, 1) := by decide +kernel
theorem dX5_pull_35 : decode cX5_pull 35 = .ok (.ldc 96, 2) := by decide +kernel
theorem dX5_pull_37 : decode cX5_pull 37 = .ok (.invokespecial 77, 3) := by decide +kernel
theorem dX5_pull_40 : decode cX5_pull 40 = .ok (.athrow, 1) := by decide +kernel
theorem dX5_pull_41 : decode cX5_pull 41 = .ok (.aload_n 0, 1) := by decide +kernel
theorem dX5_pull_42 : decode cX5_pull 42 = .ok (.invokevirtual 78, 3) := by decide +kernel
theorem dX5_pull_45 : decode cX5_pull 45 = .ok (.aload_n 0, 1) := by decide +kernel
theorem dX5_pull_46 : decode cX5_pull 46 = .ok (.getfield 12, 3) := by decide +kernel
theorem dX5_pull_49 : decode cX5_pull 49 = .ok (.iload_n 1, 1) := by decide +kernel
theorem dX5_pull_50 : decode cX5_pull 50 = .ok (.invokevirtual 98, 3) := by decide +kernel
theorem dX5_pull_53 : decode cX5_pull 53 = .ok (.istore_n 2, 1) := by decide +kernel
theorem dX5_pull_54 : decode cX5_pull 54 = .ok (.aload_n 0, 1) := by decide +kernel
theorem dX5_pull_55 : decode cX5_pull 55 = .ok (.getfield 12, 3) := by decide +kernel
theorem dX5_pull_58 : decode cX5_pull 58 = .ok (.getfield 64, 3) := by decide +kernel
theorem dX5_pull_61 : decode cX5_pull 61 = .ok (.iload_n 1, 1) := by decide +kernel
theorem dX5_pull_62 : decode cX5_pull 62 = .ok (.invokevirtual 102, 3) := by decide +kernel
theorem dX5_pull_65 : decode cX5_pull 65 = .ok (.iload_n 2, 1) := by decide +kernel
theorem dX5_pull_66 : decode cX5_pull 66 = .ok (.ireturn, 1) := by decide +kernel
theorem dX5_fail_0 : decode cX5_fail 0 = .ok (.iload_n 1, 1) := by decide +kernel
theorem dX5_fail_1 : decode cX5_fail 1 = .ok (.invokestatic 44, 3) := by decide +kernel
theorem dX5_fail_4 : decode cX5_fail 4 = .ok (.ifCond .ne 13, 3) := by decide +kernel
theorem dX5_fail_7 : decode cX5_fail 7 = .ok (.new 48, 3) := by decide +kernel
theorem dX5_fail_10 : decode cX5_fail 10 = .ok (.dup, 1) := by decide +kernel
theorem dX5_fail_11 : decode cX5_fail 11 = .ok (.ldc 50, 2) := by decide +kernel
theorem dX5_fail_13 : decode cX5_fail 13 = .ok (.invokespecial 52, 3) := by decide +kernel
theorem dX5_fail_16 : decode cX5_fail 16 = .ok (.athrow, 1) := by decide +kernel
theorem dX5_fail_17 : decode cX5_fail 17 = .ok (.aload_n 0, 1) := by decide +kernel
theorem dX5_fail_18 : decode cX5_fail 18 = .ok (.getfield 12, 3) := by decide +kernel
theorem dX5_fail_21 : decode cX5_fail 21 = .ok (.getfield 64, 3) := by decide +kernel
theorem dX5_fail_24 : decode cX5_fail 24 = .ok (.iload_n 1, 1) := by decide +kernel
theorem dX5_fail_25 : decode cX5_fail 25 = .ok (.invokevirtual 105, 3) := by decide +kernel
theorem dX5_fail_28 : decode cX5_fail 28 = .ok (.ifCond .ne 13, 3) := by decide +kernel
theorem dX5_fail_31 : decode cX5_fail 31 = .ok (.new 73, 3) := by decide +kernel
theorem dX5_fail_34 : decode cX5_fail 34 = .ok (.dup, 1) := by decide +kernel
theorem dX5_fail_35 : decode cX5_fail 35 = .ok (.ldc 108, 2) := by decide +kernel
theorem dX5_fail_37 : decode cX5_fail 37 = .ok (.invokespecial 77, 3) := by decide +kernel
theorem dX5_fail_40 : decode cX5_fail 40 = .ok (.athrow, 1) := by decide +kernel
theorem dX5_fail_41 : decode cX5_fail 41 = .ok (.aload_n 0, 1) := by decide +kernel
theorem dX5_fail_42 : decode cX5_fail 42 = .ok (.invokevirtual 78, 3) := by decide +kernel
theorem dX5_fail_45 : decode cX5_fail 45 = .ok (.aload_n 0, 1) := by decide +kernel
theorem dX5_fail_46 : decode cX5_fail 46 = .ok (.getfield 12, 3) := by decide +kernel
theorem dX5_fail_49 : decode cX5_fail 49 = .ok (.iload_n 1, 1) := by decide +kernel
theorem dX5_fail_50 : decode cX5_fail 50 = .ok (.invokevirtual 98, 3) := by decide +kernel
theorem dX5_fail_53 : decode cX5_fail 53 = .ok (.istore_n 2, 1) := by decide +kernel
theorem dX5_fail_54 : decode cX5_fail 54 = .ok (.aload_n 0, 1) := by decide +kernel
theorem dX5_fail_55 : decode cX5_fail 55 = .ok (.getfield 12, 3) := by decide +kernel
theorem dX5_fail_58 : decode cX5_fail 58 = .ok (.getfield 64, 3) := by decide +kernel
theorem dX5_fail_61 : decode cX5_fail 61 = .ok (.iload_n 1, 1) := by decide +kernel
theorem dX5_fail_62 : decode cX5_fail 62 = .ok (.invokevirtual 110, 3) := by decide +kernel
theorem dX5_fail_65 : decode cX5_fail 65 = .ok (.iload_n 2, 1) := by decide +kernel
theorem dX5_fail_66 : decode cX5_fail 66 = .ok (.ireturn, 1) := by decide +kernel
theorem dX5_start_0 : decode cX5_start 0 = .ok (.aload_n 0, 1) := by decide +kernel
theorem dX5_start_1 : decode cX5_start 1 = .ok (.getfield 12, 3) := by decide +kernel
theorem dX5_start_4 : decode cX5_start 4 = .ok (.getfield 64, 3) := by decide +kernel
theorem dX5_start_7 : decode cX5_start 7 = .ok (.aload_n 0, 1) := by decide +kernel
theorem dX5_start_8 : decode cX5_start 8 = .ok (.getfield 12, 3) := by decide +kernel
theorem dX5_start_11 : decode cX5_start 11 = .ok (.getfield 113, 3) := by decide +kernel
theorem dX5_start_14 : decode cX5_start 14 = .ok (.invokevirtual 117, 3) := by decide +kernel
theorem dX5_start_17 : decode cX5_start 17 = .ok (.ifCond .eq 13, 3) := by decide +kernel
theorem dX5_start_20 : decode cX5_start 20 = .ok (.new 73, 3) := by decide +kernel
theorem dX5_start_23 : decode cX5_start 23 = .ok (.dup, 1) := by decide +kernel
theorem dX5_start_24 : decode cX5_start 24 = .ok (.ldc 120, 2) := by decide +kernel
theorem dX5_start_26 : decode cX5_start 26 = .ok (.invokespecial 77, 3) := by decide +kernel
theorem dX5_start_29 : decode cX5_start 29 = .ok (.athrow, 1) := by decide +kernel
theorem dX5_start_30 : decode cX5_start 30 = .ok (.aload_n 0, 1) := by decide +kernel
theorem dX5_start_31 : decode cX5_start 31 = .ok (.invokevirtual 78, 3) := by decide +kernel
theorem dX5_start_34 : decode cX5_start 34 = .ok (.aload_n 0, 1) := by decide +kernel
theorem dX5_start_35 : decode cX5_start 35 = .ok (.getfield 12, 3) := by decide +kernel
theorem dX5_start_38 : decode cX5_start 38 = .ok (.invokevirtual 122, 3) := by decide +kernel
theorem dX5_start_41 : decode cX5_start 41 = .ok (.aload_n 0, 1) := by decide +kernel
theorem dX5_start_42 : decode cX5_start 42 = .ok (.getfield 12, 3) := by decide +kernel
theorem dX5_start_45 : decode cX5_start 45 = .ok (.getfield 125, 3) := by decide +kernel
theorem dX5_start_48 : decode cX5_start 48 = .ok (.getfield 128, 3) := by decide +kernel
theorem dX5_start_51 : decode cX5_start 51 = .ok (.ireturn, 1) := by decide +kernel
theorem dX5_stop_0 : decode cX5_stop 0 = .ok (.aload_n 0, 1) := by decide +kernel
theorem dX5_stop_1 : decode cX5_stop 1 = .ok (.getfield 12, 3) := by decide +kernel
theorem dX5_stop_4 : decode cX5_stop 4 = .ok (.getfield 125, 3) := by decide +kernel
theorem dX5_stop_7 : decode cX5_stop 7 = .ok (.invokevirtual 131, 3) := by decide +kernel
theorem dX5_stop_10 : decode cX5_stop 10 = .ok (.ifCond .ne 13, 3) := by decide +kernel
theorem dX5_stop_13 : decode cX5_stop 13 = .ok (.new 73, 3) := by decide +kernel
theorem dX5_stop_16 : decode cX5_stop 16 = .ok (.dup, 1) := by decide +kernel
theorem dX5_stop_17 : decode cX5_stop 17 = .ok (.ldc 135, 2) := by decide +kernel
theorem dX5_stop_19 : decode cX5_stop 19 = .ok (.invokespecial 77, 3) := by decide +kernel
theorem dX5_stop_22 : decode cX5_stop 22 = .ok (.athrow, 1) := by decide +kernel
theorem dX5_stop_23 : decode cX5_stop 23 = .ok (.aload_n 0, 1) := by decide +kernel
theorem dX5_stop_24 : decode cX5_stop 24 = .ok (.invokevirtual 78, 3) := by decide +kernel
theorem dX5_stop_27 : decode cX5_stop 27 = .ok (.aload_n 0, 1) := by decide +kernel
theorem dX5_stop_28 : decode cX5_stop 28 = .ok (.getfield 12, 3) := by decide +kernel
theorem dX5_stop_31 : decode cX5_stop 31 = .ok (.getfield 125, 3) := by decide +kernel
theorem dX5_stop_34 : decode cX5_stop 34 = .ok (.getfield 128, 3) := by decide +kernel
theorem dX5_stop_37 : decode cX5_stop 37 = .ok (.istore_n 1, 1) := by decide +kernel
theorem dX5_stop_38 : decode cX5_stop 38 = .ok (.aload_n 0, 1) := by decide +kernel
theorem dX5_stop_39 : decode cX5_stop 39 = .ok (.getfield 12, 3) := by decide +kernel
theorem dX5_stop_42 : decode cX5_stop 42 = .ok (.invokevirtual 137, 3) := by decide +kernel
theorem dX5_stop_45 : decode cX5_stop 45 = .ok (.iload_n 1, 1) := by decide +kernel
theorem dX5_stop_46 : decode cX5_stop 46 = .ok (.ireturn, 1) := by decide +kernel
theorem dX5_write_0 : decode cX5_write 0 = .ok (.aload_n 0, 1) := by decide +kernel
theorem dX5_write_1 : decode cX5_write 1 = .ok (.getfield 12, 3) := by decide +kernel
theorem dX5_write_4 : decode cX5_write 4 = .ok (.iload_n 1, 1) := by decide +kernel
theorem dX5_write_5 : decode cX5_write 5 = .ok (.invokevirtual 140, 3) := by decide +kernel
theorem dX5_write_8 : decode cX5_write 8 = .ok (.ifCond .ne 13, 3) := by decide +kernel
theorem dX5_write_11 : decode cX5_write 11 = .ok (.new 48, 3) := by decide +kernel
theorem dX5_write_14 : decode cX5_write 14 = .ok (.dup, 1) := by decide +kernel
theorem dX5_write_15 : decode cX5_write 15 = .ok (.ldc 143, 2) := by decide +kernel
theorem dX5_write_17 : decode cX5_write 17 = .ok (.invokespecial 52, 3) := by decide +kernel
theorem dX5_write_20 : decode cX5_write 20 = .ok (.athrow, 1) := by decide +kernel
theorem dX5_write_21 : decode cX5_write 21 = .ok (.iload_n 2, 1) := by decide +kernel
theorem dX5_write_22 : decode cX5_write 22 = .ok (.iconst 0, 1) := by decide +kernel
theorem dX5_write_23 : decode cX5_write 23 = .ok (.bipush 99, 2) := by decide +kernel
theorem dX5_write_25 : decode cX5_write 25 = .ok (.invokestatic 55, 3) := by decide +kernel
theorem dX5_write_28 : decode cX5_write 28 = .ok (.ifCond .ne 13, 3) := by decide +kernel
theorem dX5_write_31 : decode cX5_write 31 = .ok (.new 59, 3) := by decide +kernel
theorem dX5_write_34 : decode cX5_write 34 = .ok (.dup, 1) := by decide +kernel
theorem dX5_write_35 : decode cX5_write 35 = .ok (.ldc 145, 2) := by decide +kernel
theorem dX5_write_37 : decode cX5_write 37 = .ok (.invokespecial 63, 3) := by decide +kernel
theorem dX5_write_40 : decode cX5_write 40 = .ok (.athrow, 1) := by decide +kernel
theorem dX5_write_41 : decode cX5_write 41 = .ok (.aload_n 0, 1) := by decide +kernel
theorem dX5_write_42 : decode cX5_write 42 = .ok (.getfield 12, 3) := by decide +kernel
theorem dX5_write_45 : decode cX5_write 45 = .ok (.iload_n 1, 1) := by decide +kernel
theorem dX5_write_46 : decode cX5_write 46 = .ok (.invokevirtual 147, 3) := by decide +kernel
theorem dX5_write_49 : decode cX5_write 49 = .ok (.ifCond .ne 13, 3) := by decide +kernel
theorem dX5_write_52 : decode cX5_write 52 = .ok (.new 73, 3) := by decide +kernel
theorem dX5_write_55 : decode cX5_write 55 = .ok (.dup, 1) := by decide +kernel
theorem dX5_write_56 : decode cX5_write 56 = .ok (.ldc 150, 2) := by decide +kernel
theorem dX5_write_58 : decode cX5_write 58 = .ok (.invokespecial 77, 3) := by decide +kernel
theorem dX5_write_61 : decode cX5_write 61 = .ok (.athrow, 1) := by decide +kernel
theorem dX5_write_62 : decode cX5_write 62 = .ok (.aload_n 0, 1) := by decide +kernel
theorem dX5_write_63 : decode cX5_write 63 = .ok (.invokevirtual 78, 3) := by decide +kernel
theorem dX5_write_66 : decode cX5_write 66 = .ok (.aload_n 0, 1) := by decide +kernel
theorem dX5_write_67 : decode cX5_write 67 = .ok (.getfield 12, 3) := by decide +kernel
theorem dX5_write_70 : decode cX5_write 70 = .ok (.iload_n 1, 1) := by decide +kernel
theorem dX5_write_71 : decode cX5_write 71 = .ok (.iload_n 2, 1) := by decide +kernel
theorem dX5_write_72 : decode cX5_write 72 = .ok (.invokevirtual 152, 3) := by decide +kernel
theorem dX5_write_75 : decode cX5_write 75 = .ok (.ireturn, 1) := by decide +kernel
theorem dX5_read_0 : decode cX5_read 0 = .ok (.aload_n 0, 1) := by decide +kernel
theorem dX5_read_1 : decode cX5_read 1 = .ok (.getfield 12, 3) := by decide +kernel
theorem dX5_read_4 : decode cX5_read 4 = .ok (.iload_n 1, 1) := by decide +kernel
theorem dX5_read_5 : decode cX5_read 5 = .ok (.invokevirtual 140, 3) := by decide +kernel
theorem dX5_read_8 : decode cX5_read 8 = .ok (.ifCond .ne 13, 3) := by decide +kernel
theorem dX5_read_11 : decode cX5_read 11 = .ok (.new 48, 3) := by decide +kernel
theorem dX5_read_14 : decode cX5_read 14 = .ok (.dup, 1) := by decide +kernel
theorem dX5_read_15 : decode cX5_read 15 = .ok (.ldc 143, 2) := by decide +kernel
theorem dX5_read_17 : decode cX5_read 17 = .ok (.invokespecial 52, 3) := by decide +kernel
theorem dX5_read_20 : decode cX5_read 20 = .ok (.athrow, 1) := by decide +kernel
theorem dX5_read_21 : decode cX5_read 21 = .ok (.aload_n 0, 1) := by decide +kernel
theorem dX5_read_22 : decode cX5_read 22 = .ok (.getfield 12, 3) := by decide +kernel
theorem dX5_read_25 : decode cX5_read 25 = .ok (.iload_n 1, 1) := by decide +kernel
theorem dX5_read_26 : decode cX5_read 26 = .ok (.invokevirtual 147, 3) := by decide +kernel
theorem dX5_read_29 : decode cX5_read 29 = .ok (.ifCond .ne 13, 3) := by decide +kernel
theorem dX5_read_32 : decode cX5_read 32 = .ok (.new 73, 3) := by decide +kernel
theorem dX5_read_35 : decode cX5_read 35 = .ok (.dup, 1) := by decide +kernel
theorem dX5_read_36 : decode cX5_read 36 = .ok (.ldc 150, 2) := by decide +kernel
theorem dX5_read_38 : decode cX5_read 38 = .ok (.invokespecial 77, 3) := by decide +kernel
theorem dX5_read_41 : decode cX5_read 41 = .ok (.athrow, 1) := by decide +kernel
theorem dX5_read_42 : decode cX5_read 42 = .ok (.aload_n 0, 1) := by decide +kernel
theorem dX5_read_43 : decode cX5_read 43 = .ok (.invokevirtual 78, 3) := by decide +kernel
theorem dX5_read_46 : decode cX5_read 46 = .ok (.aload_n 0, 1) := by decide +kernel
theorem dX5_read_47 : decode cX5_read 47 = .ok (.getfield 12, 3) := by decide +kernel
theorem dX5_read_50 : decode cX5_read 50 = .ok (.iload_n 1, 1) := by decide +kernel
theorem dX5_read_51 : decode cX5_read 51 = .ok (.invokevirtual 156, 3) := by decide +kernel
theorem dX5_read_54 : decode cX5_read 54 = .ok (.ireturn, 1) := by decide +kernel
theorem dX5_rest_0 : decode cX5_rest 0 = .ok (.iload_n 1, 1) := by decide +kernel
theorem dX5_rest_1 : decode cX5_rest 1 = .ok (.iconst 1, 1) := by decide +kernel
theorem dX5_rest_2 : decode cX5_rest 2 = .ok (.bipush 99, 2) := by decide +kernel
theorem dX5_rest_4 : decode cX5_rest 4 = .ok (.invokestatic 55, 3) := by decide +kernel
theorem dX5_rest_7 : decode cX5_rest 7 = .ok (.ifCond .ne 13, 3) := by decide +kernel
theorem dX5_rest_10 : decode cX5_rest 10 = .ok (.new 59, 3) := by decide +kernel
theorem dX5_rest_13 : decode cX5_rest 13 = .ok (.dup, 1) := by decide +kernel
theorem dX5_rest_14 : decode cX5_rest 14 = .ok (.ldc 159, 2) := by decide +kernel
theorem dX5_rest_16 : decode cX5_rest 16 = .ok (.invokespecial 63, 3) := by decide +kernel
theorem dX5_rest_19 : decode cX5_rest 19 = .ok (.athrow, 1) := by decide +kernel
theorem dX5_rest_20 : decode cX5_rest 20 = .ok (.aload_n 0, 1) := by decide +kernel
theorem dX5_rest_21 : decode cX5_rest 21 = .ok (.invokevirtual 78, 3) := by decide +kernel
theorem dX5_rest_24 : decode cX5_rest 24 = .ok (.aload_n 0, 1) := by decide +kernel
theorem dX5_rest_25 : decode cX5_rest 25 = .ok (.getfield 12, 3) := by decide +kernel
theorem dX5_rest_28 : decode cX5_rest 28 = .ok (.getfield 85, 3) := by decide +kernel
theorem dX5_rest_31 : decode cX5_rest 31 = .ok (.iload_n 1, 1) := by decide +kernel
theorem dX5_rest_32 : decode cX5_rest 32 = .ok (.invokevirtual 161, 3) := by decide +kernel
theorem dX5_rest_35 : decode cX5_rest 35 = .ok (.aload_n 0, 1) := by decide +kernel
theorem dX5_rest_36 : decode cX5_rest 36 = .ok (.getfield 12, 3) := by decide +kernel
theorem dX5_rest_39 : decode cX5_rest 39 = .ok (.getfield 85, 3) := by decide +kernel
theorem dX5_rest_42 : decode cX5_rest 42 = .ok (.getfield 164, 3) := by decide +kernel
theorem dX5_rest_45 : decode cX5_rest 45 = .ok (.ireturn, 1) := by decide +kernel
theorem dX5_set_0 : decode cX5_set 0 = .ok (.iload_n 1, 1) := by decide +kernel
theorem dX5_set_1 : decode cX5_set 1 = .ok (.iconst 0, 1) := by decide +kernel
theorem dX5_set_2 : decode cX5_set 2 = .ok (.iconst 1, 1) := by decide +kernel
theorem dX5_set_3 : decode cX5_set 3 = .ok (.invokestatic 55, 3) := by decide +kernel
theorem dX5_set_6 : decode cX5_set 6 = .ok (.ifCond .ne 13, 3) := by decide +kernel
theorem dX5_set_9 : decode cX5_set 9 = .ok (.new 48, 3) := by decide +kernel
theorem dX5_set_12 : decode cX5_set 12 = .ok (.dup, 1) := by decide +kernel
theorem dX5_set_13 : decode cX5_set 13 = .ok (.ldc 167, 2) := by decide +kernel
theorem dX5_set_15 : decode cX5_set 15 = .ok (.invokespecial 52, 3) := by decide +kernel
theorem dX5_set_18 : decode cX5_set 18 = .ok (.athrow, 1) := by decide +kernel
theorem dX5_set_19 : decode cX5_set 19 = .ok (.iload_n 2, 1) := by decide +kernel
theorem dX5_set_20 : decode cX5_set 20 = .ok (.iconst 0, 1) := by decide +kernel
theorem dX5_set_21 : decode cX5_set 21 = .ok (.iload_n 1, 1) := by decide +kernel
theorem dX5_set_22 : decode cX5_set 22 = .ok (.ifCond .ne 7, 3) := by decide +kernel
theorem dX5_set_25 : decode cX5_set 25 = .ok (.iconst 2, 1) := by decide +kernel
theorem dX5_set_26 : decode cX5_set 26 = .ok (.goto 4, 3) := by decide +kernel
theorem dX5_set_29 : decode cX5_set 29 = .ok (.iconst 1, 1) := by decide +kernel
theorem dX5_set_30 : decode cX5_set 30 = .ok (.invokestatic 55, 3) := by decide +kernel
theorem dX5_set_33 : decode cX5_set 33 = .ok (.ifCond .ne 13, 3) := by decide +kernel
theorem dX5_set_36 : decode cX5_set 36 = .ok (.new 59, 3) := by decide +kernel
theorem dX5_set_39 : decode cX5_set 39 = .ok (.dup, 1) := by decide +kernel
theorem dX5_set_40 : decode cX5_set 40 = .ok (.ldc 169, 2) := by decide +kernel
theorem dX5_set_42 : decode cX5_set 42 = .ok (.invokespecial 63, 3) := by decide +kernel
theorem dX5_set_45 : decode cX5_set 45 = .ok (.athrow, 1) := by decide +kernel
theorem dX5_set_46 : decode cX5_set 46 = .ok (.aload_n 0, 1) := by decide +kernel
theorem dX5_set_47 : decode cX5_set 47 = .ok (.invokevirtual 78, 3) := by decide +kernel
theorem dX5_set_50 : decode cX5_set 50 = .ok (.aload_n 0, 1) := by decide +kernel
theorem dX5_set_51 : decode cX5_set 51 = .ok (.getfield 12, 3) := by decide +kernel
theorem dX5_set_54 : decode cX5_set 54 = .ok (.iload_n 1, 1) := by decide +kernel
theorem dX5_set_55 : decode cX5_set 55 = .ok (.iload_n 2, 1) := by decide +kernel
theorem dX5_set_56 : decode cX5_set 56 = .ok (.invokevirtual 171, 3) := by decide +kernel
theorem dX5_set_59 : decode cX5_set 59 = .ok (.ireturn, 1) := by decide +kernel
theorem dX5_undo_0 : decode cX5_undo 0 = .ok (.aload_n 0, 1) := by decide +kernel
theorem dX5_undo_1 : decode cX5_undo 1 = .ok (.getfield 212, 3) := by decide +kernel
theorem dX5_undo_4 : decode cX5_undo 4 = .ok (.iconst 1, 1) := by decide +kernel
theorem dX5_undo_5 : decode cX5_undo 5 = .ok (.if_icmp .lt 12, 3) := by decide +kernel
theorem dX5_undo_8 : decode cX5_undo 8 = .ok (.aload_n 0, 1) := by decide +kernel
theorem dX5_undo_9 : decode cX5_undo 9 = .ok (.getfield 212, 3) := by decide +kernel
theorem dX5_undo_12 : decode cX5_undo 12 = .ok (.bipush 6, 2) := by decide +kernel
theorem dX5_undo_14 : decode cX5_undo 14 = .ok (.if_icmp .le 13, 3) := by decide +kernel
theorem dX5_undo_17 : decode cX5_undo 17 = .ok (.new 73, 3) := by decide +kernel
theorem dX5_undo_20 : decode cX5_undo 20 = .ok (.dup, 1) := by decide +kernel
theorem dX5_undo_21 : decode cX5_undo 21 = .ok (.ldc 215, 2) := by decide +kernel
theorem dX5_undo_23 : decode cX5_undo 23 = .ok (.invokespecial 77, 3) := by decide +kernel
theorem dX5_undo_26 : decode cX5_undo 26 = .ok (.athrow, 1) := by decide +kernel
theorem dX5_undo_27 : decode cX5_undo 27 = .ok (.aload_n 0, 1) := by decide +kernel
theorem dX5_undo_28 : decode cX5_undo 28 = .ok (.dup, 1) := by decide +kernel
theorem dX5_undo_29 : decode cX5_undo 29 = .ok (.getfield 212, 3) := by decide +kernel
theorem dX5_undo_32 : decode cX5_undo 32 = .ok (.iconst 1, 1) := by decide +kernel
theorem dX5_undo_33 : decode cX5_undo 33 = .ok (.isub, 1) := by decide +kernel
theorem dX5_undo_34 : decode cX5_undo 34 = .ok (.putfield 212, 3) := by decide +kernel
theorem dX5_undo_37 : decode cX5_undo 37 = .ok (.aload_n 0, 1) := by decide +kernel
theorem dX5_undo_38 : decode cX5_undo 38 = .ok (.getfield 19, 3) := by decide +kernel
theorem dX5_undo_41 : decode cX5_undo 41 = .ok (.aload_n 0, 1) := by decide +kernel
theorem dX5_undo_42 : decode cX5_undo 42 = .ok (.getfield 212, 3) := by decide +kernel
theorem dX5_undo_45 : decode cX5_undo 45 = .ok (.aaload, 1) := by decide +kernel
theorem dX5_undo_46 : decode cX5_undo 46 = .ok (.astore_n 1, 1) := by decide +kernel
theorem dX5_undo_47 : decode cX5_undo 47 = .ok (.aload_n 1, 1) := by decide +kernel
theorem dX5_undo_48 : decode cX5_undo 48 = .ok (.ifnull 11, 3) := by decide +kernel
theorem dX5_undo_51 : decode cX5_undo 51 = .ok (.aload_n 0, 1) := by decide +kernel
theorem dX5_undo_52 : decode cX5_undo 52 = .ok (.getfield 12, 3) := by decide +kernel
theorem dX5_undo_55 : decode cX5_undo 55 = .ok (.aload_n 1, 1) := by decide +kernel
theorem dX5_undo_56 : decode cX5_undo 56 = .ok (.invokevirtual 202, 3) := by decide +kernel
theorem dX5_undo_59 : decode cX5_undo 59 = .ok (.aload_n 0, 1) := by decide +kernel
theorem dX5_undo_60 : decode cX5_undo 60 = .ok (.getfield 212, 3) := by decide +kernel
theorem dX5_undo_63 : decode cX5_undo 63 = .ok (.ireturn, 1) := by decide +kernel
theorem dX5_slot_0 : decode cX5_slot 0 = .ok (.iload_n 1, 1) := by decide +kernel
theorem dX5_slot_1 : decode cX5_slot 1 = .ok (.invokestatic 44, 3) := by decide +kernel
theorem dX5_slot_4 : decode cX5_slot 4 = .ok (.ifCond .ne 13, 3) := by decide +kernel
theorem dX5_slot_7 : decode cX5_slot 7 = .ok (.new 48, 3) := by decide +kernel
theorem dX5_slot_10 : decode cX5_slot 10 = .ok (.dup, 1) := by decide +kernel
theorem dX5_slot_11 : decode cX5_slot 11 = .ok (.ldc 50, 2) := by decide +kernel
theorem dX5_slot_13 : decode cX5_slot 13 = .ok (.invokespecial 52, 3) := by decide +kernel
theorem dX5_slot_16 : decode cX5_slot 16 = .ok (.athrow, 1) := by decide +kernel
theorem dX5_slot_17 : decode cX5_slot 17 = .ok (.iload_n 2, 1) := by decide +kernel
theorem dX5_slot_18 : decode cX5_slot 18 = .ok (.iconst 0, 1) := by decide +kernel
theorem dX5_slot_19 : decode cX5_slot 19 = .ok (.bipush 7, 2) := by decide +kernel
theorem dX5_slot_21 : decode cX5_slot 21 = .ok (.invokestatic 55, 3) := by decide +kernel
theorem dX5_slot_24 : decode cX5_slot 24 = .ok (.ifCond .ne 13, 3) := by decide +kernel
theorem dX5_slot_27 : decode cX5_slot 27 = .ok (.new 59, 3) := by decide +kernel
theorem dX5_slot_30 : decode cX5_slot 30 = .ok (.dup, 1) := by decide +kernel
theorem dX5_slot_31 : decode cX5_slot 31 = .ok (.ldc 217, 2) := by decide +kernel
theorem dX5_slot_33 : decode cX5_slot 33 = .ok (.invokespecial 63, 3) := by decide +kernel
theorem dX5_slot_36 : decode cX5_slot 36 = .ok (.athrow, 1) := by decide +kernel
theorem dX5_slot_37 : decode cX5_slot 37 = .ok (.aload_n 0, 1) := by decide +kernel
theorem dX5_slot_38 : decode cX5_slot 38 = .ok (.getfield 12, 3) := by decide +kernel
theorem dX5_slot_41 : decode cX5_slot 41 = .ok (.iload_n 1, 1) := by decide +kernel
theorem dX5_slot_42 : decode cX5_slot 42 = .ok (.iload_n 2, 1) := by decide +kernel
theorem dX5_slot_43 : decode cX5_slot 43 = .ok (.invokevirtual 219, 3) := by decide +kernel
theorem dX5_slot_46 : decode cX5_slot 46 = .ok (.ireturn, 1) := by decide +kernel
theorem dX5_where_0 : decode cX5_where 0 = .ok (.aload_n 0, 1) := by decide +kernel
theorem dX5_where_1 : decode cX5_where 1 = .ok (.getfield 12, 3) := by decide +kernel
theorem dX5_where_4 : decode cX5_where 4 = .ok (.iload_n 1, 1) := by decide +kernel
theorem dX5_where_5 : decode cX5_where 5 = .ok (.invokevirtual 140, 3) := by decide +kernel
theorem dX5_where_8 : decode cX5_where 8 = .ok (.ifCond .ne 13, 3) := by decide +kernel
theorem dX5_where_11 : decode cX5_where 11 = .ok (.new 48, 3) := by decide +kernel
theorem dX5_where_14 : decode cX5_where 14 = .ok (.dup, 1) := by decide +kernel
theorem dX5_where_15 : decode cX5_where 15 = .ok (.ldc 143, 2) := by decide +kernel
theorem dX5_where_17 : decode cX5_where 17 = .ok (.invokespecial 52, 3) := by decide +kernel
theorem dX5_where_20 : decode cX5_where 20 = .ok (.athrow, 1) := by decide +kernel
theorem dX5_where_21 : decode cX5_where 21 = .ok (.iload_n 2, 1) := by decide +kernel
theorem dX5_where_22 : decode cX5_where 22 = .ok (.iconst 0, 1) := by decide +kernel
theorem dX5_where_23 : decode cX5_where 23 = .ok (.bipush 6, 2) := by decide +kernel
theorem dX5_where_25 : decode cX5_where 25 = .ok (.invokestatic 55, 3) := by decide +kernel
theorem dX5_where_28 : decode cX5_where 28 = .ok (.ifCond .ne 13, 3) := by decide +kernel
theorem dX5_where_31 : decode cX5_where 31 = .ok (.new 59, 3) := by decide +kernel
theorem dX5_where_34 : decode cX5_where 34 = .ok (.dup, 1) := by decide +kernel
theorem dX5_where_35 : decode cX5_where 35 = .ok (.ldc 222, 2) := by decide +kernel
theorem dX5_where_37 : decode cX5_where 37 = .ok (.invokespecial 63, 3) := by decide +kernel
theorem dX5_where_40 : decode cX5_where 40 = .ok (.athrow, 1) := by decide +kernel
theorem dX5_where_41 : decode cX5_where 41 = .ok (.aload_n 0, 1) := by decide +kernel
theorem dX5_where_42 : decode cX5_where 42 = .ok (.getfield 12, 3) := by decide +kernel
theorem dX5_where_45 : decode cX5_where 45 = .ok (.iload_n 1, 1) := by decide +kernel
theorem dX5_where_46 : decode cX5_where 46 = .ok (.iload_n 2, 1) := by decide +kernel
theorem dX5_where_47 : decode cX5_where 47 = .ok (.invokevirtual 224, 3) := by decide +kernel
theorem dX5_where_50 : decode cX5_where 50 = .ok (.ireturn, 1) := by decide +kernel
theorem dX5_lies_0 : decode cX5_lies 0 = .ok (.iload_n 1, 1) := by decide +kernel
theorem dX5_lies_1 : decode cX5_lies 1 = .ok (.invokestatic 44, 3) := by decide +kernel
theorem dX5_lies_4 : decode cX5_lies 4 = .ok (.ifCond .eq 13, 3) := by decide +kernel
theorem dX5_lies_7 : decode cX5_lies 7 = .ok (.iload_n 2, 1) := by decide +kernel
theorem dX5_lies_8 : decode cX5_lies 8 = .ok (.iconst 0, 1) := by decide +kernel
theorem dX5_lies_9 : decode cX5_lies 9 = .ok (.bipush 11, 2) := by decide +kernel
theorem dX5_lies_11 : decode cX5_lies 11 = .ok (.invokestatic 55, 3) := by decide +kernel
theorem dX5_lies_14 : decode cX5_lies 14 = .ok (.ifCond .ne 13, 3) := by decide +kernel
theorem dX5_lies_17 : decode cX5_lies 17 = .ok (.new 48, 3) := by decide +kernel
theorem dX5_lies_20 : decode cX5_lies 20 = .ok (.dup, 1) := by decide +kernel
theorem dX5_lies_21 : decode cX5_lies 21 = .ok (.ldc 227, 2) := by decide +kernel
theorem dX5_lies_23 : decode cX5_lies 23 = .ok (.invokespecial 52, 3) := by decide +kernel
theorem dX5_lies_26 : decode cX5_lies 26 = .ok (.athrow, 1) := by decide +kernel
theorem dX5_lies_27 : decode cX5_lies 27 = .ok (.aload_n 0, 1) := by decide +kernel
theorem dX5_lies_28 : decode cX5_lies 28 = .ok (.getfield 12, 3) := by decide +kernel
theorem dX5_lies_31 : decode cX5_lies 31 = .ok (.getfield 125, 3) := by decide +kernel
theorem dX5_lies_34 : decode cX5_lies 34 = .ok (.iload_n 1, 1) := by decide +kernel
theorem dX5_lies_35 : decode cX5_lies 35 = .ok (.iload_n 2, 1) := by decide +kernel
theorem dX5_lies_36 : decode cX5_lies 36 = .ok (.invokevirtual 229, 3) := by decide +kernel
theorem dX5_lies_39 : decode cX5_lies 39 = .ok (.ireturn, 1) := by decide +kernel
theorem dX5_count_0 : decode cX5_count 0 = .ok (.iload_n 1, 1) := by decide +kernel
theorem dX5_count_1 : decode cX5_count 1 = .ok (.iconst 0, 1) := by decide +kernel
theorem dX5_count_2 : decode cX5_count 2 = .ok (.bipush 11, 2) := by decide +kernel
theorem dX5_count_4 : decode cX5_count 4 = .ok (.invokestatic 55, 3) := by decide +kernel
theorem dX5_count_7 : decode cX5_count 7 = .ok (.ifCond .ne 13, 3) := by decide +kernel
theorem dX5_count_10 : decode cX5_count 10 = .ok (.new 59, 3) := by decide +kernel
theorem dX5_count_13 : decode cX5_count 13 = .ok (.dup, 1) := by decide +kernel
theorem dX5_count_14 : decode cX5_count 14 = .ok (.ldc 232, 2) := by decide +kernel
theorem dX5_count_16 : decode cX5_count 16 = .ok (.invokespecial 63, 3) := by decide +kernel
theorem dX5_count_19 : decode cX5_count 19 = .ok (.athrow, 1) := by decide +kernel
theorem dX5_count_20 : decode cX5_count 20 = .ok (.aload_n 0, 1) := by decide +kernel
theorem dX5_count_21 : decode cX5_count 21 = .ok (.iload_n 1, 1) := by decide +kernel
theorem dX5_count_22 : decode cX5_count 22 = .ok (.invokevirtual 234, 3) := by decide +kernel
theorem dX5_count_25 : decode cX5_count 25 = .ok (.ireturn, 1) := by decide +kernel
theorem dX5_setting_0 : decode cX5_setting 0 = .ok (.iload_n 1, 1) := by decide +kernel
theorem dX5_setting_1 : decode cX5_setting 1 = .ok (.iconst 0, 1) := by decide +kernel
theorem dX5_setting_2 : decode cX5_setting 2 = .ok (.iconst 1, 1) := by decide +kernel
theorem dX5_setting_3 : decode cX5_setting 3 = .ok (.invokestatic 55, 3) := by decide +kernel
theorem dX5_setting_6 : decode cX5_setting 6 = .ok (.ifCond .ne 13, 3) := by decide +kernel
theorem dX5_setting_9 : decode cX5_setting 9 = .ok (.new 48, 3) := by decide +kernel
theorem dX5_setting_12 : decode cX5_setting 12 = .ok (.dup, 1) := by decide +kernel
theorem dX5_setting_13 : decode cX5_setting 13 = .ok (.ldc 167, 2) := by decide +kernel
theorem dX5_setting_15 : decode cX5_setting 15 = .ok (.invokespecial 52, 3) := by decide +kernel
theorem dX5_setting_18 : decode cX5_setting 18 = .ok (.athrow, 1) := by decide +kernel
theorem dX5_setting_19 : decode cX5_setting 19 = .ok (.aload_n 0, 1) := by decide +kernel
theorem dX5_setting_20 : decode cX5_setting 20 = .ok (.getfield 12, 3) := by decide +kernel
theorem dX5_setting_23 : decode cX5_setting 23 = .ok (.iload_n 1, 1) := by decide +kernel
theorem dX5_setting_24 : decode cX5_setting 24 = .ok (.invokevirtual 237, 3) := by decide +kernel
theorem dX5_setting_27 : decode cX5_setting 27 = .ok (.ireturn, 1) := by decide +kernel
theorem dX5_why_0 : decode cX5_why 0 = .ok (.aload_n 0, 1) := by decide +kernel
theorem dX5_why_1 : decode cX5_why 1 = .ok (.getfield 12, 3) := by decide +kernel
theorem dX5_why_4 : decode cX5_why 4 = .ok (.getfield 64, 3) := by decide +kernel
theorem dX5_why_7 : decode cX5_why 7 = .ok (.aload_n 0, 1) := by decide +kernel
theorem dX5_why_8 : decode cX5_why 8 = .ok (.getfield 12, 3) := by decide +kernel
theorem dX5_why_11 : decode cX5_why 11 = .ok (.getfield 113, 3) := by decide +kernel
theorem dX5_why_14 : decode cX5_why 14 = .ok (.invokevirtual 117, 3) := by decide +kernel
theorem dX5_why_17 : decode cX5_why 17 = .ok (.ireturn, 1) := by decide +kernel
theorem dX5_sweep_0 : decode cX5_sweep 0 = .ok (.iload_n 1, 1) := by decide +kernel
theorem dX5_sweep_1 : decode cX5_sweep 1 = .ok (.iconst 0, 1) := by decide +kernel
theorem dX5_sweep_2 : decode cX5_sweep 2 = .ok (.iconst 2, 1) := by decide +kernel
theorem dX5_sweep_3 : decode cX5_sweep 3 = .ok (.invokestatic 55, 3) := by decide +kernel
theorem dX5_sweep_6 : decode cX5_sweep 6 = .ok (.ifCond .ne 13, 3) := by decide +kernel
theorem dX5_sweep_9 : decode cX5_sweep 9 = .ok (.new 59, 3) := by decide +kernel
theorem dX5_sweep_12 : decode cX5_sweep 12 = .ok (.dup, 1) := by decide +kernel
theorem dX5_sweep_13 : decode cX5_sweep 13 = .ok (.ldc 240, 2) := by decide +kernel
theorem dX5_sweep_15 : decode cX5_sweep 15 = .ok (.invokespecial 63, 3) := by decide +kernel
theorem dX5_sweep_18 : decode cX5_sweep 18 = .ok (.athrow, 1) := by decide +kernel
theorem dX5_sweep_19 : decode cX5_sweep 19 = .ok (.aload_n 0, 1) := by decide +kernel
theorem dX5_sweep_20 : decode cX5_sweep 20 = .ok (.iload_n 1, 1) := by decide +kernel
theorem dX5_sweep_21 : decode cX5_sweep 21 = .ok (.invokevirtual 242, 3) := by decide +kernel
theorem dX5_sweep_24 : decode cX5_sweep 24 = .ok (.ireturn, 1) := by decide +kernel
theorem dX5_ifStarted_0 : decode cX5_ifStarted 0 = .ok (.iload_n 1, 1) := by decide +kernel
theorem dX5_ifStarted_1 : decode cX5_ifStarted 1 = .ok (.iconst 0, 1) := by decide +kernel
theorem dX5_ifStarted_2 : decode cX5_ifStarted 2 = .ok (.iconst 2, 1) := by decide +kernel
theorem dX5_ifStarted_3 : decode cX5_ifStarted 3 = .ok (.invokestatic 55, 3) := by decide +kernel
theorem dX5_ifStarted_6 : decode cX5_ifStarted 6 = .ok (.ifCond .eq 12, 3) := by decide +kernel
theorem dX5_ifStarted_9 : decode cX5_ifStarted 9 = .ok (.iload_n 2, 1) := by decide +kernel
theorem dX5_ifStarted_10 : decode cX5_ifStarted 10 = .ok (.iconst 0, 1) := by decide +kernel
theorem dX5_ifStarted_11 : decode cX5_ifStarted 11 = .ok (.iconst 1, 1) := by decide +kernel
theorem dX5_ifStarted_12 : decode cX5_ifStarted 12 = .ok (.invokestatic 55, 3) := by decide +kernel
theorem dX5_ifStarted_15 : decode cX5_ifStarted 15 = .ok (.ifCond .ne 13, 3) := by decide +kernel
theorem dX5_ifStarted_18 : decode cX5_ifStarted 18 = .ok (.new 59, 3) := by decide +kernel
theorem dX5_ifStarted_21 : decode cX5_ifStarted 21 = .ok (.dup, 1) := by decide +kernel
theorem dX5_ifStarted_22 : decode cX5_ifStarted 22 = .ok (.ldc 245, 2) := by decide +kernel
theorem dX5_ifStarted_24 : decode cX5_ifStarted 24 = .ok (.invokespecial 63, 3) := by decide +kernel
theorem dX5_ifStarted_27 : decode cX5_ifStarted 27 = .ok (.athrow, 1) := by decide +kernel
theorem dX5_ifStarted_28 : decode cX5_ifStarted 28 = .ok (.aload_n 0, 1) := by decide +kernel
theorem dX5_ifStarted_29 : decode cX5_ifStarted 29 = .ok (.iload_n 1, 1) := by decide +kernel
theorem dX5_ifStarted_30 : decode cX5_ifStarted 30 = .ok (.iload_n 2, 1) := by decide +kernel
theorem dX5_ifStarted_31 : decode cX5_ifStarted 31 = .ok (.invokevirtual 247, 3) := by decide +kernel
theorem dX5_ifStarted_34 : decode cX5_ifStarted 34 = .ok (.ireturn, 1) := by decide +kernel
theorem dX5_bestChange_0 : decode cX5_bestChange 0 = .ok (.iconst (-1), 1) := by decide +kernel
theorem dX5_bestChange_1 : decode cX5_bestChange 1 = .ok (.istore_n 1, 1) := by decide +kernel
theorem dX5_bestChange_2 : decode cX5_bestChange 2 = .ok (.aload_n 0, 1) := by decide +kernel
theorem dX5_bestChange_3 : decode cX5_bestChange 3 = .ok (.getfield 12, 3) := by decide +kernel
theorem dX5_bestChange_6 : decode cX5_bestChange 6 = .ok (.getfield 64, 3) := by decide +kernel
theorem dX5_bestChange_9 : decode cX5_bestChange 9 = .ok (.iconst 0, 1) := by decide +kernel
theorem dX5_bestChange_10 : decode cX5_bestChange 10 = .ok (.iconst 0, 1) := by decide +kernel
theorem dX5_bestChange_11 : decode cX5_bestChange 11 = .ok (.invokevirtual 250, 3) := by decide +kernel
theorem dX5_bestChange_14 : decode cX5_bestChange 14 = .ok (.istore_n 2, 1) := by decide +kernel
theorem dX5_bestChange_15 : decode cX5_bestChange 15 = .ok (.iconst 0, 1) := by decide +kernel
theorem dX5_bestChange_16 : decode cX5_bestChange 16 = .ok (.istore_n 3, 1) := by decide +kernel
theorem dX5_bestChange_17 : decode cX5_bestChange 17 = .ok (.iload_n 3, 1) := by decide +kernel
theorem dX5_bestChange_18 : decode cX5_bestChange 18 = .ok (.iconst 4, 1) := by decide +kernel
theorem dX5_bestChange_19 : decode cX5_bestChange 19 = .ok (.if_icmp .ge 57, 3) := by decide +kernel
theorem dX5_bestChange_22 : decode cX5_bestChange 22 = .ok (.iload_n 3, 1) := by decide +kernel
theorem dX5_bestChange_23 : decode cX5_bestChange 23 = .ok (.iconst 1, 1) := by decide +kernel
theorem dX5_bestChange_24 : decode cX5_bestChange 24 = .ok (.iadd, 1) := by decide +kernel
theorem dX5_bestChange_25 : decode cX5_bestChange 25 = .ok (.istore 4, 2) := by decide +kernel
theorem dX5_bestChange_27 : decode cX5_bestChange 27 = .ok (.iload 4, 2) := by decide +kernel
theorem dX5_bestChange_29 : decode cX5_bestChange 29 = .ok (.iconst 4, 1) := by decide +kernel
theorem dX5_bestChange_30 : decode cX5_bestChange 30 = .ok (.if_icmp .ge 40, 3) := by decide +kernel
theorem dX5_bestChange_33 : decode cX5_bestChange 33 = .ok (.aload_n 0, 1) := by decide +kernel
theorem dX5_bestChange_34 : decode cX5_bestChange 34 = .ok (.getfield 12, 3) := by decide +kernel
theorem dX5_bestChange_37 : decode cX5_bestChange 37 = .ok (.getfield 64, 3) := by decide +kernel
theorem dX5_bestChange_40 : decode cX5_bestChange 40 = .ok (.iload_n 3, 1) := by decide +kernel
theorem dX5_bestChange_41 : decode cX5_bestChange 41 = .ok (.iload 4, 2) := by decide +kernel
theorem dX5_bestChange_43 : decode cX5_bestChange 43 = .ok (.invokevirtual 250, 3) := by decide +kernel
theorem dX5_bestChange_46 : decode cX5_bestChange 46 = .ok (.istore 5, 2) := by decide +kernel
theorem dX5_bestChange_48 : decode cX5_bestChange 48 = .ok (.iload 5, 2) := by decide +kernel
theorem dX5_bestChange_50 : decode cX5_bestChange 50 = .ok (.iload_n 2, 1) := by decide +kernel
theorem dX5_bestChange_51 : decode cX5_bestChange 51 = .ok (.if_icmp .le 13, 3) := by decide +kernel
theorem dX5_bestChange_54 : decode cX5_bestChange 54 = .ok (.iload 5, 2) := by decide +kernel
theorem dX5_bestChange_56 : decode cX5_bestChange 56 = .ok (.istore_n 2, 1) := by decide +kernel
theorem dX5_bestChange_57 : decode cX5_bestChange 57 = .ok (.iconst 4, 1) := by decide +kernel
theorem dX5_bestChange_58 : decode cX5_bestChange 58 = .ok (.iload_n 3, 1) := by decide +kernel
theorem dX5_bestChange_59 : decode cX5_bestChange 59 = .ok (.imul, 1) := by decide +kernel
theorem dX5_bestChange_60 : decode cX5_bestChange 60 = .ok (.iload 4, 2) := by decide +kernel
theorem dX5_bestChange_62 : decode cX5_bestChange 62 = .ok (.iadd, 1) := by decide +kernel
theorem dX5_bestChange_63 : decode cX5_bestChange 63 = .ok (.istore_n 1, 1) := by decide +kernel
theorem dX5_bestChange_64 : decode cX5_bestChange 64 = .ok (.iinc 4 1, 3) := by decide +kernel
theorem dX5_bestChange_67 : decode cX5_bestChange 67 = .ok (.goto (-40), 3) := by decide +kernel
theorem dX5_bestChange_70 : decode cX5_bestChange 70 = .ok (.iinc 3 1, 3) := by decide +kernel
theorem dX5_bestChange_73 : decode cX5_bestChange 73 = .ok (.goto (-56), 3) := by decide +kernel
theorem dX5_bestChange_76 : decode cX5_bestChange 76 = .ok (.iload_n 1, 1) := by decide +kernel
theorem dX5_bestChange_77 : decode cX5_bestChange 77 = .ok (.ireturn, 1) := by decide +kernel
theorem dX5_wideShare_0 : decode cX5_wideShare 0 = .ok (.aload_n 0, 1) := by decide +kernel
theorem dX5_wideShare_1 : decode cX5_wideShare 1 = .ok (.getfield 12, 3) := by decide +kernel
theorem dX5_wideShare_4 : decode cX5_wideShare 4 = .ok (.getfield 125, 3) := by decide +kernel
theorem dX5_wideShare_7 : decode cX5_wideShare 7 = .ok (.getfield 128, 3) := by decide +kernel
theorem dX5_wideShare_10 : decode cX5_wideShare 10 = .ok (.istore_n 1, 1) := by decide +kernel
theorem dX5_wideShare_11 : decode cX5_wideShare 11 = .ok (.iload_n 1, 1) := by decide +kernel
theorem dX5_wideShare_12 : decode cX5_wideShare 12 = .ok (.ifCond .ne 7, 3) := by decide +kernel
theorem dX5_wideShare_15 : decode cX5_wideShare 15 = .ok (.dconst 0, 1) := by decide +kernel
theorem dX5_wideShare_16 : decode cX5_wideShare 16 = .ok (.goto 17, 3) := by decide +kernel
theorem dX5_wideShare_19 : decode cX5_wideShare 19 = .ok (.aload_n 0, 1) := by decide +kernel
theorem dX5_wideShare_20 : decode cX5_wideShare 20 = .ok (.getfield 12, 3) := by decide +kernel
theorem dX5_wideShare_23 : decode cX5_wideShare 23 = .ok (.getfield 125, 3) := by decide +kernel
theorem dX5_wideShare_26 : decode cX5_wideShare 26 = .ok (.getfield 253, 3) := by decide +kernel
theorem dX5_wideShare_29 : decode cX5_wideShare 29 = .ok (.i2d, 1) := by decide +kernel
theorem dX5_wideShare_30 : decode cX5_wideShare 30 = .ok (.iload_n 1, 1) := by decide +kernel
theorem dX5_wideShare_31 : decode cX5_wideShare 31 = .ok (.i2d, 1) := by decide +kernel
theorem dX5_wideShare_32 : decode cX5_wideShare 32 = .ok (.ddiv, 1) := by decide +kernel
theorem dX5_wideShare_33 : decode cX5_wideShare 33 = .ok (.dreturn, 1) := by decide +kernel
theorem dX5_meanTicks_0 : decode cX5_meanTicks 0 = .ok (.aload_n 0, 1) := by decide +kernel
theorem dX5_meanTicks_1 : decode cX5_meanTicks 1 = .ok (.getfield 12, 3) := by decide +kernel
theorem dX5_meanTicks_4 : decode cX5_meanTicks 4 = .ok (.getfield 256, 3) := by decide +kernel
theorem dX5_meanTicks_7 : decode cX5_meanTicks 7 = .ok (.istore_n 1, 1) := by decide +kernel
theorem dX5_meanTicks_8 : decode cX5_meanTicks 8 = .ok (.iload_n 1, 1) := by decide +kernel
theorem dX5_meanTicks_9 : decode cX5_meanTicks 9 = .ok (.ifCond .ne 7, 3) := by decide +kernel
theorem dX5_meanTicks_12 : decode cX5_meanTicks 12 = .ok (.fconst 0, 1) := by decide +kernel
theorem dX5_meanTicks_13 : decode cX5_meanTicks 13 = .ok (.goto 17, 3) := by decide +kernel
theorem dX5_meanTicks_16 : decode cX5_meanTicks 16 = .ok (.aload_n 0, 1) := by decide +kernel
theorem dX5_meanTicks_17 : decode cX5_meanTicks 17 = .ok (.getfield 12, 3) := by decide +kernel
theorem dX5_meanTicks_20 : decode cX5_meanTicks 20 = .ok (.getfield 85, 3) := by decide +kernel
theorem dX5_meanTicks_23 : decode cX5_meanTicks 23 = .ok (.getfield 164, 3) := by decide +kernel
theorem dX5_meanTicks_26 : decode cX5_meanTicks 26 = .ok (.i2f, 1) := by decide +kernel
theorem dX5_meanTicks_27 : decode cX5_meanTicks 27 = .ok (.iload_n 1, 1) := by decide +kernel
theorem dX5_meanTicks_28 : decode cX5_meanTicks 28 = .ok (.i2f, 1) := by decide +kernel
theorem dX5_meanTicks_29 : decode cX5_meanTicks 29 = .ok (.fdiv, 1) := by decide +kernel
theorem dX5_meanTicks_30 : decode cX5_meanTicks 30 = .ok (.freturn, 1) := by decide +kernel
theorem dX5_isWithin_0 : decode cX5_isWithin 0 = .ok (.iload_n 0, 1) := by decide +kernel
theorem dX5_isWithin_1 : decode cX5_isWithin 1 = .ok (.iload_n 1, 1) := by decide +kernel
theorem dX5_isWithin_2 : decode cX5_isWithin 2 = .ok (.if_icmp .lt 12, 3) := by decide +kernel
theorem dX5_isWithin_5 : decode cX5_isWithin 5 = .ok (.iload_n 0, 1) := by decide +kernel
theorem dX5_isWithin_6 : decode cX5_isWithin 6 = .ok (.iload_n 2, 1) := by decide +kernel
theorem dX5_isWithin_7 : decode cX5_isWithin 7 = .ok (.if_icmp .gt 7, 3) := by decide +kernel
theorem dX5_isWithin_10 : decode cX5_isWithin 10 = .ok (.iconst 1, 1) := by decide +kernel
theorem dX5_isWithin_11 : decode cX5_isWithin 11 = .ok (.goto 4, 3) := by decide +kernel
theorem dX5_isWithin_14 : decode cX5_isWithin 14 = .ok (.iconst 0, 1) := by decide +kernel
theorem dX5_isWithin_15 : decode cX5_isWithin 15 = .ok (.ireturn, 1) := by decide +kernel
theorem dX5_isSlot_0 : decode cX5_isSlot 0 = .ok (.iload_n 0, 1) := by decide +kernel
theorem dX5_isSlot_1 : decode cX5_isSlot 1 = .ok (.ifCond .lt 12, 3) := by decide +kernel
theorem dX5_isSlot_4 : decode cX5_isSlot 4 = .ok (.iload_n 0, 1) := by decide +kernel
theorem dX5_isSlot_5 : decode cX5_isSlot 5 = .ok (.iconst 4, 1) := by decide +kernel
theorem dX5_isSlot_6 : decode cX5_isSlot 6 = .ok (.if_icmp .ge 7, 3) := by decide +kernel
theorem dX5_isSlot_9 : decode cX5_isSlot 9 = .ok (.iconst 1, 1) := by decide +kernel
theorem dX5_isSlot_10 : decode cX5_isSlot 10 = .ok (.goto 4, 3) := by decide +kernel
theorem dX5_isSlot_13 : decode cX5_isSlot 13 = .ok (.iconst 0, 1) := by decide +kernel
theorem dX5_isSlot_14 : decode cX5_isSlot 14 = .ok (.ireturn, 1) := by decide +kernel
theorem dX5_entry_0 : decode cX5_entry 0 = .ok (.iload_n 1, 1) := by decide +kernel
theorem dX5_entry_1 : decode cX5_entry 1 = .ok (.ifCond .lt 15, 3) := by decide +kernel
theorem dX5_entry_4 : decode cX5_entry 4 = .ok (.iload_n 1, 1) := by decide +kernel
theorem dX5_entry_5 : decode cX5_entry 5 = .ok (.aload_n 0, 1) := by decide +kernel
theorem dX5_entry_6 : decode cX5_entry 6 = .ok (.arraylength, 1) := by decide +kernel
theorem dX5_entry_7 : decode cX5_entry 7 = .ok (.if_icmp .ge 9, 3) := by decide +kernel
theorem dX5_entry_10 : decode cX5_entry 10 = .ok (.aload_n 0, 1) := by decide +kernel
theorem dX5_entry_11 : decode cX5_entry 11 = .ok (.iload_n 1, 1) := by decide +kernel
theorem dX5_entry_12 : decode cX5_entry 12 = .ok (.iaload, 1) := by decide +kernel
theorem dX5_entry_13 : decode cX5_entry 13 = .ok (.goto 4, 3) := by decide +kernel
theorem dX5_entry_16 : decode cX5_entry 16 = .ok (.iconst 0, 1) := by decide +kernel
theorem dX5_entry_17 : decode cX5_entry 17 = .ok (.ireturn, 1) := by decide +kernel
theorem dX5_saveState_0 : decode cX5_saveState 0 = .ok (.aload_n 0, 1) := by decide +kernel
theorem dX5_saveState_1 : decode cX5_saveState 1 = .ok (.getfield 212, 3) := by decide +kernel
theorem dX5_saveState_4 : decode cX5_saveState 4 = .ok (.ifCond .lt 12, 3) := by decide +kernel
theorem dX5_saveState_7 : decode cX5_saveState 7 = .ok (.aload_n 0, 1) := by decide +kernel
theorem dX5_saveState_8 : decode cX5_saveState 8 = .ok (.getfield 212, 3) := by decide +kernel
theorem dX5_saveState_11 : decode cX5_saveState 11 = .ok (.bipush 6, 2) := by decide +kernel
theorem dX5_saveState_13 : decode cX5_saveState 13 = .ok (.if_icmp .lt 12, 3) := by decide +kernel
theorem dX5_saveState_16 : decode cX5_saveState 16 = .ok (.aload_n 0, 1) := by decide +kernel
theorem dX5_saveState_17 : decode cX5_saveState 17 = .ok (.invokevirtual 292, 3) := by decide +kernel
theorem dX5_saveState_20 : decode cX5_saveState 20 = .ok (.aload_n 0, 1) := by decide +kernel
theorem dX5_saveState_21 : decode cX5_saveState 21 = .ok (.iconst 5, 1) := by decide +kernel
theorem dX5_saveState_22 : decode cX5_saveState 22 = .ok (.putfield 212, 3) := by decide +kernel
theorem dX5_saveState_25 : decode cX5_saveState 25 = .ok (.aload_n 0, 1) := by decide +kernel
theorem dX5_saveState_26 : decode cX5_saveState 26 = .ok (.getfield 19, 3) := by decide +kernel
theorem dX5_saveState_29 : decode cX5_saveState 29 = .ok (.aload_n 0, 1) := by decide +kernel
theorem dX5_saveState_30 : decode cX5_saveState 30 = .ok (.getfield 212, 3) := by decide +kernel
theorem dX5_saveState_33 : decode cX5_saveState 33 = .ok (.aaload, 1) := by decide +kernel
theorem dX5_saveState_34 : decode cX5_saveState 34 = .ok (.astore_n 1, 1) := by decide +kernel
theorem dX5_saveState_35 : decode cX5_saveState 35 = .ok (.aload_n 1, 1) := by decide +kernel
theorem dX5_saveState_36 : decode cX5_saveState 36 = .ok (.ifnull 11, 3) := by decide +kernel
theorem dX5_saveState_39 : decode cX5_saveState 39 = .ok (.aload_n 1, 1) := by decide +kernel
theorem dX5_saveState_40 : decode cX5_saveState 40 = .ok (.aload_n 0, 1) := by decide +kernel
theorem dX5_saveState_41 : decode cX5_saveState 41 = .ok (.getfield 12, 3) := by decide +kernel
theorem dX5_saveState_44 : decode cX5_saveState 44 = .ok (.invokevirtual 202, 3) := by decide +kernel
theorem dX5_saveState_47 : decode cX5_saveState 47 = .ok (.aload_n 0, 1) := by decide +kernel
theorem dX5_saveState_48 : decode cX5_saveState 48 = .ok (.dup, 1) := by decide +kernel
theorem dX5_saveState_49 : decode cX5_saveState 49 = .ok (.getfield 212, 3) := by decide +kernel
theorem dX5_saveState_52 : decode cX5_saveState 52 = .ok (.iconst 1, 1) := by decide +kernel
theorem dX5_saveState_53 : decode cX5_saveState 53 = .ok (.iadd, 1) := by decide +kernel
theorem dX5_saveState_54 : decode cX5_saveState 54 = .ok (.putfield 212, 3) := by decide +kernel
theorem dX5_saveState_57 : decode cX5_saveState 57 = .ok (.return_, 1) := by decide +kernel
theorem dX5_moveOldestToEnd_0 : decode cX5_moveOldestToEnd 0 = .ok (.aload_n 0, 1) := by decide +kernel
theorem dX5_moveOldestToEnd_1 : decode cX5_moveOldestToEnd 1 = .ok (.getfield 19, 3) := by decide +kernel
theorem dX5_moveOldestToEnd_4 : decode cX5_moveOldestToEnd 4 = .ok (.iconst 0, 1) := by decide +kernel
theorem dX5_moveOldestToEnd_5 : decode cX5_moveOldestToEnd 5 = .ok (.aaload, 1) := by decide +kernel
theorem dX5_moveOldestToEnd_6 : decode cX5_moveOldestToEnd 6 = .ok (.astore_n 1, 1) := by decide +kernel
theorem dX5_moveOldestToEnd_7 : decode cX5_moveOldestToEnd 7 = .ok (.iconst 1, 1) := by decide +kernel
theorem dX5_moveOldestToEnd_8 : decode cX5_moveOldestToEnd 8 = .ok (.istore_n 2, 1) := by decide +kernel
theorem dX5_moveOldestToEnd_9 : decode cX5_moveOldestToEnd 9 = .ok (.iload_n 2, 1) := by decide +kernel
theorem dX5_moveOldestToEnd_10 : decode cX5_moveOldestToEnd 10 = .ok (.bipush 6, 2) := by decide +kernel
theorem dX5_moveOldestToEnd_12 : decode cX5_moveOldestToEnd 12 = .ok (.if_icmp .ge 23, 3) := by decide +kernel
theorem dX5_moveOldestToEnd_15 : decode cX5_moveOldestToEnd 15 = .ok (.aload_n 0, 1) := by decide +kernel
theorem dX5_moveOldestToEnd_16 : decode cX5_moveOldestToEnd 16 = .ok (.getfield 19, 3) := by decide +kernel
theorem dX5_moveOldestToEnd_19 : decode cX5_moveOldestToEnd 19 = .ok (.iload_n 2, 1) := by decide +kernel
theorem dX5_moveOldestToEnd_20 : decode cX5_moveOldestToEnd 20 = .ok (.iconst 1, 1) := by decide +kernel
theorem dX5_moveOldestToEnd_21 : decode cX5_moveOldestToEnd 21 = .ok (.isub, 1) := by decide +kernel
theorem dX5_moveOldestToEnd_22 : decode cX5_moveOldestToEnd 22 = .ok (.aload_n 0, 1) := by decide +kernel
theorem dX5_moveOldestToEnd_23 : decode cX5_moveOldestToEnd 23 = .ok (.getfield 19, 3) := by decide +kernel
theorem dX5_moveOldestToEnd_26 : decode cX5_moveOldestToEnd 26 = .ok (.iload_n 2, 1) := by decide +kernel
theorem dX5_moveOldestToEnd_27 : decode cX5_moveOldestToEnd 27 = .ok (.aaload, 1) := by decide +kernel
theorem dX5_moveOldestToEnd_28 : decode cX5_moveOldestToEnd 28 = .ok (.aastore, 1) := by decide +kernel
theorem dX5_moveOldestToEnd_29 : decode cX5_moveOldestToEnd 29 = .ok (.iinc 2 1, 3) := by decide +kernel
theorem dX5_moveOldestToEnd_32 : decode cX5_moveOldestToEnd 32 = .ok (.goto (-23), 3) := by decide +kernel
theorem dX5_moveOldestToEnd_35 : decode cX5_moveOldestToEnd 35 = .ok (.aload_n 0, 1) := by decide +kernel
theorem dX5_moveOldestToEnd_36 : decode cX5_moveOldestToEnd 36 = .ok (.getfield 19, 3) := by decide +kernel
theorem dX5_moveOldestToEnd_39 : decode cX5_moveOldestToEnd 39 = .ok (.iconst 5, 1) := by decide +kernel
theorem dX5_moveOldestToEnd_40 : decode cX5_moveOldestToEnd 40 = .ok (.aload_n 1, 1) := by decide +kernel
theorem dX5_moveOldestToEnd_41 : decode cX5_moveOldestToEnd 41 = .ok (.aastore, 1) := by decide +kernel
theorem dX5_moveOldestToEnd_42 : decode cX5_moveOldestToEnd 42 = .ok (.return_, 1) := by decide +kernel
theorem dX5_countOf_0 : decode cX5_countOf 0 = .ok (.iload_n 1, 1) := by decide +kernel
theorem dX5_countOf_1 : decode cX5_countOf 1 = .ok (.tableswitch 165 0 10 #[59, 70, 81, 92, 103, 114, 122, 130, 141, 149, 157], 59) := by decide +kernel
theorem dX5_countOf_60 : decode cX5_countOf 60 = .ok (.aload_n 0, 1) := by decide +kernel
theorem dX5_countOf_61 : decode cX5_countOf 61 = .ok (.getfield 12, 3) := by decide +kernel
theorem dX5_countOf_64 : decode cX5_countOf 64 = .ok (.getfield 64, 3) := by decide +kernel
theorem dX5_countOf_67 : decode cX5_countOf 67 = .ok (.invokevirtual 92, 3) := by decide +kernel
theorem dX5_countOf_70 : decode cX5_countOf 70 = .ok (.ireturn, 1) := by decide +kernel
theorem dX5_countOf_71 : decode cX5_countOf 71 = .ok (.aload_n 0, 1) := by decide +kernel
theorem dX5_countOf_72 : decode cX5_countOf 72 = .ok (.getfield 12, 3) := by decide +kernel
theorem dX5_countOf_75 : decode cX5_countOf 75 = .ok (.getfield 64, 3) := by decide +kernel
theorem dX5_countOf_78 : decode cX5_countOf 78 = .ok (.invokevirtual 295, 3) := by decide +kernel
theorem dX5_countOf_81 : decode cX5_countOf 81 = .ok (.ireturn, 1) := by decide +kernel
theorem dX5_countOf_82 : decode cX5_countOf 82 = .ok (.aload_n 0, 1) := by decide +kernel
theorem dX5_countOf_83 : decode cX5_countOf 83 = .ok (.getfield 12, 3) := by decide +kernel
theorem dX5_countOf_86 : decode cX5_countOf 86 = .ok (.getfield 125, 3) := by decide +kernel
theorem dX5_countOf_89 : decode cX5_countOf 89 = .ok (.getfield 128, 3) := by decide +kernel
theorem dX5_countOf_92 : decode cX5_countOf 92 = .ok (.ireturn, 1) := by decide +kernel
theorem dX5_countOf_93 : decode cX5_countOf 93 = .ok (.aload_n 0, 1) := by decide +kernel
theorem dX5_countOf_94 : decode cX5_countOf 94 = .ok (.getfield 12, 3) := by decide +kernel
theorem dX5_countOf_97 : decode cX5_countOf 97 = .ok (.getfield 125, 3) := by decide +kernel
theorem dX5_countOf_100 : decode cX5_countOf 100 = .ok (.getfield 253, 3) := by decide +kernel
theorem dX5_countOf_103 : decode cX5_countOf 103 = .ok (.ireturn, 1) := by decide +kernel
theorem dX5_countOf_104 : decode cX5_countOf 104 = .ok (.aload_n 0, 1) := by decide +kernel
theorem dX5_countOf_105 : decode cX5_countOf 105 = .ok (.getfield 12, 3) := by decide +kernel
theorem dX5_countOf_108 : decode cX5_countOf 108 = .ok (.getfield 85, 3) := by decide +kernel
theorem dX5_countOf_111 : decode cX5_countOf 111 = .ok (.getfield 164, 3) := by decide +kernel
theorem dX5_countOf_114 : decode cX5_countOf 114 = .ok (.ireturn, 1) := by decide +kernel
theorem dX5_countOf_115 : decode cX5_countOf 115 = .ok (.aload_n 0, 1) := by decide +kernel
theorem dX5_countOf_116 : decode cX5_countOf 116 = .ok (.getfield 12, 3) := by decide +kernel
theorem dX5_countOf_119 : decode cX5_countOf 119 = .ok (.getfield 256, 3) := by decide +kernel
theorem dX5_countOf_122 : decode cX5_countOf 122 = .ok (.ireturn, 1) := by decide +kernel
theorem dX5_countOf_123 : decode cX5_countOf 123 = .ok (.aload_n 0, 1) := by decide +kernel
theorem dX5_countOf_124 : decode cX5_countOf 124 = .ok (.getfield 12, 3) := by decide +kernel
theorem dX5_countOf_127 : decode cX5_countOf 127 = .ok (.getfield 298, 3) := by decide +kernel
theorem dX5_countOf_130 : decode cX5_countOf 130 = .ok (.ireturn, 1) := by decide +kernel
theorem dX5_countOf_131 : decode cX5_countOf 131 = .ok (.aload_n 0, 1) := by decide +kernel
theorem dX5_countOf_132 : decode cX5_countOf 132 = .ok (.getfield 12, 3) := by decide +kernel
theorem dX5_countOf_135 : decode cX5_countOf 135 = .ok (.getfield 85, 3) := by decide +kernel
theorem dX5_countOf_138 : decode cX5_countOf 138 = .ok (.getfield 301, 3) := by decide +kernel
theorem dX5_countOf_141 : decode cX5_countOf 141 = .ok (.ireturn, 1) := by decide +kernel
theorem dX5_countOf_142 : decode cX5_countOf 142 = .ok (.aload_n 0, 1) := by decide +kernel
theorem dX5_countOf_143 : decode cX5_countOf 143 = .ok (.getfield 12, 3) := by decide +kernel
theorem dX5_countOf_146 : decode cX5_countOf 146 = .ok (.invokevirtual 304, 3) := by decide +kernel
theorem dX5_countOf_149 : decode cX5_countOf 149 = .ok (.ireturn, 1) := by decide +kernel
theorem dX5_countOf_150 : decode cX5_countOf 150 = .ok (.aload_n 0, 1) := by decide +kernel
theorem dX5_countOf_151 : decode cX5_countOf 151 = .ok (.getfield 12, 3) := by decide +kernel
theorem dX5_countOf_154 : decode cX5_countOf 154 = .ok (.getfield 307, 3) := by decide +kernel
theorem dX5_countOf_157 : decode cX5_countOf 157 = .ok (.ireturn, 1) := by decide +kernel
theorem dX5_countOf_158 : decode cX5_countOf 158 = .ok (.aload_n 0, 1) := by decide +kernel
theorem dX5_countOf_159 : decode cX5_countOf 159 = .ok (.getfield 12, 3) := by decide +kernel
theorem dX5_countOf_162 : decode cX5_countOf 162 = .ok (.invokevirtual 310, 3) := by decide +kernel
theorem dX5_countOf_165 : decode cX5_countOf 165 = .ok (.ireturn, 1) := by decide +kernel
theorem dX5_countOf_166 : decode cX5_countOf 166 = .ok (.aload_n 0, 1) := by decide +kernel
theorem dX5_countOf_167 : decode cX5_countOf 167 = .ok (.getfield 212, 3) := by decide +kernel
theorem dX5_countOf_170 : decode cX5_countOf 170 = .ok (.ireturn, 1) := by decide +kernel
theorem dX5_sweepTicks_0 : decode cX5_sweepTicks 0 = .ok (.aload_n 0, 1) := by decide +kernel
theorem dX5_sweepTicks_1 : decode cX5_sweepTicks 1 = .ok (.getfield 12, 3) := by decide +kernel
theorem dX5_sweepTicks_4 : decode cX5_sweepTicks 4 = .ok (.getfield 64, 3) := by decide +kernel
theorem dX5_sweepTicks_7 : decode cX5_sweepTicks 7 = .ok (.iload_n 1, 1) := by decide +kernel
theorem dX5_sweepTicks_8 : decode cX5_sweepTicks 8 = .ok (.invokevirtual 117, 3) := by decide +kernel
theorem dX5_sweepTicks_11 : decode cX5_sweepTicks 11 = .ok (.ifCond .eq 5, 3) := by decide +kernel
theorem dX5_sweepTicks_14 : decode cX5_sweepTicks 14 = .ok (.iconst (-1), 1) := by decide +kernel
theorem dX5_sweepTicks_15 : decode cX5_sweepTicks 15 = .ok (.ireturn, 1) := by decide +kernel
theorem dX5_sweepTicks_16 : decode cX5_sweepTicks 16 = .ok (.aload_n 0, 1) := by decide +kernel
theorem dX5_sweepTicks_17 : decode cX5_sweepTicks 17 = .ok (.getfield 33, 3) := by decide +kernel
theorem dX5_sweepTicks_20 : decode cX5_sweepTicks 20 = .ok (.iload_n 1, 1) := by decide +kernel
theorem dX5_sweepTicks_21 : decode cX5_sweepTicks 21 = .ok (.aload_n 0, 1) := by decide +kernel
theorem dX5_sweepTicks_22 : decode cX5_sweepTicks 22 = .ok (.getfield 12, 3) := by decide +kernel
theorem dX5_sweepTicks_25 : decode cX5_sweepTicks 25 = .ok (.getfield 64, 3) := by decide +kernel
theorem dX5_sweepTicks_28 : decode cX5_sweepTicks 28 = .ok (.invokevirtual 313, 3) := by decide +kernel
theorem dX5_sweepTicks_31 : decode cX5_sweepTicks 31 = .ok (.aload_n 0, 1) := by decide +kernel
theorem dX5_sweepTicks_32 : decode cX5_sweepTicks 32 = .ok (.getfield 40, 3) := by decide +kernel
theorem dX5_sweepTicks_35 : decode cX5_sweepTicks 35 = .ok (.invokevirtual 317, 3) := by decide +kernel
theorem dX5_sweepTicks_38 : decode cX5_sweepTicks 38 = .ok (.iconst 1, 1) := by decide +kernel
theorem dX5_sweepTicks_39 : decode cX5_sweepTicks 39 = .ok (.istore_n 2, 1) := by decide +kernel
theorem dX5_sweepTicks_40 : decode cX5_sweepTicks 40 = .ok (.iconst 0, 1) := by decide +kernel
theorem dX5_sweepTicks_41 : decode cX5_sweepTicks 41 = .ok (.istore_n 3, 1) := by decide +kernel
theorem dX5_sweepTicks_42 : decode cX5_sweepTicks 42 = .ok (.iload_n 3, 1) := by decide +kernel
theorem dX5_sweepTicks_43 : decode cX5_sweepTicks 43 = .ok (.aload_n 0, 1) := by decide +kernel
theorem dX5_sweepTicks_44 : decode cX5_sweepTicks 44 = .ok (.getfield 33, 3) := by decide +kernel
theorem dX5_sweepTicks_47 : decode cX5_sweepTicks 47 = .ok (.getfield 128, 3) := by decide +kernel
theorem dX5_sweepTicks_50 : decode cX5_sweepTicks 50 = .ok (.if_icmp .ge 81, 3) := by decide +kernel
theorem dX5_sweepTicks_53 : decode cX5_sweepTicks 53 = .ok (.aload_n 0, 1) := by decide +kernel
theorem dX5_sweepTicks_54 : decode cX5_sweepTicks 54 = .ok (.iload_n 3, 1) := by decide +kernel
theorem dX5_sweepTicks_55 : decode cX5_sweepTicks 55 = .ok (.invokevirtual 320, 3) := by decide +kernel
theorem dX5_sweepTicks_58 : decode cX5_sweepTicks 58 = .ok (.istore 4, 2) := by decide +kernel
theorem dX5_sweepTicks_60 : decode cX5_sweepTicks 60 = .ok (.aload_n 0, 1) := by decide +kernel
theorem dX5_sweepTicks_61 : decode cX5_sweepTicks 61 = .ok (.getfield 33, 3) := by decide +kernel
theorem dX5_sweepTicks_64 : decode cX5_sweepTicks 64 = .ok (.iload_n 3, 1) := by decide +kernel
theorem dX5_sweepTicks_65 : decode cX5_sweepTicks 65 = .ok (.invokevirtual 323, 3) := by decide +kernel
theorem dX5_sweepTicks_68 : decode cX5_sweepTicks 68 = .ok (.ifCond .eq 40, 3) := by decide +kernel
theorem dX5_sweepTicks_71 : decode cX5_sweepTicks 71 = .ok (.aload_n 0, 1) := by decide +kernel
theorem dX5_sweepTicks_72 : decode cX5_sweepTicks 72 = .ok (.iload_n 3, 1) := by decide +kernel
theorem dX5_sweepTicks_73 : decode cX5_sweepTicks 73 = .ok (.iconst 1, 1) := by decide +kernel
theorem dX5_sweepTicks_74 : decode cX5_sweepTicks 74 = .ok (.iadd, 1) := by decide +kernel
theorem dX5_sweepTicks_75 : decode cX5_sweepTicks 75 = .ok (.invokevirtual 320, 3) := by decide +kernel
theorem dX5_sweepTicks_78 : decode cX5_sweepTicks 78 = .ok (.istore 5, 2) := by decide +kernel
theorem dX5_sweepTicks_80 : decode cX5_sweepTicks 80 = .ok (.aload_n 0, 1) := by decide +kernel
theorem dX5_sweepTicks_81 : decode cX5_sweepTicks 81 = .ok (.getfield 40, 3) := by decide +kernel
theorem dX5_sweepTicks_84 : decode cX5_sweepTicks 84 = .ok (.iload 4, 2) := by decide +kernel
theorem dX5_sweepTicks_86 : decode cX5_sweepTicks 86 = .ok (.aload_n 0, 1) := by decide +kernel
theorem dX5_sweepTicks_87 : decode cX5_sweepTicks 87 = .ok (.iload_n 3, 1) := by decide +kernel
theorem dX5_sweepTicks_88 : decode cX5_sweepTicks 88 = .ok (.invokevirtual 326, 3) := by decide +kernel
theorem dX5_sweepTicks_91 : decode cX5_sweepTicks 91 = .ok (.iload 5, 2) := by decide +kernel
theorem dX5_sweepTicks_93 : decode cX5_sweepTicks 93 = .ok (.aload_n 0, 1) := by decide +kernel
theorem dX5_sweepTicks_94 : decode cX5_sweepTicks 94 = .ok (.iload_n 3, 1) := by decide +kernel
theorem dX5_sweepTicks_95 : decode cX5_sweepTicks 95 = .ok (.iconst 1, 1) := by decide +kernel
theorem dX5_sweepTicks_96 : decode cX5_sweepTicks 96 = .ok (.iadd, 1) := by decide +kernel
theorem dX5_sweepTicks_97 : decode cX5_sweepTicks 97 = .ok (.invokevirtual 326, 3) := by decide +kernel
theorem dX5_sweepTicks_100 : decode cX5_sweepTicks 100 = .ok (.invokevirtual 329, 3) := by decide +kernel
theorem dX5_sweepTicks_103 : decode cX5_sweepTicks 103 = .ok (.iconst 2, 1) := by decide +kernel
theorem dX5_sweepTicks_104 : decode cX5_sweepTicks 104 = .ok (.istore_n 2, 1) := by decide +kernel
theorem dX5_sweepTicks_105 : decode cX5_sweepTicks 105 = .ok (.goto 19, 3) := by decide +kernel
theorem dX5_sweepTicks_108 : decode cX5_sweepTicks 108 = .ok (.aload_n 0, 1) := by decide +kernel
theorem dX5_sweepTicks_109 : decode cX5_sweepTicks 109 = .ok (.getfield 40, 3) := by decide +kernel
theorem dX5_sweepTicks_112 : decode cX5_sweepTicks 112 = .ok (.iload 4, 2) := by decide +kernel
theorem dX5_sweepTicks_114 : decode cX5_sweepTicks 114 = .ok (.aload_n 0, 1) := by decide +kernel
theorem dX5_sweepTicks_115 : decode cX5_sweepTicks 115 = .ok (.iload_n 3, 1) := by decide +kernel
theorem dX5_sweepTicks_116 : decode cX5_sweepTicks 116 = .ok (.invokevirtual 326, 3) := by decide +kernel
theorem dX5_sweepTicks_119 : decode cX5_sweepTicks 119 = .ok (.invokevirtual 332, 3) := by decide +kernel
theorem dX5_sweepTicks_122 : decode cX5_sweepTicks 122 = .ok (.iconst 1, 1) := by decide +kernel
theorem dX5_sweepTicks_123 : decode cX5_sweepTicks 123 = .ok (.istore_n 2, 1) := by decide +kernel
theorem dX5_sweepTicks_124 : decode cX5_sweepTicks 124 = .ok (.iload_n 3, 1) := by decide +kernel
theorem dX5_sweepTicks_125 : decode cX5_sweepTicks 125 = .ok (.iload_n 2, 1) := by decide +kernel
theorem dX5_sweepTicks_126 : decode cX5_sweepTicks 126 = .ok (.iadd, 1) := by decide +kernel
theorem dX5_sweepTicks_127 : decode cX5_sweepTicks 127 = .ok (.istore_n 3, 1) := by decide +kernel
theorem dX5_sweepTicks_128 : decode cX5_sweepTicks 128 = .ok (.goto (-86), 3) := by decide +kernel
theorem dX5_sweepTicks_131 : decode cX5_sweepTicks 131 = .ok (.aload_n 0, 1) := by decide +kernel
theorem dX5_sweepTicks_132 : decode cX5_sweepTicks 132 = .ok (.getfield 40, 3) := by decide +kernel
theorem dX5_sweepTicks_135 : decode cX5_sweepTicks 135 = .ok (.getfield 164, 3) := by decide +kernel
theorem dX5_sweepTicks_138 : decode cX5_sweepTicks 138 = .ok (.ireturn, 1) := by decide +kernel
theorem dX5_trialRank_0 : decode cX5_trialRank 0 = .ok (.aload_n 0, 1) := by decide +kernel
theorem dX5_trialRank_1 : decode cX5_trialRank 1 = .ok (.getfield 12, 3) := by decide +kernel
theorem dX5_trialRank_4 : decode cX5_trialRank 4 = .ok (.getfield 64, 3) := by decide +kernel
theorem dX5_trialRank_7 : decode cX5_trialRank 7 = .ok (.aload_n 0, 1) := by decide +kernel
theorem dX5_trialRank_8 : decode cX5_trialRank 8 = .ok (.getfield 33, 3) := by decide +kernel
theorem dX5_trialRank_11 : decode cX5_trialRank 11 = .ok (.iload_n 1, 1) := by decide +kernel
theorem dX5_trialRank_12 : decode cX5_trialRank 12 = .ok (.invokevirtual 336, 3) := by decide +kernel
theorem dX5_trialRank_15 : decode cX5_trialRank 15 = .ok (.aload_n 0, 1) := by decide +kernel
theorem dX5_trialRank_16 : decode cX5_trialRank 16 = .ok (.getfield 33, 3) := by decide +kernel
theorem dX5_trialRank_19 : decode cX5_trialRank 19 = .ok (.iload_n 1, 1) := by decide +kernel
theorem dX5_trialRank_20 : decode cX5_trialRank 20 = .ok (.invokevirtual 339, 3) := by decide +kernel
theorem dX5_trialRank_23 : decode cX5_trialRank 23 = .ok (.invokevirtual 342, 3) := by decide +kernel
theorem dX5_trialRank_26 : decode cX5_trialRank 26 = .ok (.ireturn, 1) := by decide +kernel
theorem dX5_trialDelay_0 : decode cX5_trialDelay 0 = .ok (.aload_n 0, 1) := by decide +kernel
theorem dX5_trialDelay_1 : decode cX5_trialDelay 1 = .ok (.getfield 12, 3) := by decide +kernel
theorem dX5_trialDelay_4 : decode cX5_trialDelay 4 = .ok (.getfield 64, 3) := by decide +kernel
theorem dX5_trialDelay_7 : decode cX5_trialDelay 7 = .ok (.aload_n 0, 1) := by decide +kernel
theorem dX5_trialDelay_8 : decode cX5_trialDelay 8 = .ok (.getfield 33, 3) := by decide +kernel
theorem dX5_trialDelay_11 : decode cX5_trialDelay 11 = .ok (.iload_n 1, 1) := by decide +kernel
theorem dX5_trialDelay_12 : decode cX5_trialDelay 12 = .ok (.invokevirtual 336, 3) := by decide +kernel
theorem dX5_trialDelay_15 : decode cX5_trialDelay 15 = .ok (.invokevirtual 345, 3) := by decide +kernel
theorem dX5_trialDelay_18 : decode cX5_trialDelay 18 = .ok (.ireturn, 1) := by decide +kernel
theorem dX5_blocksIfStarted_0 : decode cX5_blocksIfStarted 0 = .ok (.aload_n 0, 1) := by decide +kernel
theorem dX5_blocksIfStarted_1 : decode cX5_blocksIfStarted 1 = .ok (.getfield 12, 3) := by decide +kernel
theorem dX5_blocksIfStarted_4 : decode cX5_blocksIfStarted 4 = .ok (.getfield 64, 3) := by decide +kernel
theorem dX5_blocksIfStarted_7 : decode cX5_blocksIfStarted 7 = .ok (.iload_n 1, 1) := by decide +kernel
theorem dX5_blocksIfStarted_8 : decode cX5_blocksIfStarted 8 = .ok (.invokevirtual 117, 3) := by decide +kernel
theorem dX5_blocksIfStarted_11 : decode cX5_blocksIfStarted 11 = .ok (.ifCond .eq 5, 3) := by decide +kernel
theorem dX5_blocksIfStarted_14 : decode cX5_blocksIfStarted 14 = .ok (.iconst 0, 1) := by decide +kernel
theorem dX5_blocksIfStarted_15 : decode cX5_blocksIfStarted 15 = .ok (.ireturn, 1) := by decide +kernel
theorem dX5_blocksIfStarted_16 : decode cX5_blocksIfStarted 16 = .ok (.aload_n 0, 1) := by decide +kernel
theorem dX5_blocksIfStarted_17 : decode cX5_blocksIfStarted 17 = .ok (.getfield 33, 3) := by decide +kernel
theorem dX5_blocksIfStarted_20 : decode cX5_blocksIfStarted 20 = .ok (.iload_n 1, 1) := by decide +kernel
theorem dX5_blocksIfStarted_21 : decode cX5_blocksIfStarted 21 = .ok (.aload_n 0, 1) := by decide +kernel
theorem dX5_blocksIfStarted_22 : decode cX5_blocksIfStarted 22 = .ok (.getfield 12, 3) := by decide +kernel
theorem dX5_blocksIfStarted_25 : decode cX5_blocksIfStarted 25 = .ok (.getfield 64, 3) := by decide +kernel
theorem dX5_blocksIfStarted_28 : decode cX5_blocksIfStarted 28 = .ok (.invokevirtual 313, 3) := by decide +kernel
theorem dX5_blocksIfStarted_31 : decode cX5_blocksIfStarted 31 = .ok (.iload_n 2, 1) := by decide +kernel
theorem dX5_blocksIfStarted_32 : decode cX5_blocksIfStarted 32 = .ok (.ifCond .ne 13, 3) := by decide +kernel
theorem dX5_blocksIfStarted_35 : decode cX5_blocksIfStarted 35 = .ok (.aload_n 0, 1) := by decide +kernel
theorem dX5_blocksIfStarted_36 : decode cX5_blocksIfStarted 36 = .ok (.getfield 33, 3) := by decide +kernel
theorem dX5_blocksIfStarted_39 : decode cX5_blocksIfStarted 39 = .ok (.getfield 128, 3) := by decide +kernel
theorem dX5_blocksIfStarted_42 : decode cX5_blocksIfStarted 42 = .ok (.goto 10, 3) := by decide +kernel
theorem dX5_blocksIfStarted_45 : decode cX5_blocksIfStarted 45 = .ok (.aload_n 0, 1) := by decide +kernel
theorem dX5_blocksIfStarted_46 : decode cX5_blocksIfStarted 46 = .ok (.getfield 33, 3) := by decide +kernel
theorem dX5_blocksIfStarted_49 : decode cX5_blocksIfStarted 49 = .ok (.getfield 253, 3) := by decide +kernel
theorem dX5_blocksIfStarted_52 : decode cX5_blocksIfStarted 52 = .ok (.ireturn, 1) := by decide +kernel
theorem dJ9_min_7cf53_0 : decode cJ9_min_7cf53 0 = .ok (.iload_n 0, 1) := by decide +kernel
theorem dJ9_min_7cf53_1 : decode cJ9_min_7cf53 1 = .ok (.iload_n 1, 1) := by decide +kernel
theorem dJ9_min_7cf53_2 : decode cJ9_min_7cf53 2 = .ok (.if_icmp .gt 7, 3) := by decide +kernel
theorem dJ9_min_7cf53_5 : decode cJ9_min_7cf53 5 = .ok (.iload_n 0, 1) := by decide +kernel
theorem dJ9_min_7cf53_6 : decode cJ9_min_7cf53 6 = .ok (.goto 4, 3) := by decide +kernel
theorem dJ9_min_7cf53_9 : decode cJ9_min_7cf53 9 = .ok (.iload_n 1, 1) := by decide +kernel
theorem dJ9_min_7cf53_10 : decode cJ9_min_7cf53 10 = .ok (.ireturn, 1) := by decide +kernel
theorem dJ7_fill_53178_0 : decode cJ7_fill_53178 0 = .ok (.iconst 0, 1) := by decide +kernel
theorem dJ7_fill_53178_1 : decode cJ7_fill_53178 1 = .ok (.istore_n 2, 1) := by decide +kernel
theorem dJ7_fill_53178_2 : decode cJ7_fill_53178 2 = .ok (.aload_n 0, 1) := by decide +kernel
theorem dJ7_fill_53178_3 : decode cJ7_fill_53178 3 = .ok (.arraylength, 1) := by decide +kernel
theorem dJ7_fill_53178_4 : decode cJ7_fill_53178 4 = .ok (.istore_n 3, 1) := by decide +kernel
theorem dJ7_fill_53178_5 : decode cJ7_fill_53178 5 = .ok (.iload_n 2, 1) := by decide +kernel
theorem dJ7_fill_53178_6 : decode cJ7_fill_53178 6 = .ok (.iload_n 3, 1) := by decide +kernel
theorem dJ7_fill_53178_7 : decode cJ7_fill_53178 7 = .ok (.if_icmp .ge 13, 3) := by decide +kernel
theorem dJ7_fill_53178_10 : decode cJ7_fill_53178 10 = .ok (.aload_n 0, 1) := by decide +kernel
theorem dJ7_fill_53178_11 : decode cJ7_fill_53178 11 = .ok (.iload_n 2, 1) := by decide +kernel
theorem dJ7_fill_53178_12 : decode cJ7_fill_53178 12 = .ok (.iload_n 1, 1) := by decide +kernel
theorem dJ7_fill_53178_13 : decode cJ7_fill_53178 13 = .ok (.iastore, 1) := by decide +kernel
theorem dJ7_fill_53178_14 : decode cJ7_fill_53178 14 = .ok (.iinc 2 1, 3) := by decide +kernel
theorem dJ7_fill_53178_17 : decode cJ7_fill_53178 17 = .ok (.goto (-12), 3) := by decide +kernel
theorem dJ7_fill_53178_20 : decode cJ7_fill_53178 20 = .ok (.return_, 1) := by decide +kernel
theorem dL_cell_0 : decode cL_cell 0 = .ok (.iload_n 1, 1) := by decide +kernel
theorem dL_cell_1 : decode cL_cell 1 = .ok (.aload_n 0, 1) := by decide +kernel
theorem dL_cell_2 : decode cL_cell 2 = .ok (.arraylength, 1) := by decide +kernel
theorem dL_cell_3 : decode cL_cell 3 = .ok (.if_icmp .ge 9, 3) := by decide +kernel
theorem dL_cell_6 : decode cL_cell 6 = .ok (.aload_n 0, 1) := by decide +kernel
theorem dL_cell_7 : decode cL_cell 7 = .ok (.iload_n 1, 1) := by decide +kernel
theorem dL_cell_8 : decode cL_cell 8 = .ok (.iaload, 1) := by decide +kernel
theorem dL_cell_9 : decode cL_cell 9 = .ok (.goto 9, 3) := by decide +kernel
theorem dL_cell_12 : decode cL_cell 12 = .ok (.ldc 7, 2) := by decide +kernel
theorem dL_cell_14 : decode cL_cell 14 = .ok (.iload_n 1, 1) := by decide +kernel
theorem dL_cell_15 : decode cL_cell 15 = .ok (.iconst 1, 1) := by decide +kernel
theorem dL_cell_16 : decode cL_cell 16 = .ok (.iadd, 1) := by decide +kernel
theorem dL_cell_17 : decode cL_cell 17 = .ok (.imul, 1) := by decide +kernel
theorem dL_cell_18 : decode cL_cell 18 = .ok (.ireturn, 1) := by decide +kernel
theorem dL_low_0 : decode cL_low 0 = .ok (.iload_n 0, 1) := by decide +kernel
theorem dL_low_1 : decode cL_low 1 = .ok (.ldc 8, 2) := by decide +kernel
theorem dL_low_3 : decode cL_low 3 = .ok (.iand, 1) := by decide +kernel
theorem dL_low_4 : decode cL_low 4 = .ok (.iload_n 1, 1) := by decide +kernel
theorem dL_low_5 : decode cL_low 5 = .ok (.irem, 1) := by decide +kernel
theorem dL_low_6 : decode cL_low 6 = .ok (.ireturn, 1) := by decide +kernel
theorem dL_plug_0 : decode cL_plug 0 = .ok (.aload_n 0, 1) := by decide +kernel
theorem dL_plug_1 : decode cL_plug 1 = .ok (.iload_n 1, 1) := by decide +kernel
theorem dL_plug_2 : decode cL_plug 2 = .ok (.iload_n 2, 1) := by decide +kernel
theorem dL_plug_3 : decode cL_plug 3 = .ok (.iload_n 3, 1) := by decide +kernel
theorem dL_plug_4 : decode cL_plug 4 = .ok (.iload 4, 2) := by decide +kernel
theorem dL_plug_6 : decode cL_plug 6 = .ok (.invokevirtual 9, 3) := by decide +kernel
theorem dL_plug_9 : decode cL_plug 9 = .ok (.istore 5, 2) := by decide +kernel
theorem dL_plug_11 : decode cL_plug 11 = .ok (.goto 18, 3) := by decide +kernel
theorem dL_plug_14 : decode cL_plug 14 = .ok (.astore 6, 2) := by decide +kernel
theorem dL_plug_16 : decode cL_plug 16 = .ok (.bipush (-31), 2) := by decide +kernel
theorem dL_plug_18 : decode cL_plug 18 = .ok (.ireturn, 1) := by decide +kernel
theorem dL_plug_19 : decode cL_plug 19 = .ok (.astore 6, 2) := by decide +kernel
theorem dL_plug_21 : decode cL_plug 21 = .ok (.bipush (-32), 2) := by decide +kernel
theorem dL_plug_23 : decode cL_plug 23 = .ok (.ireturn, 1) := by decide +kernel
theorem dL_plug_24 : decode cL_plug 24 = .ok (.astore 6, 2) := by decide +kernel
theorem dL_plug_26 : decode cL_plug 26 = .ok (.bipush (-33), 2) := by decide +kernel
theorem dL_plug_28 : decode cL_plug 28 = .ok (.ireturn, 1) := by decide +kernel
theorem dL_plug_29 : decode cL_plug 29 = .ok (.iload 5, 2) := by decide +kernel
theorem dL_plug_31 : decode cL_plug 31 = .ok (.ireturn, 1) := by decide +kernel
theorem dL_pull_0 : decode cL_pull 0 = .ok (.aload_n 0, 1) := by decide +kernel
theorem dL_pull_1 : decode cL_pull 1 = .ok (.iload_n 1, 1) := by decide +kernel
theorem dL_pull_2 : decode cL_pull 2 = .ok (.invokevirtual 21, 3) := by decide +kernel
theorem dL_pull_5 : decode cL_pull 5 = .ok (.istore_n 2, 1) := by decide +kernel
theorem dL_pull_6 : decode cL_pull 6 = .ok (.goto 11, 3) := by decide +kernel
theorem dL_pull_9 : decode cL_pull 9 = .ok (.astore_n 3, 1) := by decide +kernel
theorem dL_pull_10 : decode cL_pull 10 = .ok (.bipush (-31), 2) := by decide +kernel
theorem dL_pull_12 : decode cL_pull 12 = .ok (.ireturn, 1) := by decide +kernel
theorem dL_pull_13 : decode cL_pull 13 = .ok (.astore_n 3, 1) := by decide +kernel
theorem dL_pull_14 : decode cL_pull 14 = .ok (.bipush (-33), 2) := by decide +kernel
theorem dL_pull_16 : decode cL_pull 16 = .ok (.ireturn, 1) := by decide +kernel
theorem dL_pull_17 : decode cL_pull 17 = .ok (.iload_n 2, 1) := by decide +kernel
theorem dL_pull_18 : decode cL_pull 18 = .ok (.ireturn, 1) := by decide +kernel
theorem dL_fail_0 : decode cL_fail 0 = .ok (.aload_n 0, 1) := by decide +kernel
theorem dL_fail_1 : decode cL_fail 1 = .ok (.iload_n 1, 1) := by decide +kernel
theorem dL_fail_2 : decode cL_fail 2 = .ok (.invokevirtual 25, 3) := by decide +kernel
theorem dL_fail_5 : decode cL_fail 5 = .ok (.istore_n 2, 1) := by decide +kernel
theorem dL_fail_6 : decode cL_fail 6 = .ok (.goto 11, 3) := by decide +kernel
theorem dL_fail_9 : decode cL_fail 9 = .ok (.astore_n 3, 1) := by decide +kernel
theorem dL_fail_10 : decode cL_fail 10 = .ok (.bipush (-31), 2) := by decide +kernel
theorem dL_fail_12 : decode cL_fail 12 = .ok (.ireturn, 1) := by decide +kernel
theorem dL_fail_13 : decode cL_fail 13 = .ok (.astore_n 3, 1) := by decide +kernel
theorem dL_fail_14 : decode cL_fail 14 = .ok (.bipush (-33), 2) := by decide +kernel
theorem dL_fail_16 : decode cL_fail 16 = .ok (.ireturn, 1) := by decide +kernel
theorem dL_fail_17 : decode cL_fail 17 = .ok (.iload_n 2, 1) := by decide +kernel
theorem dL_fail_18 : decode cL_fail 18 = .ok (.ireturn, 1) := by decide +kernel
theorem dL_start_0 : decode cL_start 0 = .ok (.aload_n 0, 1) := by decide +kernel
theorem dL_start_1 : decode cL_start 1 = .ok (.invokevirtual 28, 3) := by decide +kernel
theorem dL_start_4 : decode cL_start 4 = .ok (.istore_n 1, 1) := by decide +kernel
theorem dL_start_5 : decode cL_start 5 = .ok (.goto 7, 3) := by decide +kernel
theorem dL_start_8 : decode cL_start 8 = .ok (.astore_n 2, 1) := by decide +kernel
theorem dL_start_9 : decode cL_start 9 = .ok (.bipush (-33), 2) := by decide +kernel
theorem dL_start_11 : decode cL_start 11 = .ok (.ireturn, 1) := by decide +kernel
theorem dL_start_12 : decode cL_start 12 = .ok (.iload_n 1, 1) := by decide +kernel
theorem dL_start_13 : decode cL_start 13 = .ok (.ireturn, 1) := by decide +kernel
theorem dL_stop_0 : decode cL_stop 0 = .ok (.aload_n 0, 1) := by decide +kernel
theorem dL_stop_1 : decode cL_stop 1 = .ok (.invokevirtual 32, 3) := by decide +kernel
theorem dL_stop_4 : decode cL_stop 4 = .ok (.istore_n 1, 1) := by decide +kernel
theorem dL_stop_5 : decode cL_stop 5 = .ok (.goto 7, 3) := by decide +kernel
theorem dL_stop_8 : decode cL_stop 8 = .ok (.astore_n 2, 1) := by decide +kernel
theorem dL_stop_9 : decode cL_stop 9 = .ok (.bipush (-33), 2) := by decide +kernel
theorem dL_stop_11 : decode cL_stop 11 = .ok (.ireturn, 1) := by decide +kernel
theorem dL_stop_12 : decode cL_stop 12 = .ok (.iload_n 1, 1) := by decide +kernel
theorem dL_stop_13 : decode cL_stop 13 = .ok (.ireturn, 1) := by decide +kernel
theorem dL_write_0 : decode cL_write 0 = .ok (.aload_n 0, 1) := by decide +kernel
theorem dL_write_1 : decode cL_write 1 = .ok (.iload_n 1, 1) := by decide +kernel
theorem dL_write_2 : decode cL_write 2 = .ok (.iload_n 2, 1) := by decide +kernel
theorem dL_write_3 : decode cL_write 3 = .ok (.invokevirtual 35, 3) := by decide +kernel
theorem dL_write_6 : decode cL_write 6 = .ok (.istore_n 3, 1) := by decide +kernel
theorem dL_write_7 : decode cL_write 7 = .ok (.goto 18, 3) := by decide +kernel
theorem dL_write_10 : decode cL_write 10 = .ok (.astore 4, 2) := by decide +kernel
theorem dL_write_12 : decode cL_write 12 = .ok (.bipush (-31), 2) := by decide +kernel
theorem dL_write_14 : decode cL_write 14 = .ok (.ireturn, 1) := by decide +kernel
theorem dL_write_15 : decode cL_write 15 = .ok (.astore 4, 2) := by decide +kernel
theorem dL_write_17 : decode cL_write 17 = .ok (.bipush (-32), 2) := by decide +kernel
theorem dL_write_19 : decode cL_write 19 = .ok (.ireturn, 1) := by decide +kernel
theorem dL_write_20 : decode cL_write 20 = .ok (.astore 4, 2) := by decide +kernel
theorem dL_write_22 : decode cL_write 22 = .ok (.bipush (-33), 2) := by decide +kernel
theorem dL_write_24 : decode cL_write 24 = .ok (.ireturn, 1) := by decide +kernel
theorem dL_write_25 : decode cL_write 25 = .ok (.iload_n 3, 1) := by decide +kernel
theorem dL_write_26 : decode cL_write 26 = .ok (.ireturn, 1) := by decide +kernel
theorem dL_read_0 : decode cL_read 0 = .ok (.aload_n 0, 1) := by decide +kernel
theorem dL_read_1 : decode cL_read 1 = .ok (.iload_n 1, 1) := by decide +kernel
theorem dL_read_2 : decode cL_read 2 = .ok (.invokevirtual 39, 3) := by decide +kernel
theorem dL_read_5 : decode cL_read 5 = .ok (.istore_n 2, 1) := by decide +kernel
theorem dL_read_6 : decode cL_read 6 = .ok (.goto 11, 3) := by decide +kernel
theorem dL_read_9 : decode cL_read 9 = .ok (.astore_n 3, 1) := by decide +kernel
theorem dL_read_10 : decode cL_read 10 = .ok (.bipush (-31), 2) := by decide +kernel
theorem dL_read_12 : decode cL_read 12 = .ok (.ireturn, 1) := by decide +kernel
theorem dL_read_13 : decode cL_read 13 = .ok (.astore_n 3, 1) := by decide +kernel
theorem dL_read_14 : decode cL_read 14 = .ok (.bipush (-33), 2) := by decide +kernel
theorem dL_read_16 : decode cL_read 16 = .ok (.ireturn, 1) := by decide +kernel
theorem dL_read_17 : decode cL_read 17 = .ok (.iload_n 2, 1) := by decide +kernel
theorem dL_read_18 : decode cL_read 18 = .ok (.ireturn, 1) := by decide +kernel
theorem dL_rest_0 : decode cL_rest 0 = .ok (.aload_n 0, 1) := by decide +kernel
theorem dL_rest_1 : decode cL_rest 1 = .ok (.iload_n 1, 1) := by decide +kernel
theorem dL_rest_2 : decode cL_rest 2 = .ok (.invokevirtual 42, 3) := by decide +kernel
theorem dL_rest_5 : decode cL_rest 5 = .ok (.istore_n 2, 1) := by decide +kernel
theorem dL_rest_6 : decode cL_rest 6 = .ok (.goto 7, 3) := by decide +kernel
theorem dL_rest_9 : decode cL_rest 9 = .ok (.astore_n 3, 1) := by decide +kernel
theorem dL_rest_10 : decode cL_rest 10 = .ok (.bipush (-32), 2) := by decide +kernel
theorem dL_rest_12 : decode cL_rest 12 = .ok (.ireturn, 1) := by decide +kernel
theorem dL_rest_13 : decode cL_rest 13 = .ok (.iload_n 2, 1) := by decide +kernel
theorem dL_rest_14 : decode cL_rest 14 = .ok (.ireturn, 1) := by decide +kernel
theorem dL_set_0 : decode cL_set 0 = .ok (.aload_n 0, 1) := by decide +kernel
theorem dL_set_1 : decode cL_set 1 = .ok (.iload_n 1, 1) := by decide +kernel
theorem dL_set_2 : decode cL_set 2 = .ok (.iload_n 2, 1) := by decide +kernel
theorem dL_set_3 : decode cL_set 3 = .ok (.invokevirtual 45, 3) := by decide +kernel
theorem dL_set_6 : decode cL_set 6 = .ok (.istore_n 3, 1) := by decide +kernel
theorem dL_set_7 : decode cL_set 7 = .ok (.goto 13, 3) := by decide +kernel
theorem dL_set_10 : decode cL_set 10 = .ok (.astore 4, 2) := by decide +kernel
theorem dL_set_12 : decode cL_set 12 = .ok (.bipush (-31), 2) := by decide +kernel
theorem dL_set_14 : decode cL_set 14 = .ok (.ireturn, 1) := by decide +kernel
theorem dL_set_15 : decode cL_set 15 = .ok (.astore 4, 2) := by decide +kernel
theorem dL_set_17 : decode cL_set 17 = .ok (.bipush (-32), 2) := by decide +kernel
theorem dL_set_19 : decode cL_set 19 = .ok (.ireturn, 1) := by decide +kernel
theorem dL_set_20 : decode cL_set 20 = .ok (.iload_n 3, 1) := by decide +kernel
theorem dL_set_21 : decode cL_set 21 = .ok (.ireturn, 1) := by decide +kernel
theorem dL_undo_0 : decode cL_undo 0 = .ok (.aload_n 0, 1) := by decide +kernel
theorem dL_undo_1 : decode cL_undo 1 = .ok (.invokevirtual 48, 3) := by decide +kernel
theorem dL_undo_4 : decode cL_undo 4 = .ok (.istore_n 1, 1) := by decide +kernel
theorem dL_undo_5 : decode cL_undo 5 = .ok (.goto 7, 3) := by decide +kernel
theorem dL_undo_8 : decode cL_undo 8 = .ok (.astore_n 2, 1) := by decide +kernel
theorem dL_undo_9 : decode cL_undo 9 = .ok (.bipush (-33), 2) := by decide +kernel
theorem dL_undo_11 : decode cL_undo 11 = .ok (.ireturn, 1) := by decide +kernel
theorem dL_undo_12 : decode cL_undo 12 = .ok (.iload_n 1, 1) := by decide +kernel
theorem dL_undo_13 : decode cL_undo 13 = .ok (.ireturn, 1) := by decide +kernel
theorem dL_where_0 : decode cL_where 0 = .ok (.aload_n 0, 1) := by decide +kernel
theorem dL_where_1 : decode cL_where 1 = .ok (.iload_n 1, 1) := by decide +kernel
theorem dL_where_2 : decode cL_where 2 = .ok (.iload_n 2, 1) := by decide +kernel
theorem dL_where_3 : decode cL_where 3 = .ok (.invokevirtual 51, 3) := by decide +kernel
theorem dL_where_6 : decode cL_where 6 = .ok (.istore_n 3, 1) := by decide +kernel
theorem dL_where_7 : decode cL_where 7 = .ok (.goto 13, 3) := by decide +kernel
theorem dL_where_10 : decode cL_where 10 = .ok (.astore 4, 2) := by decide +kernel
theorem dL_where_12 : decode cL_where 12 = .ok (.bipush (-31), 2) := by decide +kernel
theorem dL_where_14 : decode cL_where 14 = .ok (.ireturn, 1) := by decide +kernel
theorem dL_where_15 : decode cL_where 15 = .ok (.astore 4, 2) := by decide +kernel
theorem dL_where_17 : decode cL_where 17 = .ok (.bipush (-32), 2) := by decide +kernel
theorem dL_where_19 : decode cL_where 19 = .ok (.ireturn, 1) := by decide +kernel
theorem dL_where_20 : decode cL_where 20 = .ok (.iload_n 3, 1) := by decide +kernel
theorem dL_where_21 : decode cL_where 21 = .ok (.ireturn, 1) := by decide +kernel
theorem dL_lies_0 : decode cL_lies 0 = .ok (.aload_n 0, 1) := by decide +kernel
theorem dL_lies_1 : decode cL_lies 1 = .ok (.iload_n 1, 1) := by decide +kernel
theorem dL_lies_2 : decode cL_lies 2 = .ok (.iload_n 2, 1) := by decide +kernel
theorem dL_lies_3 : decode cL_lies 3 = .ok (.invokevirtual 54, 3) := by decide +kernel
theorem dL_lies_6 : decode cL_lies 6 = .ok (.istore_n 3, 1) := by decide +kernel
theorem dL_lies_7 : decode cL_lies 7 = .ok (.goto 8, 3) := by decide +kernel
theorem dL_lies_10 : decode cL_lies 10 = .ok (.astore 4, 2) := by decide +kernel
theorem dL_lies_12 : decode cL_lies 12 = .ok (.bipush (-31), 2) := by decide +kernel
theorem dL_lies_14 : decode cL_lies 14 = .ok (.ireturn, 1) := by decide +kernel
theorem dL_lies_15 : decode cL_lies 15 = .ok (.iload_n 3, 1) := by decide +kernel
theorem dL_lies_16 : decode cL_lies 16 = .ok (.ireturn, 1) := by decide +kernel
theorem dL_slot_0 : decode cL_slot 0 = .ok (.aload_n 0, 1) := by decide +kernel
theorem dL_slot_1 : decode cL_slot 1 = .ok (.iload_n 1, 1) := by decide +kernel
theorem dL_slot_2 : decode cL_slot 2 = .ok (.iload_n 2, 1) := by decide +kernel
theorem dL_slot_3 : decode cL_slot 3 = .ok (.invokevirtual 57, 3) := by decide +kernel
theorem dL_slot_6 : decode cL_slot 6 = .ok (.istore_n 3, 1) := by decide +kernel
theorem dL_slot_7 : decode cL_slot 7 = .ok (.goto 13, 3) := by decide +kernel
theorem dL_slot_10 : decode cL_slot 10 = .ok (.astore 4, 2) := by decide +kernel
theorem dL_slot_12 : decode cL_slot 12 = .ok (.bipush (-31), 2) := by decide +kernel
theorem dL_slot_14 : decode cL_slot 14 = .ok (.ireturn, 1) := by decide +kernel
theorem dL_slot_15 : decode cL_slot 15 = .ok (.astore 4, 2) := by decide +kernel
theorem dL_slot_17 : decode cL_slot 17 = .ok (.bipush (-32), 2) := by decide +kernel
theorem dL_slot_19 : decode cL_slot 19 = .ok (.ireturn, 1) := by decide +kernel
theorem dL_slot_20 : decode cL_slot 20 = .ok (.iload_n 3, 1) := by decide +kernel
theorem dL_slot_21 : decode cL_slot 21 = .ok (.ireturn, 1) := by decide +kernel
theorem dL_isLeft_0 : decode cL_isLeft 0 = .ok (.iload_n 1, 1) := by decide +kernel
theorem dL_isLeft_1 : decode cL_isLeft 1 = .ok (.ifCond .lt 36, 3) := by decide +kernel
theorem dL_isLeft_4 : decode cL_isLeft 4 = .ok (.aload_n 0, 1) := by decide +kernel
theorem dL_isLeft_5 : decode cL_isLeft 5 = .ok (.bipush 8, 2) := by decide +kernel
theorem dL_isLeft_7 : decode cL_isLeft 7 = .ok (.iload_n 1, 1) := by decide +kernel
theorem dL_isLeft_8 : decode cL_isLeft 8 = .ok (.bipush 12, 2) := by decide +kernel
theorem dL_isLeft_10 : decode cL_isLeft 10 = .ok (.idiv, 1) := by decide +kernel
theorem dL_isLeft_11 : decode cL_isLeft 11 = .ok (.imul, 1) := by decide +kernel
theorem dL_isLeft_12 : decode cL_isLeft 12 = .ok (.iconst 4, 1) := by decide +kernel
theorem dL_isLeft_13 : decode cL_isLeft 13 = .ok (.iadd, 1) := by decide +kernel
theorem dL_isLeft_14 : decode cL_isLeft 14 = .ok (.iaload, 1) := by decide +kernel
theorem dL_isLeft_15 : decode cL_isLeft 15 = .ok (.iconst 1, 1) := by decide +kernel
theorem dL_isLeft_16 : decode cL_isLeft 16 = .ok (.if_icmp .ne 21, 3) := by decide +kernel
theorem dL_isLeft_19 : decode cL_isLeft 19 = .ok (.aload_n 0, 1) := by decide +kernel
theorem dL_isLeft_20 : decode cL_isLeft 20 = .ok (.bipush 8, 2) := by decide +kernel
theorem dL_isLeft_22 : decode cL_isLeft 22 = .ok (.iload_n 1, 1) := by decide +kernel
theorem dL_isLeft_23 : decode cL_isLeft 23 = .ok (.bipush 12, 2) := by decide +kernel
theorem dL_isLeft_25 : decode cL_isLeft 25 = .ok (.idiv, 1) := by decide +kernel
theorem dL_isLeft_26 : decode cL_isLeft 26 = .ok (.imul, 1) := by decide +kernel
theorem dL_isLeft_27 : decode cL_isLeft 27 = .ok (.iconst 3, 1) := by decide +kernel
theorem dL_isLeft_28 : decode cL_isLeft 28 = .ok (.iadd, 1) := by decide +kernel
theorem dL_isLeft_29 : decode cL_isLeft 29 = .ok (.iaload, 1) := by decide +kernel
theorem dL_isLeft_30 : decode cL_isLeft 30 = .ok (.ifCond .ne 7, 3) := by decide +kernel
theorem dL_isLeft_33 : decode cL_isLeft 33 = .ok (.iconst 1, 1) := by decide +kernel
theorem dL_isLeft_34 : decode cL_isLeft 34 = .ok (.goto 4, 3) := by decide +kernel
theorem dL_isLeft_37 : decode cL_isLeft 37 = .ok (.iconst 0, 1) := by decide +kernel
theorem dL_isLeft_38 : decode cL_isLeft 38 = .ok (.ireturn, 1) := by decide +kernel
theorem dL_good_0 : decode cL_good 0 = .ok (.iconst 0, 1) := by decide +kernel
theorem dL_good_1 : decode cL_good 1 = .ok (.istore_n 2, 1) := by decide +kernel
theorem dL_good_2 : decode cL_good 2 = .ok (.bipush 16, 2) := by decide +kernel
theorem dL_good_4 : decode cL_good 4 = .ok (.iload_n 1, 1) := by decide +kernel
theorem dL_good_5 : decode cL_good 5 = .ok (.imul, 1) := by decide +kernel
theorem dL_good_6 : decode cL_good 6 = .ok (.istore_n 3, 1) := by decide +kernel
theorem dL_good_7 : decode cL_good 7 = .ok (.iload_n 3, 1) := by decide +kernel
theorem dL_good_8 : decode cL_good 8 = .ok (.bipush 16, 2) := by decide +kernel
theorem dL_good_10 : decode cL_good 10 = .ok (.iload_n 1, 1) := by decide +kernel
theorem dL_good_11 : decode cL_good 11 = .ok (.imul, 1) := by decide +kernel
theorem dL_good_12 : decode cL_good 12 = .ok (.bipush 16, 2) := by decide +kernel
theorem dL_good_14 : decode cL_good 14 = .ok (.iadd, 1) := by decide +kernel
theorem dL_good_15 : decode cL_good 15 = .ok (.if_icmp .ge 27, 3) := by decide +kernel
theorem dL_good_18 : decode cL_good 18 = .ok (.iload_n 2, 1) := by decide +kernel
theorem dL_good_19 : decode cL_good 19 = .ok (.aload_n 0, 1) := by decide +kernel
theorem dL_good_20 : decode cL_good 20 = .ok (.iload_n 3, 1) := by decide +kernel
theorem dL_good_21 : decode cL_good 21 = .ok (.iconst 3, 1) := by decide +kernel
theorem dL_good_22 : decode cL_good 22 = .ok (.iadd, 1) := by decide +kernel
theorem dL_good_23 : decode cL_good 23 = .ok (.iaload, 1) := by decide +kernel
theorem dL_good_24 : decode cL_good 24 = .ok (.ifCond .ne 9, 3) := by decide +kernel
theorem dL_good_27 : decode cL_good 27 = .ok (.aload_n 0, 1) := by decide +kernel
theorem dL_good_28 : decode cL_good 28 = .ok (.iload_n 3, 1) := by decide +kernel
theorem dL_good_29 : decode cL_good 29 = .ok (.iaload, 1) := by decide +kernel
theorem dL_good_30 : decode cL_good 30 = .ok (.goto 4, 3) := by decide +kernel
theorem dL_good_33 : decode cL_good 33 = .ok (.iconst 0, 1) := by decide +kernel
theorem dL_good_34 : decode cL_good 34 = .ok (.iadd, 1) := by decide +kernel
theorem dL_good_35 : decode cL_good 35 = .ok (.istore_n 2, 1) := by decide +kernel
theorem dL_good_36 : decode cL_good 36 = .ok (.iinc 3 8, 3) := by decide +kernel
theorem dL_good_39 : decode cL_good 39 = .ok (.goto (-32), 3) := by decide +kernel
theorem dL_good_42 : decode cL_good 42 = .ok (.iload_n 2, 1) := by decide +kernel
theorem dL_good_43 : decode cL_good 43 = .ok (.ireturn, 1) := by decide +kernel
theorem dL_place_0 : decode cL_place 0 = .ok (.aload_n 0, 1) := by decide +kernel
theorem dL_place_1 : decode cL_place 1 = .ok (.bipush 16, 2) := by decide +kernel
theorem dL_place_3 : decode cL_place 3 = .ok (.iload_n 1, 1) := by decide +kernel
theorem dL_place_4 : decode cL_place 4 = .ok (.imul, 1) := by decide +kernel
theorem dL_place_5 : decode cL_place 5 = .ok (.iconst 3, 1) := by decide +kernel
theorem dL_place_6 : decode cL_place 6 = .ok (.iadd, 1) := by decide +kernel
theorem dL_place_7 : decode cL_place 7 = .ok (.iaload, 1) := by decide +kernel
theorem dL_place_8 : decode cL_place 8 = .ok (.ifCond .ne 12, 3) := by decide +kernel
theorem dL_place_11 : decode cL_place 11 = .ok (.aload_n 0, 1) := by decide +kernel
theorem dL_place_12 : decode cL_place 12 = .ok (.bipush 16, 2) := by decide +kernel
theorem dL_place_14 : decode cL_place 14 = .ok (.iload_n 1, 1) := by decide +kernel
theorem dL_place_15 : decode cL_place 15 = .ok (.imul, 1) := by decide +kernel
theorem dL_place_16 : decode cL_place 16 = .ok (.iaload, 1) := by decide +kernel
theorem dL_place_17 : decode cL_place 17 = .ok (.goto 4, 3) := by decide +kernel
theorem dL_place_20 : decode cL_place 20 = .ok (.iconst 0, 1) := by decide +kernel
theorem dL_place_21 : decode cL_place 21 = .ok (.istore_n 3, 1) := by decide +kernel
theorem dL_place_22 : decode cL_place 22 = .ok (.iload_n 2, 1) := by decide +kernel
theorem dL_place_23 : decode cL_place 23 = .ok (.aload_n 0, 1) := by decide +kernel
theorem dL_place_24 : decode cL_place 24 = .ok (.iload_n 1, 1) := by decide +kernel
theorem dL_place_25 : decode cL_place 25 = .ok (.invokestatic 60, 3) := by decide +kernel
theorem dL_place_28 : decode cL_place 28 = .ok (.if_icmp .lt 7, 3) := by decide +kernel
theorem dL_place_31 : decode cL_place 31 = .ok (.iconst (-1), 1) := by decide +kernel
theorem dL_place_32 : decode cL_place 32 = .ok (.goto 28, 3) := by decide +kernel
theorem dL_place_35 : decode cL_place 35 = .ok (.iload_n 2, 1) := by decide +kernel
theorem dL_place_36 : decode cL_place 36 = .ok (.iload_n 3, 1) := by decide +kernel
theorem dL_place_37 : decode cL_place 37 = .ok (.if_icmp .ge 12, 3) := by decide +kernel
theorem dL_place_40 : decode cL_place 40 = .ok (.bipush 24, 2) := by decide +kernel
theorem dL_place_42 : decode cL_place 42 = .ok (.iload_n 1, 1) := by decide +kernel
theorem dL_place_43 : decode cL_place 43 = .ok (.imul, 1) := by decide +kernel
theorem dL_place_44 : decode cL_place 44 = .ok (.iload_n 2, 1) := by decide +kernel
theorem dL_place_45 : decode cL_place 45 = .ok (.iadd, 1) := by decide +kernel
theorem dL_place_46 : decode cL_place 46 = .ok (.goto 14, 3) := by decide +kernel
theorem dL_place_49 : decode cL_place 49 = .ok (.bipush 24, 2) := by decide +kernel
theorem dL_place_51 : decode cL_place 51 = .ok (.iload_n 1, 1) := by decide +kernel
theorem dL_place_52 : decode cL_place 52 = .ok (.imul, 1) := by decide +kernel
theorem dL_place_53 : decode cL_place 53 = .ok (.bipush 12, 2) := by decide +kernel
theorem dL_place_55 : decode cL_place 55 = .ok (.iadd, 1) := by decide +kernel
theorem dL_place_56 : decode cL_place 56 = .ok (.iload_n 2, 1) := by decide +kernel
theorem dL_place_57 : decode cL_place 57 = .ok (.iadd, 1) := by decide +kernel
theorem dL_place_58 : decode cL_place 58 = .ok (.iload_n 3, 1) := by decide +kernel
theorem dL_place_59 : decode cL_place 59 = .ok (.isub, 1) := by decide +kernel
theorem dL_place_60 : decode cL_place 60 = .ok (.ireturn, 1) := by decide +kernel
theorem dL_why_0 : decode cL_why 0 = .ok (.aload_n 0, 1) := by decide +kernel
theorem dL_why_1 : decode cL_why 1 = .ok (.iconst 0, 1) := by decide +kernel
theorem dL_why_2 : decode cL_why 2 = .ok (.invokestatic 60, 3) := by decide +kernel
theorem dL_why_5 : decode cL_why 5 = .ok (.ifCond .ne 15, 3) := by decide +kernel
theorem dL_why_8 : decode cL_why 8 = .ok (.aload_n 0, 1) := by decide +kernel
theorem dL_why_9 : decode cL_why 9 = .ok (.iconst 1, 1) := by decide +kernel
theorem dL_why_10 : decode cL_why 10 = .ok (.invokestatic 60, 3) := by decide +kernel
theorem dL_why_13 : decode cL_why 13 = .ok (.ifCond .ne 7, 3) := by decide +kernel
theorem dL_why_16 : decode cL_why 16 = .ok (.iconst 1, 1) := by decide +kernel
theorem dL_why_17 : decode cL_why 17 = .ok (.goto 27, 3) := by decide +kernel
theorem dL_why_20 : decode cL_why 20 = .ok (.iload_n 1, 1) := by decide +kernel
theorem dL_why_21 : decode cL_why 21 = .ok (.iconst 2, 1) := by decide +kernel
theorem dL_why_22 : decode cL_why 22 = .ok (.if_icmp .ne 21, 3) := by decide +kernel
theorem dL_why_25 : decode cL_why 25 = .ok (.aload_n 0, 1) := by decide +kernel
theorem dL_why_26 : decode cL_why 26 = .ok (.iconst 0, 1) := by decide +kernel
theorem dL_why_27 : decode cL_why 27 = .ok (.invokestatic 60, 3) := by decide +kernel
theorem dL_why_30 : decode cL_why 30 = .ok (.aload_n 0, 1) := by decide +kernel
theorem dL_why_31 : decode cL_why 31 = .ok (.iconst 1, 1) := by decide +kernel
theorem dL_why_32 : decode cL_why 32 = .ok (.invokestatic 60, 3) := by decide +kernel
theorem dL_why_35 : decode cL_why 35 = .ok (.imul, 1) := by decide +kernel
theorem dL_why_36 : decode cL_why 36 = .ok (.ifCond .ne 7, 3) := by decide +kernel
theorem dL_why_39 : decode cL_why 39 = .ok (.iconst 2, 1) := by decide +kernel
theorem dL_why_40 : decode cL_why 40 = .ok (.goto 4, 3) := by decide +kernel
theorem dL_why_43 : decode cL_why 43 = .ok (.iconst 0, 1) := by decide +kernel
theorem dL_why_44 : decode cL_why 44 = .ok (.ireturn, 1) := by decide +kernel
theorem dL_make_0 : decode cL_make 0 = .ok (.aload_n 1, 1) := by decide +kernel
theorem dL_make_1 : decode cL_make 1 = .ok (.iconst 0, 1) := by decide +kernel
theorem dL_make_2 : decode cL_make 2 = .ok (.invokestatic 60, 3) := by decide +kernel
theorem dL_make_5 : decode cL_make 5 = .ok (.istore 6, 2) := by decide +kernel
theorem dL_make_7 : decode cL_make 7 = .ok (.aload_n 1, 1) := by decide +kernel
theorem dL_make_8 : decode cL_make 8 = .ok (.iconst 1, 1) := by decide +kernel
theorem dL_make_9 : decode cL_make 9 = .ok (.invokestatic 60, 3) := by decide +kernel
theorem dL_make_12 : decode cL_make 12 = .ok (.istore 7, 2) := by decide +kernel
theorem dL_make_14 : decode cL_make 14 = .ok (.iload 6, 2) := by decide +kernel
theorem dL_make_16 : decode cL_make 16 = .ok (.iload 7, 2) := by decide +kernel
theorem dL_make_18 : decode cL_make 18 = .ok (.if_icmp .ge 8, 3) := by decide +kernel
theorem dL_make_21 : decode cL_make 21 = .ok (.iload 6, 2) := by decide +kernel
theorem dL_make_23 : decode cL_make 23 = .ok (.goto 5, 3) := by decide +kernel
theorem dL_make_26 : decode cL_make 26 = .ok (.iload 7, 2) := by decide +kernel
theorem dL_make_28 : decode cL_make 28 = .ok (.istore 8, 2) := by decide +kernel
theorem dL_make_30 : decode cL_make 30 = .ok (.aload_n 0, 1) := by decide +kernel
theorem dL_make_31 : decode cL_make 31 = .ok (.bipush 9, 2) := by decide +kernel
theorem dL_make_33 : decode cL_make 33 = .ok (.iload 5, 2) := by decide +kernel
theorem dL_make_35 : decode cL_make 35 = .ok (.iastore, 1) := by decide +kernel
theorem dL_make_36 : decode cL_make 36 = .ok (.aload_n 0, 1) := by decide +kernel
theorem dL_make_37 : decode cL_make 37 = .ok (.iconst 0, 1) := by decide +kernel
theorem dL_make_38 : decode cL_make 38 = .ok (.iload 5, 2) := by decide +kernel
theorem dL_make_40 : decode cL_make 40 = .ok (.iconst 2, 1) := by decide +kernel
theorem dL_make_41 : decode cL_make 41 = .ok (.if_icmp .ne 8, 3) := by decide +kernel
theorem dL_make_44 : decode cL_make 44 = .ok (.iload 8, 2) := by decide +kernel
theorem dL_make_46 : decode cL_make 46 = .ok (.goto 8, 3) := by decide +kernel
theorem dL_make_49 : decode cL_make 49 = .ok (.iload 6, 2) := by decide +kernel
theorem dL_make_51 : decode cL_make 51 = .ok (.iload 7, 2) := by decide +kernel
theorem dL_make_53 : decode cL_make 53 = .ok (.iadd, 1) := by decide +kernel
theorem dL_make_54 : decode cL_make 54 = .ok (.iastore, 1) := by decide +kernel
theorem dL_make_55 : decode cL_make 55 = .ok (.aload_n 0, 1) := by decide +kernel
theorem dL_make_56 : decode cL_make 56 = .ok (.iconst 1, 1) := by decide +kernel
theorem dL_make_57 : decode cL_make 57 = .ok (.iload 5, 2) := by decide +kernel
theorem dL_make_59 : decode cL_make 59 = .ok (.ifCond .ne 10, 3) := by decide +kernel
theorem dL_make_62 : decode cL_make 62 = .ok (.iconst 2, 1) := by decide +kernel
theorem dL_make_63 : decode cL_make 63 = .ok (.iload 8, 2) := by decide +kernel
theorem dL_make_65 : decode cL_make 65 = .ok (.imul, 1) := by decide +kernel
theorem dL_make_66 : decode cL_make 66 = .ok (.goto 4, 3) := by decide +kernel
theorem dL_make_69 : decode cL_make 69 = .ok (.iconst 0, 1) := by decide +kernel
theorem dL_make_70 : decode cL_make 70 = .ok (.iastore, 1) := by decide +kernel
theorem dL_make_71 : decode cL_make 71 = .ok (.iconst 0, 1) := by decide +kernel
theorem dL_make_72 : decode cL_make 72 = .ok (.istore 9, 2) := by decide +kernel
theorem dL_make_74 : decode cL_make 74 = .ok (.iload 9, 2) := by decide +kernel
theorem dL_make_76 : decode cL_make 76 = .ok (.bipush 48, 2) := by decide +kernel
theorem dL_make_78 : decode cL_make 78 = .ok (.if_icmp .ge 25, 3) := by decide +kernel
theorem dL_make_81 : decode cL_make 81 = .ok (.aload 4, 2) := by decide +kernel
theorem dL_make_83 : decode cL_make 83 = .ok (.iload 9, 2) := by decide +kernel
theorem dL_make_85 : decode cL_make 85 = .ok (.iconst 0, 1) := by decide +kernel
theorem dL_make_86 : decode cL_make 86 = .ok (.iastore, 1) := by decide +kernel
theorem dL_make_87 : decode cL_make 87 = .ok (.aload_n 2, 1) := by decide +kernel
theorem dL_make_88 : decode cL_make 88 = .ok (.iload 9, 2) := by decide +kernel
theorem dL_make_90 : decode cL_make 90 = .ok (.iconst (-1), 1) := by decide +kernel
theorem dL_make_91 : decode cL_make 91 = .ok (.iastore, 1) := by decide +kernel
theorem dL_make_92 : decode cL_make 92 = .ok (.aload_n 3, 1) := by decide +kernel
theorem dL_make_93 : decode cL_make 93 = .ok (.iload 9, 2) := by decide +kernel
theorem dL_make_95 : decode cL_make 95 = .ok (.iconst (-1), 1) := by decide +kernel
theorem dL_make_96 : decode cL_make 96 = .ok (.iastore, 1) := by decide +kernel
theorem dL_make_97 : decode cL_make 97 = .ok (.iinc 9 1, 3) := by decide +kernel
theorem dL_make_100 : decode cL_make 100 = .ok (.goto (-26), 3) := by decide +kernel
theorem dL_make_103 : decode cL_make 103 = .ok (.iconst 0, 1) := by decide +kernel
theorem dL_make_104 : decode cL_make 104 = .ok (.istore 9, 2) := by decide +kernel
theorem dL_make_106 : decode cL_make 106 = .ok (.iload 9, 2) := by decide +kernel
theorem dL_make_108 : decode cL_make 108 = .ok (.aload_n 0, 1) := by decide +kernel
theorem dL_make_109 : decode cL_make 109 = .ok (.iconst 0, 1) := by decide +kernel
theorem dL_make_110 : decode cL_make 110 = .ok (.iaload, 1) := by decide +kernel
theorem dL_make_111 : decode cL_make 111 = .ok (.if_icmp .ge 128, 3) := by decide +kernel
theorem dL_make_114 : decode cL_make 114 = .ok (.iload 5, 2) := by decide +kernel
theorem dL_make_116 : decode cL_make 116 = .ok (.iconst 2, 1) := by decide +kernel
theorem dL_make_117 : decode cL_make 117 = .ok (.if_icmp .ne 28, 3) := by decide +kernel
theorem dL_make_120 : decode cL_make 120 = .ok (.aload_n 2, 1) := by decide +kernel
theorem dL_make_121 : decode cL_make 121 = .ok (.iload 9, 2) := by decide +kernel
theorem dL_make_123 : decode cL_make 123 = .ok (.aload_n 1, 1) := by decide +kernel
theorem dL_make_124 : decode cL_make 124 = .ok (.iconst 0, 1) := by decide +kernel
theorem dL_make_125 : decode cL_make 125 = .ok (.iload 9, 2) := by decide +kernel
theorem dL_make_127 : decode cL_make 127 = .ok (.invokestatic 66, 3) := by decide +kernel
theorem dL_make_130 : decode cL_make 130 = .ok (.iastore, 1) := by decide +kernel
theorem dL_make_131 : decode cL_make 131 = .ok (.aload_n 3, 1) := by decide +kernel
theorem dL_make_132 : decode cL_make 132 = .ok (.iload 9, 2) := by decide +kernel
theorem dL_make_134 : decode cL_make 134 = .ok (.aload_n 1, 1) := by decide +kernel
theorem dL_make_135 : decode cL_make 135 = .ok (.iconst 1, 1) := by decide +kernel
theorem dL_make_136 : decode cL_make 136 = .ok (.iload 9, 2) := by decide +kernel
theorem dL_make_138 : decode cL_make 138 = .ok (.invokestatic 66, 3) := by decide +kernel
theorem dL_make_141 : decode cL_make 141 = .ok (.iastore, 1) := by decide +kernel
theorem dL_make_142 : decode cL_make 142 = .ok (.goto 91, 3) := by decide +kernel
theorem dL_make_145 : decode cL_make 145 = .ok (.iload 5, 2) := by decide +kernel
theorem dL_make_147 : decode cL_make 147 = .ok (.iconst 1, 1) := by decide +kernel
theorem dL_make_148 : decode cL_make 148 = .ok (.if_icmp .ne 37, 3) := by decide +kernel
theorem dL_make_151 : decode cL_make 151 = .ok (.aload_n 2, 1) := by decide +kernel
theorem dL_make_152 : decode cL_make 152 = .ok (.iload 9, 2) := by decide +kernel
theorem dL_make_154 : decode cL_make 154 = .ok (.iload 9, 2) := by decide +kernel
theorem dL_make_156 : decode cL_make 156 = .ok (.iload 6, 2) := by decide +kernel
theorem dL_make_158 : decode cL_make 158 = .ok (.if_icmp .ge 13, 3) := by decide +kernel
theorem dL_make_161 : decode cL_make 161 = .ok (.aload_n 1, 1) := by decide +kernel
theorem dL_make_162 : decode cL_make 162 = .ok (.iconst 0, 1) := by decide +kernel
theorem dL_make_163 : decode cL_make 163 = .ok (.iload 9, 2) := by decide +kernel
theorem dL_make_165 : decode cL_make 165 = .ok (.invokestatic 66, 3) := by decide +kernel
theorem dL_make_168 : decode cL_make 168 = .ok (.goto 13, 3) := by decide +kernel
theorem dL_make_171 : decode cL_make 171 = .ok (.aload_n 1, 1) := by decide +kernel
theorem dL_make_172 : decode cL_make 172 = .ok (.iconst 1, 1) := by decide +kernel
theorem dL_make_173 : decode cL_make 173 = .ok (.iload 9, 2) := by decide +kernel
theorem dL_make_175 : decode cL_make 175 = .ok (.iload 6, 2) := by decide +kernel
theorem dL_make_177 : decode cL_make 177 = .ok (.isub, 1) := by decide +kernel
theorem dL_make_178 : decode cL_make 178 = .ok (.invokestatic 66, 3) := by decide +kernel
theorem dL_make_181 : decode cL_make 181 = .ok (.iastore, 1) := by decide +kernel
theorem dL_make_182 : decode cL_make 182 = .ok (.goto 51, 3) := by decide +kernel
theorem dL_make_185 : decode cL_make 185 = .ok (.aload_n 2, 1) := by decide +kernel
theorem dL_make_186 : decode cL_make 186 = .ok (.iload 9, 2) := by decide +kernel
theorem dL_make_188 : decode cL_make 188 = .ok (.iload 9, 2) := by decide +kernel
theorem dL_make_190 : decode cL_make 190 = .ok (.aload_n 0, 1) := by decide +kernel
theorem dL_make_191 : decode cL_make 191 = .ok (.iconst 1, 1) := by decide +kernel
theorem dL_make_192 : decode cL_make 192 = .ok (.iaload, 1) := by decide +kernel
theorem dL_make_193 : decode cL_make 193 = .ok (.if_icmp .ge 18, 3) := by decide +kernel
theorem dL_make_196 : decode cL_make 196 = .ok (.aload_n 1, 1) := by decide +kernel
theorem dL_make_197 : decode cL_make 197 = .ok (.iload 9, 2) := by decide +kernel
theorem dL_make_199 : decode cL_make 199 = .ok (.iconst 2, 1) := by decide +kernel
theorem dL_make_200 : decode cL_make 200 = .ok (.irem, 1) := by decide +kernel
theorem dL_make_201 : decode cL_make 201 = .ok (.iload 9, 2) := by decide +kernel
theorem dL_make_203 : decode cL_make 203 = .ok (.iconst 2, 1) := by decide +kernel
theorem dL_make_204 : decode cL_make 204 = .ok (.idiv, 1) := by decide +kernel
theorem dL_make_205 : decode cL_make 205 = .ok (.invokestatic 66, 3) := by decide +kernel
theorem dL_make_208 : decode cL_make 208 = .ok (.goto 24, 3) := by decide +kernel
theorem dL_make_211 : decode cL_make 211 = .ok (.aload_n 1, 1) := by decide +kernel
theorem dL_make_212 : decode cL_make 212 = .ok (.iload 6, 2) := by decide +kernel
theorem dL_make_214 : decode cL_make 214 = .ok (.iload 7, 2) := by decide +kernel
theorem dL_make_216 : decode cL_make 216 = .ok (.if_icmp .le 7, 3) := by decide +kernel
theorem dL_make_219 : decode cL_make 219 = .ok (.iconst 0, 1) := by decide +kernel
theorem dL_make_220 : decode cL_make 220 = .ok (.goto 4, 3) := by decide +kernel
theorem dL_make_223 : decode cL_make 223 = .ok (.iconst 1, 1) := by decide +kernel
theorem dL_make_224 : decode cL_make 224 = .ok (.iload 9, 2) := by decide +kernel
theorem dL_make_226 : decode cL_make 226 = .ok (.iload 8, 2) := by decide +kernel
theorem dL_make_228 : decode cL_make 228 = .ok (.isub, 1) := by decide +kernel
theorem dL_make_229 : decode cL_make 229 = .ok (.invokestatic 66, 3) := by decide +kernel
theorem dL_make_232 : decode cL_make 232 = .ok (.iastore, 1) := by decide +kernel
theorem dL_make_233 : decode cL_make 233 = .ok (.iinc 9 1, 3) := by decide +kernel
theorem dL_make_236 : decode cL_make 236 = .ok (.goto (-130), 3) := by decide +kernel
theorem dL_make_239 : decode cL_make 239 = .ok (.iconst 0, 1) := by decide +kernel
theorem dL_make_240 : decode cL_make 240 = .ok (.istore 9, 2) := by decide +kernel
theorem dL_make_242 : decode cL_make 242 = .ok (.iload 9, 2) := by decide +kernel
theorem dL_make_244 : decode cL_make 244 = .ok (.bipush 32, 2) := by decide +kernel
theorem dL_make_246 : decode cL_make 246 = .ok (.if_icmp .ge 55, 3) := by decide +kernel
theorem dL_make_249 : decode cL_make 249 = .ok (.aload_n 1, 1) := by decide +kernel
theorem dL_make_250 : decode cL_make 250 = .ok (.iload 9, 2) := by decide +kernel
theorem dL_make_252 : decode cL_make 252 = .ok (.iconst 4, 1) := by decide +kernel
theorem dL_make_253 : decode cL_make 253 = .ok (.iadd, 1) := by decide +kernel
theorem dL_make_254 : decode cL_make 254 = .ok (.aload_n 1, 1) := by decide +kernel
theorem dL_make_255 : decode cL_make 255 = .ok (.iload 9, 2) := by decide +kernel
theorem dL_make_257 : decode cL_make 257 = .ok (.iaload, 1) := by decide +kernel
theorem dL_make_258 : decode cL_make 258 = .ok (.ifCond .le 16, 3) := by decide +kernel
theorem dL_make_261 : decode cL_make 261 = .ok (.aload_n 1, 1) := by decide +kernel
theorem dL_make_262 : decode cL_make 262 = .ok (.iload 9, 2) := by decide +kernel
theorem dL_make_264 : decode cL_make 264 = .ok (.iconst 3, 1) := by decide +kernel
theorem dL_make_265 : decode cL_make 265 = .ok (.iadd, 1) := by decide +kernel
theorem dL_make_266 : decode cL_make 266 = .ok (.iaload, 1) := by decide +kernel
theorem dL_make_267 : decode cL_make 267 = .ok (.ifCond .ne 7, 3) := by decide +kernel
theorem dL_make_270 : decode cL_make 270 = .ok (.iconst 1, 1) := by decide +kernel
theorem dL_make_271 : decode cL_make 271 = .ok (.goto 4, 3) := by decide +kernel
theorem dL_make_274 : decode cL_make 274 = .ok (.iconst 0, 1) := by decide +kernel
theorem dL_make_275 : decode cL_make 275 = .ok (.iastore, 1) := by decide +kernel
theorem dL_make_276 : decode cL_make 276 = .ok (.aload_n 1, 1) := by decide +kernel
theorem dL_make_277 : decode cL_make 277 = .ok (.iload 9, 2) := by decide +kernel
theorem dL_make_279 : decode cL_make 279 = .ok (.iconst 5, 1) := by decide +kernel
theorem dL_make_280 : decode cL_make 280 = .ok (.iadd, 1) := by decide +kernel
theorem dL_make_281 : decode cL_make 281 = .ok (.aload_n 0, 1) := by decide +kernel
theorem dL_make_282 : decode cL_make 282 = .ok (.iconst 2, 1) := by decide +kernel
theorem dL_make_283 : decode cL_make 283 = .ok (.iaload, 1) := by decide +kernel
theorem dL_make_284 : decode cL_make 284 = .ok (.iastore, 1) := by decide +kernel
theorem dL_make_285 : decode cL_make 285 = .ok (.aload_n 1, 1) := by decide +kernel
theorem dL_make_286 : decode cL_make 286 = .ok (.iload 9, 2) := by decide +kernel
theorem dL_make_288 : decode cL_make 288 = .ok (.bipush 6, 2) := by decide +kernel
theorem dL_make_290 : decode cL_make 290 = .ok (.iadd, 1) := by decide +kernel
theorem dL_make_291 : decode cL_make 291 = .ok (.aload_n 0, 1) := by decide +kernel
theorem dL_make_292 : decode cL_make 292 = .ok (.iconst 2, 1) := by decide +kernel
theorem dL_make_293 : decode cL_make 293 = .ok (.iaload, 1) := by decide +kernel
theorem dL_make_294 : decode cL_make 294 = .ok (.iastore, 1) := by decide +kernel
theorem dL_make_295 : decode cL_make 295 = .ok (.iinc 9 8, 3) := by decide +kernel
theorem dL_make_298 : decode cL_make 298 = .ok (.goto (-56), 3) := by decide +kernel
theorem dL_make_301 : decode cL_make 301 = .ok (.return_, 1) := by decide +kernel
theorem dL_can_0 : decode cL_can 0 = .ok (.aload_n 0, 1) := by decide +kernel
theorem dL_can_1 : decode cL_can 1 = .ok (.aload_n 1, 1) := by decide +kernel
theorem dL_can_2 : decode cL_can 2 = .ok (.iload_n 3, 1) := by decide +kernel
theorem dL_can_3 : decode cL_can 3 = .ok (.iaload, 1) := by decide +kernel
theorem dL_can_4 : decode cL_can 4 = .ok (.invokestatic 70, 3) := by decide +kernel
theorem dL_can_7 : decode cL_can 7 = .ok (.ifCond .ne 13, 3) := by decide +kernel
theorem dL_can_10 : decode cL_can 10 = .ok (.aload_n 0, 1) := by decide +kernel
theorem dL_can_11 : decode cL_can 11 = .ok (.aload_n 2, 1) := by decide +kernel
theorem dL_can_12 : decode cL_can 12 = .ok (.iload_n 3, 1) := by decide +kernel
theorem dL_can_13 : decode cL_can 13 = .ok (.iaload, 1) := by decide +kernel
theorem dL_can_14 : decode cL_can 14 = .ok (.invokestatic 70, 3) := by decide +kernel
theorem dL_can_17 : decode cL_can 17 = .ok (.ifCond .eq 7, 3) := by decide +kernel
theorem dL_can_20 : decode cL_can 20 = .ok (.iconst 1, 1) := by decide +kernel
theorem dL_can_21 : decode cL_can 21 = .ok (.goto 4, 3) := by decide +kernel
theorem dL_can_24 : decode cL_can 24 = .ok (.iconst 0, 1) := by decide +kernel
theorem dL_can_25 : decode cL_can 25 = .ok (.ireturn, 1) := by decide +kernel
theorem dL_readAt_0 : decode cL_readAt 0 = .ok (.aload_n 0, 1) := by decide +kernel
theorem dL_readAt_1 : decode cL_readAt 1 = .ok (.aload_n 1, 1) := by decide +kernel
theorem dL_readAt_2 : decode cL_readAt 2 = .ok (.iload_n 3, 1) := by decide +kernel
theorem dL_readAt_3 : decode cL_readAt 3 = .ok (.iaload, 1) := by decide +kernel
theorem dL_readAt_4 : decode cL_readAt 4 = .ok (.invokestatic 70, 3) := by decide +kernel
theorem dL_readAt_7 : decode cL_readAt 7 = .ok (.ifCond .eq 9, 3) := by decide +kernel
theorem dL_readAt_10 : decode cL_readAt 10 = .ok (.aload_n 1, 1) := by decide +kernel
theorem dL_readAt_11 : decode cL_readAt 11 = .ok (.iload_n 3, 1) := by decide +kernel
theorem dL_readAt_12 : decode cL_readAt 12 = .ok (.iaload, 1) := by decide +kernel
theorem dL_readAt_13 : decode cL_readAt 13 = .ok (.goto 6, 3) := by decide +kernel
theorem dL_readAt_16 : decode cL_readAt 16 = .ok (.aload_n 2, 1) := by decide +kernel
theorem dL_readAt_17 : decode cL_readAt 17 = .ok (.iload_n 3, 1) := by decide +kernel
theorem dL_readAt_18 : decode cL_readAt 18 = .ok (.iaload, 1) := by decide +kernel
theorem dL_readAt_19 : decode cL_readAt 19 = .ok (.ireturn, 1) := by decide +kernel
theorem dL_rank_0 : decode cL_rank 0 = .ok (.bipush 8, 2) := by decide +kernel
theorem dL_rank_2 : decode cL_rank 2 = .ok (.iload_n 1, 1) := by decide +kernel
theorem dL_rank_3 : decode cL_rank 3 = .ok (.bipush 12, 2) := by decide +kernel
theorem dL_rank_5 : decode cL_rank 5 = .ok (.idiv, 1) := by decide +kernel
theorem dL_rank_6 : decode cL_rank 6 = .ok (.imul, 1) := by decide +kernel
theorem dL_rank_7 : decode cL_rank 7 = .ok (.istore_n 2, 1) := by decide +kernel
theorem dL_rank_8 : decode cL_rank 8 = .ok (.iload_n 2, 1) := by decide +kernel
theorem dL_rank_9 : decode cL_rank 9 = .ok (.iconst 5, 1) := by decide +kernel
theorem dL_rank_10 : decode cL_rank 10 = .ok (.iadd, 1) := by decide +kernel
theorem dL_rank_11 : decode cL_rank 11 = .ok (.aload_n 0, 1) := by decide +kernel
theorem dL_rank_12 : decode cL_rank 12 = .ok (.iload_n 2, 1) := by decide +kernel
theorem dL_rank_13 : decode cL_rank 13 = .ok (.iconst 1, 1) := by decide +kernel
theorem dL_rank_14 : decode cL_rank 14 = .ok (.iadd, 1) := by decide +kernel
theorem dL_rank_15 : decode cL_rank 15 = .ok (.iaload, 1) := by decide +kernel
theorem dL_rank_16 : decode cL_rank 16 = .ok (.iconst 2, 1) := by decide +kernel
theorem dL_rank_17 : decode cL_rank 17 = .ok (.if_icmp .ne 12, 3) := by decide +kernel
theorem dL_rank_20 : decode cL_rank 20 = .ok (.iload_n 1, 1) := by decide +kernel
theorem dL_rank_21 : decode cL_rank 21 = .ok (.bipush 12, 2) := by decide +kernel
theorem dL_rank_23 : decode cL_rank 23 = .ok (.irem, 1) := by decide +kernel
theorem dL_rank_24 : decode cL_rank 24 = .ok (.iconst 2, 1) := by decide +kernel
theorem dL_rank_25 : decode cL_rank 25 = .ok (.irem, 1) := by decide +kernel
theorem dL_rank_26 : decode cL_rank 26 = .ok (.goto 4, 3) := by decide +kernel
theorem dL_rank_29 : decode cL_rank 29 = .ok (.iconst 0, 1) := by decide +kernel
theorem dL_rank_30 : decode cL_rank 30 = .ok (.iadd, 1) := by decide +kernel
theorem dL_rank_31 : decode cL_rank 31 = .ok (.ireturn, 1) := by decide +kernel
theorem dL_reads_0 : decode cL_reads 0 = .ok (.aload_n 0, 1) := by decide +kernel
theorem dL_reads_1 : decode cL_reads 1 = .ok (.iconst 2, 1) := by decide +kernel
theorem dL_reads_2 : decode cL_reads 2 = .ok (.iaload, 1) := by decide +kernel
theorem dL_reads_3 : decode cL_reads 3 = .ok (.istore 6, 2) := by decide +kernel
theorem dL_reads_5 : decode cL_reads 5 = .ok (.iload 4, 2) := by decide +kernel
theorem dL_reads_7 : decode cL_reads 7 = .ok (.istore 7, 2) := by decide +kernel
theorem dL_reads_9 : decode cL_reads 9 = .ok (.iload 7, 2) := by decide +kernel
theorem dL_reads_11 : decode cL_reads 11 = .ok (.iload 4, 2) := by decide +kernel
theorem dL_reads_13 : decode cL_reads 13 = .ok (.iload 5, 2) := by decide +kernel
theorem dL_reads_15 : decode cL_reads 15 = .ok (.ifCond .eq 7, 3) := by decide +kernel
theorem dL_reads_18 : decode cL_reads 18 = .ok (.iconst 2, 1) := by decide +kernel
theorem dL_reads_19 : decode cL_reads 19 = .ok (.goto 4, 3) := by decide +kernel
theorem dL_reads_22 : decode cL_reads 22 = .ok (.iconst 1, 1) := by decide +kernel
theorem dL_reads_23 : decode cL_reads 23 = .ok (.iadd, 1) := by decide +kernel
theorem dL_reads_24 : decode cL_reads 24 = .ok (.if_icmp .ge 41, 3) := by decide +kernel
theorem dL_reads_27 : decode cL_reads 27 = .ok (.aload_n 1, 1) := by decide +kernel
theorem dL_reads_28 : decode cL_reads 28 = .ok (.aload_n 1, 1) := by decide +kernel
theorem dL_reads_29 : decode cL_reads 29 = .ok (.aload_n 1, 1) := by decide +kernel
theorem dL_reads_30 : decode cL_reads 30 = .ok (.aload_n 2, 1) := by decide +kernel
theorem dL_reads_31 : decode cL_reads 31 = .ok (.aload_n 3, 1) := by decide +kernel
theorem dL_reads_32 : decode cL_reads 32 = .ok (.iload 7, 2) := by decide +kernel
theorem dL_reads_34 : decode cL_reads 34 = .ok (.invokestatic 74, 3) := by decide +kernel
theorem dL_reads_37 : decode cL_reads 37 = .ok (.invokestatic 78, 3) := by decide +kernel
theorem dL_reads_40 : decode cL_reads 40 = .ok (.iaload, 1) := by decide +kernel
theorem dL_reads_41 : decode cL_reads 41 = .ok (.istore 8, 2) := by decide +kernel
theorem dL_reads_43 : decode cL_reads 43 = .ok (.iload 8, 2) := by decide +kernel
theorem dL_reads_45 : decode cL_reads 45 = .ok (.iload 6, 2) := by decide +kernel
theorem dL_reads_47 : decode cL_reads 47 = .ok (.if_icmp .le 8, 3) := by decide +kernel
theorem dL_reads_50 : decode cL_reads 50 = .ok (.iload 8, 2) := by decide +kernel
theorem dL_reads_52 : decode cL_reads 52 = .ok (.goto 5, 3) := by decide +kernel
theorem dL_reads_55 : decode cL_reads 55 = .ok (.iload 6, 2) := by decide +kernel
theorem dL_reads_57 : decode cL_reads 57 = .ok (.istore 6, 2) := by decide +kernel
theorem dL_reads_59 : decode cL_reads 59 = .ok (.iinc 7 1, 3) := by decide +kernel
theorem dL_reads_62 : decode cL_reads 62 = .ok (.goto (-53), 3) := by decide +kernel
theorem dL_reads_65 : decode cL_reads 65 = .ok (.aload_n 0, 1) := by decide +kernel
theorem dL_reads_66 : decode cL_reads 66 = .ok (.iconst 5, 1) := by decide +kernel
theorem dL_reads_67 : decode cL_reads 67 = .ok (.dup2, 1) := by decide +kernel
theorem dL_reads_68 : decode cL_reads 68 = .ok (.iaload, 1) := by decide +kernel
theorem dL_reads_69 : decode cL_reads 69 = .ok (.iload 6, 2) := by decide +kernel
theorem dL_reads_71 : decode cL_reads 71 = .ok (.aload_n 0, 1) := by decide +kernel
theorem dL_reads_72 : decode cL_reads 72 = .ok (.iconst 2, 1) := by decide +kernel
theorem dL_reads_73 : decode cL_reads 73 = .ok (.iaload, 1) := by decide +kernel
theorem dL_reads_74 : decode cL_reads 74 = .ok (.isub, 1) := by decide +kernel
theorem dL_reads_75 : decode cL_reads 75 = .ok (.iadd, 1) := by decide +kernel
theorem dL_reads_76 : decode cL_reads 76 = .ok (.iastore, 1) := by decide +kernel
theorem dL_reads_77 : decode cL_reads 77 = .ok (.iload 4, 2) := by decide +kernel
theorem dL_reads_79 : decode cL_reads 79 = .ok (.istore 7, 2) := by decide +kernel
theorem dL_reads_81 : decode cL_reads 81 = .ok (.iload 7, 2) := by decide +kernel
theorem dL_reads_83 : decode cL_reads 83 = .ok (.iload 4, 2) := by decide +kernel
theorem dL_reads_85 : decode cL_reads 85 = .ok (.iload 5, 2) := by decide +kernel
theorem dL_reads_87 : decode cL_reads 87 = .ok (.ifCond .eq 7, 3) := by decide +kernel
theorem dL_reads_90 : decode cL_reads 90 = .ok (.iconst 2, 1) := by decide +kernel
theorem dL_reads_91 : decode cL_reads 91 = .ok (.goto 4, 3) := by decide +kernel
theorem dL_reads_94 : decode cL_reads 94 = .ok (.iconst 1, 1) := by decide +kernel
theorem dL_reads_95 : decode cL_reads 95 = .ok (.iadd, 1) := by decide +kernel
theorem dL_reads_96 : decode cL_reads 96 = .ok (.if_icmp .ge 66, 3) := by decide +kernel
theorem dL_reads_99 : decode cL_reads 99 = .ok (.bipush 8, 2) := by decide +kernel
theorem dL_reads_101 : decode cL_reads 101 = .ok (.aload_n 1, 1) := by decide +kernel
theorem dL_reads_102 : decode cL_reads 102 = .ok (.aload_n 2, 1) := by decide +kernel
theorem dL_reads_103 : decode cL_reads 103 = .ok (.aload_n 3, 1) := by decide +kernel
theorem dL_reads_104 : decode cL_reads 104 = .ok (.iload 7, 2) := by decide +kernel
theorem dL_reads_106 : decode cL_reads 106 = .ok (.invokestatic 74, 3) := by decide +kernel
theorem dL_reads_109 : decode cL_reads 109 = .ok (.bipush 12, 2) := by decide +kernel
theorem dL_reads_111 : decode cL_reads 111 = .ok (.idiv, 1) := by decide +kernel
theorem dL_reads_112 : decode cL_reads 112 = .ok (.imul, 1) := by decide +kernel
theorem dL_reads_113 : decode cL_reads 113 = .ok (.istore 8, 2) := by decide +kernel
theorem dL_reads_115 : decode cL_reads 115 = .ok (.aload_n 1, 1) := by decide +kernel
theorem dL_reads_116 : decode cL_reads 116 = .ok (.aload_n 1, 1) := by decide +kernel
theorem dL_reads_117 : decode cL_reads 117 = .ok (.aload_n 1, 1) := by decide +kernel
theorem dL_reads_118 : decode cL_reads 118 = .ok (.aload_n 2, 1) := by decide +kernel
theorem dL_reads_119 : decode cL_reads 119 = .ok (.aload_n 3, 1) := by decide +kernel
theorem dL_reads_120 : decode cL_reads 120 = .ok (.iload 7, 2) := by decide +kernel
theorem dL_reads_122 : decode cL_reads 122 = .ok (.invokestatic 74, 3) := by decide +kernel
theorem dL_reads_125 : decode cL_reads 125 = .ok (.invokestatic 78, 3) := by decide +kernel
theorem dL_reads_128 : decode cL_reads 128 = .ok (.iload 6, 2) := by decide +kernel
theorem dL_reads_130 : decode cL_reads 130 = .ok (.aload_n 1, 1) := by decide +kernel
theorem dL_reads_131 : decode cL_reads 131 = .ok (.iload 8, 2) := by decide +kernel
theorem dL_reads_133 : decode cL_reads 133 = .ok (.iconst 2, 1) := by decide +kernel
theorem dL_reads_134 : decode cL_reads 134 = .ok (.iadd, 1) := by decide +kernel
theorem dL_reads_135 : decode cL_reads 135 = .ok (.iaload, 1) := by decide +kernel
theorem dL_reads_136 : decode cL_reads 136 = .ok (.iadd, 1) := by decide +kernel
theorem dL_reads_137 : decode cL_reads 137 = .ok (.iastore, 1) := by decide +kernel
theorem dL_reads_138 : decode cL_reads 138 = .ok (.aload_n 1, 1) := by decide +kernel
theorem dL_reads_139 : decode cL_reads 139 = .ok (.iload 8, 2) := by decide +kernel
theorem dL_reads_141 : decode cL_reads 141 = .ok (.bipush 7, 2) := by decide +kernel
theorem dL_reads_143 : decode cL_reads 143 = .ok (.iadd, 1) := by decide +kernel
theorem dL_reads_144 : decode cL_reads 144 = .ok (.dup2, 1) := by decide +kernel
theorem dL_reads_145 : decode cL_reads 145 = .ok (.iaload, 1) := by decide +kernel
theorem dL_reads_146 : decode cL_reads 146 = .ok (.iconst 1, 1) := by decide +kernel
theorem dL_reads_147 : decode cL_reads 147 = .ok (.iadd, 1) := by decide +kernel
theorem dL_reads_148 : decode cL_reads 148 = .ok (.iastore, 1) := by decide +kernel
theorem dL_reads_149 : decode cL_reads 149 = .ok (.aload_n 0, 1) := by decide +kernel
theorem dL_reads_150 : decode cL_reads 150 = .ok (.iconst 3, 1) := by decide +kernel
theorem dL_reads_151 : decode cL_reads 151 = .ok (.dup2, 1) := by decide +kernel
theorem dL_reads_152 : decode cL_reads 152 = .ok (.iaload, 1) := by decide +kernel
theorem dL_reads_153 : decode cL_reads 153 = .ok (.iconst 1, 1) := by decide +kernel
theorem dL_reads_154 : decode cL_reads 154 = .ok (.iadd, 1) := by decide +kernel
theorem dL_reads_155 : decode cL_reads 155 = .ok (.iastore, 1) := by decide +kernel
theorem dL_reads_156 : decode cL_reads 156 = .ok (.iinc 7 1, 3) := by decide +kernel
theorem dL_reads_159 : decode cL_reads 159 = .ok (.goto (-78), 3) := by decide +kernel
theorem dL_reads_162 : decode cL_reads 162 = .ok (.aload_n 0, 1) := by decide +kernel
theorem dL_reads_163 : decode cL_reads 163 = .ok (.iconst 4, 1) := by decide +kernel
theorem dL_reads_164 : decode cL_reads 164 = .ok (.dup2, 1) := by decide +kernel
theorem dL_reads_165 : decode cL_reads 165 = .ok (.iaload, 1) := by decide +kernel
theorem dL_reads_166 : decode cL_reads 166 = .ok (.iload 5, 2) := by decide +kernel
theorem dL_reads_168 : decode cL_reads 168 = .ok (.ifCond .eq 7, 3) := by decide +kernel
theorem dL_reads_171 : decode cL_reads 171 = .ok (.iconst 1, 1) := by decide +kernel
theorem dL_reads_172 : decode cL_reads 172 = .ok (.goto 4, 3) := by decide +kernel
theorem dL_reads_175 : decode cL_reads 175 = .ok (.iconst 0, 1) := by decide +kernel
theorem dL_reads_176 : decode cL_reads 176 = .ok (.iadd, 1) := by decide +kernel
theorem dL_reads_177 : decode cL_reads 177 = .ok (.iastore, 1) := by decide +kernel
theorem dL_reads_178 : decode cL_reads 178 = .ok (.aload_n 0, 1) := by decide +kernel
theorem dL_reads_179 : decode cL_reads 179 = .ok (.iconst 2, 1) := by decide +kernel
theorem dL_reads_180 : decode cL_reads 180 = .ok (.iload 6, 2) := by decide +kernel
theorem dL_reads_182 : decode cL_reads 182 = .ok (.iconst 1, 1) := by decide +kernel
theorem dL_reads_183 : decode cL_reads 183 = .ok (.iadd, 1) := by decide +kernel
theorem dL_reads_184 : decode cL_reads 184 = .ok (.iastore, 1) := by decide +kernel
theorem dL_reads_185 : decode cL_reads 185 = .ok (.return_, 1) := by decide +kernel
theorem dL_used_0 : decode cL_used 0 = .ok (.iconst 0, 1) := by decide +kernel
theorem dL_used_1 : decode cL_used 1 = .ok (.istore 4, 2) := by decide +kernel
theorem dL_used_3 : decode cL_used 3 = .ok (.iconst 0, 1) := by decide +kernel
theorem dL_used_4 : decode cL_used 4 = .ok (.istore 5, 2) := by decide +kernel
theorem dL_used_6 : decode cL_used 6 = .ok (.iload 5, 2) := by decide +kernel
theorem dL_used_8 : decode cL_used 8 = .ok (.aload_n 0, 1) := by decide +kernel
theorem dL_used_9 : decode cL_used 9 = .ok (.iconst 0, 1) := by decide +kernel
theorem dL_used_10 : decode cL_used 10 = .ok (.iaload, 1) := by decide +kernel
theorem dL_used_11 : decode cL_used 11 = .ok (.if_icmp .ge 48, 3) := by decide +kernel
theorem dL_used_14 : decode cL_used 14 = .ok (.iload 4, 2) := by decide +kernel
theorem dL_used_16 : decode cL_used 16 = .ok (.aload_n 1, 1) := by decide +kernel
theorem dL_used_17 : decode cL_used 17 = .ok (.iload 5, 2) := by decide +kernel
theorem dL_used_19 : decode cL_used 19 = .ok (.iaload, 1) := by decide +kernel
theorem dL_used_20 : decode cL_used 20 = .ok (.bipush 12, 2) := by decide +kernel
theorem dL_used_22 : decode cL_used 22 = .ok (.idiv, 1) := by decide +kernel
theorem dL_used_23 : decode cL_used 23 = .ok (.iload_n 3, 1) := by decide +kernel
theorem dL_used_24 : decode cL_used 24 = .ok (.if_icmp .eq 21, 3) := by decide +kernel
theorem dL_used_27 : decode cL_used 27 = .ok (.aload_n 2, 1) := by decide +kernel
theorem dL_used_28 : decode cL_used 28 = .ok (.iload 5, 2) := by decide +kernel
theorem dL_used_30 : decode cL_used 30 = .ok (.iaload, 1) := by decide +kernel
theorem dL_used_31 : decode cL_used 31 = .ok (.ifCond .lt 18, 3) := by decide +kernel
theorem dL_used_34 : decode cL_used 34 = .ok (.aload_n 2, 1) := by decide +kernel
theorem dL_used_35 : decode cL_used 35 = .ok (.iload 5, 2) := by decide +kernel
theorem dL_used_37 : decode cL_used 37 = .ok (.iaload, 1) := by decide +kernel
theorem dL_used_38 : decode cL_used 38 = .ok (.bipush 12, 2) := by decide +kernel
theorem dL_used_40 : decode cL_used 40 = .ok (.idiv, 1) := by decide +kernel
theorem dL_used_41 : decode cL_used 41 = .ok (.iload_n 3, 1) := by decide +kernel
theorem dL_used_42 : decode cL_used 42 = .ok (.if_icmp .ne 7, 3) := by decide +kernel
theorem dL_used_45 : decode cL_used 45 = .ok (.iconst 1, 1) := by decide +kernel
theorem dL_used_46 : decode cL_used 46 = .ok (.goto 4, 3) := by decide +kernel
theorem dL_used_49 : decode cL_used 49 = .ok (.iconst 0, 1) := by decide +kernel
theorem dL_used_50 : decode cL_used 50 = .ok (.iadd, 1) := by decide +kernel
theorem dL_used_51 : decode cL_used 51 = .ok (.istore 4, 2) := by decide +kernel
theorem dL_used_53 : decode cL_used 53 = .ok (.iinc 5 1, 3) := by decide +kernel
theorem dL_used_56 : decode cL_used 56 = .ok (.goto (-50), 3) := by decide +kernel
theorem dL_used_59 : decode cL_used 59 = .ok (.iload 4, 2) := by decide +kernel
theorem dL_used_61 : decode cL_used 61 = .ok (.ireturn, 1) := by decide +kernel
theorem dL_sticks_0 : decode cL_sticks 0 = .ok (.iload_n 2, 1) := by decide +kernel
theorem dL_sticks_1 : decode cL_sticks 1 = .ok (.iconst 4, 1) := by decide +kernel
theorem dL_sticks_2 : decode cL_sticks 2 = .ok (.invokestatic 81, 3) := by decide +kernel
theorem dL_sticks_5 : decode cL_sticks 5 = .ok (.istore 7, 2) := by decide +kernel
theorem dL_sticks_7 : decode cL_sticks 7 = .ok (.iload_n 1, 1) := by decide +kernel
theorem dL_sticks_8 : decode cL_sticks 8 = .ok (.iconst 4, 1) := by decide +kernel
theorem dL_sticks_9 : decode cL_sticks 9 = .ok (.invokestatic 81, 3) := by decide +kernel
theorem dL_sticks_12 : decode cL_sticks 12 = .ok (.istore 8, 2) := by decide +kernel
theorem dL_sticks_14 : decode cL_sticks 14 = .ok (.iload 8, 2) := by decide +kernel
theorem dL_sticks_16 : decode cL_sticks 16 = .ok (.iconst 2, 1) := by decide +kernel
theorem dL_sticks_17 : decode cL_sticks 17 = .ok (.if_icmp .ge 255, 3) := by decide +kernel
theorem dL_sticks_20 : decode cL_sticks 20 = .ok (.iconst 1, 1) := by decide +kernel
theorem dL_sticks_21 : decode cL_sticks 21 = .ok (.iload_n 2, 1) := by decide +kernel
theorem dL_sticks_22 : decode cL_sticks 22 = .ok (.iconst 2, 1) := by decide +kernel
theorem dL_sticks_23 : decode cL_sticks 23 = .ok (.ishr, 1) := by decide +kernel
theorem dL_sticks_24 : decode cL_sticks 24 = .ok (.bipush 12, 2) := by decide +kernel
theorem dL_sticks_26 : decode cL_sticks 26 = .ok (.invokestatic 81, 3) := by decide +kernel
theorem dL_sticks_29 : decode cL_sticks 29 = .ok (.iadd, 1) := by decide +kernel
theorem dL_sticks_30 : decode cL_sticks 30 = .ok (.istore 9, 2) := by decide +kernel
theorem dL_sticks_32 : decode cL_sticks 32 = .ok (.iconst 1, 1) := by decide +kernel
theorem dL_sticks_33 : decode cL_sticks 33 = .ok (.iload_n 2, 1) := by decide +kernel
theorem dL_sticks_34 : decode cL_sticks 34 = .ok (.bipush 6, 2) := by decide +kernel
theorem dL_sticks_36 : decode cL_sticks 36 = .ok (.ishr, 1) := by decide +kernel
theorem dL_sticks_37 : decode cL_sticks 37 = .ok (.iconst 1, 1) := by decide +kernel
theorem dL_sticks_38 : decode cL_sticks 38 = .ok (.iand, 1) := by decide +kernel
theorem dL_sticks_39 : decode cL_sticks 39 = .ok (.iadd, 1) := by decide +kernel
theorem dL_sticks_40 : decode cL_sticks 40 = .ok (.istore 10, 2) := by decide +kernel
theorem dL_sticks_42 : decode cL_sticks 42 = .ok (.iconst 1, 1) := by decide +kernel
theorem dL_sticks_43 : decode cL_sticks 43 = .ok (.iload_n 2, 1) := by decide +kernel
theorem dL_sticks_44 : decode cL_sticks 44 = .ok (.bipush 7, 2) := by decide +kernel
theorem dL_sticks_46 : decode cL_sticks 46 = .ok (.ishr, 1) := by decide +kernel
theorem dL_sticks_47 : decode cL_sticks 47 = .ok (.bipush 9, 2) := by decide +kernel
theorem dL_sticks_49 : decode cL_sticks 49 = .ok (.invokestatic 81, 3) := by decide +kernel
theorem dL_sticks_52 : decode cL_sticks 52 = .ok (.iadd, 1) := by decide +kernel
theorem dL_sticks_53 : decode cL_sticks 53 = .ok (.istore 11, 2) := by decide +kernel
theorem dL_sticks_55 : decode cL_sticks 55 = .ok (.aload 4, 2) := by decide +kernel
theorem dL_sticks_57 : decode cL_sticks 57 = .ok (.bipush 8, 2) := by decide +kernel
theorem dL_sticks_59 : decode cL_sticks 59 = .ok (.iload 7, 2) := by decide +kernel
theorem dL_sticks_61 : decode cL_sticks 61 = .ok (.imul, 1) := by decide +kernel
theorem dL_sticks_62 : decode cL_sticks 62 = .ok (.iaload, 1) := by decide +kernel
theorem dL_sticks_63 : decode cL_sticks 63 = .ok (.ifCond .le 83, 3) := by decide +kernel
theorem dL_sticks_66 : decode cL_sticks 66 = .ok (.aload_n 0, 1) := by decide +kernel
theorem dL_sticks_67 : decode cL_sticks 67 = .ok (.iload 7, 2) := by decide +kernel
theorem dL_sticks_69 : decode cL_sticks 69 = .ok (.iload 9, 2) := by decide +kernel
theorem dL_sticks_71 : decode cL_sticks 71 = .ok (.iload 10, 2) := by decide +kernel
theorem dL_sticks_73 : decode cL_sticks 73 = .ok (.iload 11, 2) := by decide +kernel
theorem dL_sticks_75 : decode cL_sticks 75 = .ok (.invokestatic 84, 3) := by decide +kernel
theorem dL_sticks_78 : decode cL_sticks 78 = .ok (.bipush (-33), 2) := by decide +kernel
theorem dL_sticks_80 : decode cL_sticks 80 = .ok (.if_icmp .ne 64, 3) := by decide +kernel
theorem dL_sticks_83 : decode cL_sticks 83 = .ok (.aload_n 0, 1) := by decide +kernel
theorem dL_sticks_84 : decode cL_sticks 84 = .ok (.iconst 4, 1) := by decide +kernel
theorem dL_sticks_85 : decode cL_sticks 85 = .ok (.iconst 0, 1) := by decide +kernel
theorem dL_sticks_86 : decode cL_sticks 86 = .ok (.iconst 1, 1) := by decide +kernel
theorem dL_sticks_87 : decode cL_sticks 87 = .ok (.iconst 1, 1) := by decide +kernel
theorem dL_sticks_88 : decode cL_sticks 88 = .ok (.invokestatic 84, 3) := by decide +kernel
theorem dL_sticks_91 : decode cL_sticks 91 = .ok (.bipush (-31), 2) := by decide +kernel
theorem dL_sticks_93 : decode cL_sticks 93 = .ok (.if_icmp .ne 51, 3) := by decide +kernel
theorem dL_sticks_96 : decode cL_sticks 96 = .ok (.aload_n 0, 1) := by decide +kernel
theorem dL_sticks_97 : decode cL_sticks 97 = .ok (.iload 7, 2) := by decide +kernel
theorem dL_sticks_99 : decode cL_sticks 99 = .ok (.bipush 13, 2) := by decide +kernel
theorem dL_sticks_101 : decode cL_sticks 101 = .ok (.iconst 1, 1) := by decide +kernel
theorem dL_sticks_102 : decode cL_sticks 102 = .ok (.iconst 1, 1) := by decide +kernel
theorem dL_sticks_103 : decode cL_sticks 103 = .ok (.invokestatic 84, 3) := by decide +kernel
theorem dL_sticks_106 : decode cL_sticks 106 = .ok (.bipush (-32), 2) := by decide +kernel
theorem dL_sticks_108 : decode cL_sticks 108 = .ok (.if_icmp .ne 36, 3) := by decide +kernel
theorem dL_sticks_111 : decode cL_sticks 111 = .ok (.aload_n 0, 1) := by decide +kernel
theorem dL_sticks_112 : decode cL_sticks 112 = .ok (.iload 7, 2) := by decide +kernel
theorem dL_sticks_114 : decode cL_sticks 114 = .ok (.iconst 1, 1) := by decide +kernel
theorem dL_sticks_115 : decode cL_sticks 115 = .ok (.iconst 3, 1) := by decide +kernel
theorem dL_sticks_116 : decode cL_sticks 116 = .ok (.iconst 1, 1) := by decide +kernel
theorem dL_sticks_117 : decode cL_sticks 117 = .ok (.invokestatic 84, 3) := by decide +kernel
theorem dL_sticks_120 : decode cL_sticks 120 = .ok (.bipush (-32), 2) := by decide +kernel
theorem dL_sticks_122 : decode cL_sticks 122 = .ok (.if_icmp .ne 22, 3) := by decide +kernel
theorem dL_sticks_125 : decode cL_sticks 125 = .ok (.aload_n 0, 1) := by decide +kernel
theorem dL_sticks_126 : decode cL_sticks 126 = .ok (.iload 7, 2) := by decide +kernel
theorem dL_sticks_128 : decode cL_sticks 128 = .ok (.iconst 1, 1) := by decide +kernel
theorem dL_sticks_129 : decode cL_sticks 129 = .ok (.iconst 1, 1) := by decide +kernel
theorem dL_sticks_130 : decode cL_sticks 130 = .ok (.bipush 10, 2) := by decide +kernel
theorem dL_sticks_132 : decode cL_sticks 132 = .ok (.invokestatic 84, 3) := by decide +kernel
theorem dL_sticks_135 : decode cL_sticks 135 = .ok (.bipush (-32), 2) := by decide +kernel
theorem dL_sticks_137 : decode cL_sticks 137 = .ok (.if_icmp .ne 7, 3) := by decide +kernel
theorem dL_sticks_140 : decode cL_sticks 140 = .ok (.iconst 1, 1) := by decide +kernel
theorem dL_sticks_141 : decode cL_sticks 141 = .ok (.goto 4, 3) := by decide +kernel
theorem dL_sticks_144 : decode cL_sticks 144 = .ok (.iconst 0, 1) := by decide +kernel
theorem dL_sticks_145 : decode cL_sticks 145 = .ok (.ireturn, 1) := by decide +kernel
theorem dL_sticks_146 : decode cL_sticks 146 = .ok (.bipush 8, 2) := by decide +kernel
theorem dL_sticks_148 : decode cL_sticks 148 = .ok (.iload 7, 2) := by decide +kernel
theorem dL_sticks_150 : decode cL_sticks 150 = .ok (.imul, 1) := by decide +kernel
theorem dL_sticks_151 : decode cL_sticks 151 = .ok (.istore 12, 2) := by decide +kernel
theorem dL_sticks_153 : decode cL_sticks 153 = .ok (.iload 12, 2) := by decide +kernel
theorem dL_sticks_155 : decode cL_sticks 155 = .ok (.bipush 8, 2) := by decide +kernel
theorem dL_sticks_157 : decode cL_sticks 157 = .ok (.iload 7, 2) := by decide +kernel
theorem dL_sticks_159 : decode cL_sticks 159 = .ok (.imul, 1) := by decide +kernel
theorem dL_sticks_160 : decode cL_sticks 160 = .ok (.bipush 8, 2) := by decide +kernel
theorem dL_sticks_162 : decode cL_sticks 162 = .ok (.iadd, 1) := by decide +kernel
theorem dL_sticks_163 : decode cL_sticks 163 = .ok (.if_icmp .ge 15, 3) := by decide +kernel
theorem dL_sticks_166 : decode cL_sticks 166 = .ok (.aload 4, 2) := by decide +kernel
theorem dL_sticks_168 : decode cL_sticks 168 = .ok (.iload 12, 2) := by decide +kernel
theorem dL_sticks_170 : decode cL_sticks 170 = .ok (.iconst 0, 1) := by decide +kernel
theorem dL_sticks_171 : decode cL_sticks 171 = .ok (.iastore, 1) := by decide +kernel
theorem dL_sticks_172 : decode cL_sticks 172 = .ok (.iinc 12 1, 3) := by decide +kernel
theorem dL_sticks_175 : decode cL_sticks 175 = .ok (.goto (-22), 3) := by decide +kernel
theorem dL_sticks_178 : decode cL_sticks 178 = .ok (.aload 4, 2) := by decide +kernel
theorem dL_sticks_180 : decode cL_sticks 180 = .ok (.bipush 8, 2) := by decide +kernel
theorem dL_sticks_182 : decode cL_sticks 182 = .ok (.iload 7, 2) := by decide +kernel
theorem dL_sticks_184 : decode cL_sticks 184 = .ok (.imul, 1) := by decide +kernel
theorem dL_sticks_185 : decode cL_sticks 185 = .ok (.iload 9, 2) := by decide +kernel
theorem dL_sticks_187 : decode cL_sticks 187 = .ok (.iastore, 1) := by decide +kernel
theorem dL_sticks_188 : decode cL_sticks 188 = .ok (.aload 4, 2) := by decide +kernel
theorem dL_sticks_190 : decode cL_sticks 190 = .ok (.bipush 8, 2) := by decide +kernel
theorem dL_sticks_192 : decode cL_sticks 192 = .ok (.iload 7, 2) := by decide +kernel
theorem dL_sticks_194 : decode cL_sticks 194 = .ok (.imul, 1) := by decide +kernel
theorem dL_sticks_195 : decode cL_sticks 195 = .ok (.iconst 1, 1) := by decide +kernel
theorem dL_sticks_196 : decode cL_sticks 196 = .ok (.iadd, 1) := by decide +kernel
theorem dL_sticks_197 : decode cL_sticks 197 = .ok (.iload 10, 2) := by decide +kernel
theorem dL_sticks_199 : decode cL_sticks 199 = .ok (.iastore, 1) := by decide +kernel
theorem dL_sticks_200 : decode cL_sticks 200 = .ok (.aload 4, 2) := by decide +kernel
theorem dL_sticks_202 : decode cL_sticks 202 = .ok (.bipush 8, 2) := by decide +kernel
theorem dL_sticks_204 : decode cL_sticks 204 = .ok (.iload 7, 2) := by decide +kernel
theorem dL_sticks_206 : decode cL_sticks 206 = .ok (.imul, 1) := by decide +kernel
theorem dL_sticks_207 : decode cL_sticks 207 = .ok (.iconst 2, 1) := by decide +kernel
theorem dL_sticks_208 : decode cL_sticks 208 = .ok (.iadd, 1) := by decide +kernel
theorem dL_sticks_209 : decode cL_sticks 209 = .ok (.iload 11, 2) := by decide +kernel
theorem dL_sticks_211 : decode cL_sticks 211 = .ok (.iastore, 1) := by decide +kernel
theorem dL_sticks_212 : decode cL_sticks 212 = .ok (.iconst 0, 1) := by decide +kernel
theorem dL_sticks_213 : decode cL_sticks 213 = .ok (.istore 12, 2) := by decide +kernel
theorem dL_sticks_215 : decode cL_sticks 215 = .ok (.iconst 0, 1) := by decide +kernel
theorem dL_sticks_216 : decode cL_sticks 216 = .ok (.istore 13, 2) := by decide +kernel
theorem dL_sticks_218 : decode cL_sticks 218 = .ok (.iload 13, 2) := by decide +kernel
theorem dL_sticks_220 : decode cL_sticks 220 = .ok (.bipush 32, 2) := by decide +kernel
theorem dL_sticks_222 : decode cL_sticks 222 = .ok (.if_icmp .ge 27, 3) := by decide +kernel
theorem dL_sticks_225 : decode cL_sticks 225 = .ok (.iload 12, 2) := by decide +kernel
theorem dL_sticks_227 : decode cL_sticks 227 = .ok (.aload 4, 2) := by decide +kernel
theorem dL_sticks_229 : decode cL_sticks 229 = .ok (.iload 13, 2) := by decide +kernel
theorem dL_sticks_231 : decode cL_sticks 231 = .ok (.iaload, 1) := by decide +kernel
theorem dL_sticks_232 : decode cL_sticks 232 = .ok (.ifCond .le 7, 3) := by decide +kernel
theorem dL_sticks_235 : decode cL_sticks 235 = .ok (.iconst 1, 1) := by decide +kernel
theorem dL_sticks_236 : decode cL_sticks 236 = .ok (.goto 4, 3) := by decide +kernel
theorem dL_sticks_239 : decode cL_sticks 239 = .ok (.iconst 0, 1) := by decide +kernel
theorem dL_sticks_240 : decode cL_sticks 240 = .ok (.iadd, 1) := by decide +kernel
theorem dL_sticks_241 : decode cL_sticks 241 = .ok (.istore 12, 2) := by decide +kernel
theorem dL_sticks_243 : decode cL_sticks 243 = .ok (.iinc 13 8, 3) := by decide +kernel
theorem dL_sticks_246 : decode cL_sticks 246 = .ok (.goto (-28), 3) := by decide +kernel
theorem dL_sticks_249 : decode cL_sticks 249 = .ok (.aload_n 0, 1) := by decide +kernel
theorem dL_sticks_250 : decode cL_sticks 250 = .ok (.iload 7, 2) := by decide +kernel
theorem dL_sticks_252 : decode cL_sticks 252 = .ok (.iload 9, 2) := by decide +kernel
theorem dL_sticks_254 : decode cL_sticks 254 = .ok (.iload 10, 2) := by decide +kernel
theorem dL_sticks_256 : decode cL_sticks 256 = .ok (.iload 11, 2) := by decide +kernel
theorem dL_sticks_258 : decode cL_sticks 258 = .ok (.invokestatic 84, 3) := by decide +kernel
theorem dL_sticks_261 : decode cL_sticks 261 = .ok (.iload 12, 2) := by decide +kernel
theorem dL_sticks_263 : decode cL_sticks 263 = .ok (.if_icmp .ne 7, 3) := by decide +kernel
theorem dL_sticks_266 : decode cL_sticks 266 = .ok (.iconst 1, 1) := by decide +kernel
theorem dL_sticks_267 : decode cL_sticks 267 = .ok (.goto 4, 3) := by decide +kernel
theorem dL_sticks_270 : decode cL_sticks 270 = .ok (.iconst 0, 1) := by decide +kernel
theorem dL_sticks_271 : decode cL_sticks 271 = .ok (.ireturn, 1) := by decide +kernel
theorem dL_sticks_272 : decode cL_sticks 272 = .ok (.aload 4, 2) := by decide +kernel
theorem dL_sticks_274 : decode cL_sticks 274 = .ok (.bipush 12, 2) := by decide +kernel
theorem dL_sticks_276 : decode cL_sticks 276 = .ok (.iload 7, 2) := by decide +kernel
theorem dL_sticks_278 : decode cL_sticks 278 = .ok (.imul, 1) := by decide +kernel
theorem dL_sticks_279 : decode cL_sticks 279 = .ok (.invokestatic 70, 3) := by decide +kernel
theorem dL_sticks_282 : decode cL_sticks 282 = .ok (.istore 9, 2) := by decide +kernel
theorem dL_sticks_284 : decode cL_sticks 284 = .ok (.iload 8, 2) := by decide +kernel
theorem dL_sticks_286 : decode cL_sticks 286 = .ok (.iconst 2, 1) := by decide +kernel
theorem dL_sticks_287 : decode cL_sticks 287 = .ok (.if_icmp .ne 106, 3) := by decide +kernel
theorem dL_sticks_290 : decode cL_sticks 290 = .ok (.aload 4, 2) := by decide +kernel
theorem dL_sticks_292 : decode cL_sticks 292 = .ok (.bipush 8, 2) := by decide +kernel
theorem dL_sticks_294 : decode cL_sticks 294 = .ok (.iload 7, 2) := by decide +kernel
theorem dL_sticks_296 : decode cL_sticks 296 = .ok (.imul, 1) := by decide +kernel
theorem dL_sticks_297 : decode cL_sticks 297 = .ok (.iaload, 1) := by decide +kernel
theorem dL_sticks_298 : decode cL_sticks 298 = .ok (.ifCond .ne 30, 3) := by decide +kernel
theorem dL_sticks_301 : decode cL_sticks 301 = .ok (.aload_n 0, 1) := by decide +kernel
theorem dL_sticks_302 : decode cL_sticks 302 = .ok (.iload 7, 2) := by decide +kernel
theorem dL_sticks_304 : decode cL_sticks 304 = .ok (.invokestatic 87, 3) := by decide +kernel
theorem dL_sticks_307 : decode cL_sticks 307 = .ok (.bipush (-33), 2) := by decide +kernel
theorem dL_sticks_309 : decode cL_sticks 309 = .ok (.if_icmp .ne 17, 3) := by decide +kernel
theorem dL_sticks_312 : decode cL_sticks 312 = .ok (.aload_n 0, 1) := by decide +kernel
theorem dL_sticks_313 : decode cL_sticks 313 = .ok (.iconst 4, 1) := by decide +kernel
theorem dL_sticks_314 : decode cL_sticks 314 = .ok (.invokestatic 87, 3) := by decide +kernel
theorem dL_sticks_317 : decode cL_sticks 317 = .ok (.bipush (-31), 2) := by decide +kernel
theorem dL_sticks_319 : decode cL_sticks 319 = .ok (.if_icmp .ne 7, 3) := by decide +kernel
theorem dL_sticks_322 : decode cL_sticks 322 = .ok (.iconst 1, 1) := by decide +kernel
theorem dL_sticks_323 : decode cL_sticks 323 = .ok (.goto 4, 3) := by decide +kernel
theorem dL_sticks_326 : decode cL_sticks 326 = .ok (.iconst 0, 1) := by decide +kernel
theorem dL_sticks_327 : decode cL_sticks 327 = .ok (.ireturn, 1) := by decide +kernel
theorem dL_sticks_328 : decode cL_sticks 328 = .ok (.aload 4, 2) := by decide +kernel
theorem dL_sticks_330 : decode cL_sticks 330 = .ok (.bipush 8, 2) := by decide +kernel
theorem dL_sticks_332 : decode cL_sticks 332 = .ok (.iload 7, 2) := by decide +kernel
theorem dL_sticks_334 : decode cL_sticks 334 = .ok (.imul, 1) := by decide +kernel
theorem dL_sticks_335 : decode cL_sticks 335 = .ok (.iconst 0, 1) := by decide +kernel
theorem dL_sticks_336 : decode cL_sticks 336 = .ok (.iastore, 1) := by decide +kernel
theorem dL_sticks_337 : decode cL_sticks 337 = .ok (.aload 4, 2) := by decide +kernel
theorem dL_sticks_339 : decode cL_sticks 339 = .ok (.bipush 8, 2) := by decide +kernel
theorem dL_sticks_341 : decode cL_sticks 341 = .ok (.iload 7, 2) := by decide +kernel
theorem dL_sticks_343 : decode cL_sticks 343 = .ok (.imul, 1) := by decide +kernel
theorem dL_sticks_344 : decode cL_sticks 344 = .ok (.iconst 3, 1) := by decide +kernel
theorem dL_sticks_345 : decode cL_sticks 345 = .ok (.iadd, 1) := by decide +kernel
theorem dL_sticks_346 : decode cL_sticks 346 = .ok (.iconst 0, 1) := by decide +kernel
theorem dL_sticks_347 : decode cL_sticks 347 = .ok (.iastore, 1) := by decide +kernel
theorem dL_sticks_348 : decode cL_sticks 348 = .ok (.aload 4, 2) := by decide +kernel
theorem dL_sticks_350 : decode cL_sticks 350 = .ok (.bipush 8, 2) := by decide +kernel
theorem dL_sticks_352 : decode cL_sticks 352 = .ok (.iload 7, 2) := by decide +kernel
theorem dL_sticks_354 : decode cL_sticks 354 = .ok (.imul, 1) := by decide +kernel
theorem dL_sticks_355 : decode cL_sticks 355 = .ok (.iconst 4, 1) := by decide +kernel
theorem dL_sticks_356 : decode cL_sticks 356 = .ok (.iadd, 1) := by decide +kernel
theorem dL_sticks_357 : decode cL_sticks 357 = .ok (.iconst 0, 1) := by decide +kernel
theorem dL_sticks_358 : decode cL_sticks 358 = .ok (.iastore, 1) := by decide +kernel
theorem dL_sticks_359 : decode cL_sticks 359 = .ok (.aload_n 0, 1) := by decide +kernel
theorem dL_sticks_360 : decode cL_sticks 360 = .ok (.iload 7, 2) := by decide +kernel
theorem dL_sticks_362 : decode cL_sticks 362 = .ok (.invokestatic 87, 3) := by decide +kernel
theorem dL_sticks_365 : decode cL_sticks 365 = .ok (.iload 9, 2) := by decide +kernel
theorem dL_sticks_367 : decode cL_sticks 367 = .ok (.ifCond .eq 16, 3) := by decide +kernel
theorem dL_sticks_370 : decode cL_sticks 370 = .ok (.aload_n 3, 1) := by decide +kernel
theorem dL_sticks_371 : decode cL_sticks 371 = .ok (.aload 5, 2) := by decide +kernel
theorem dL_sticks_373 : decode cL_sticks 373 = .ok (.aload 6, 2) := by decide +kernel
theorem dL_sticks_375 : decode cL_sticks 375 = .ok (.iload 7, 2) := by decide +kernel
theorem dL_sticks_377 : decode cL_sticks 377 = .ok (.invokestatic 90, 3) := by decide +kernel
theorem dL_sticks_380 : decode cL_sticks 380 = .ok (.goto 4, 3) := by decide +kernel
theorem dL_sticks_383 : decode cL_sticks 383 = .ok (.iconst 0, 1) := by decide +kernel
theorem dL_sticks_384 : decode cL_sticks 384 = .ok (.if_icmp .ne 7, 3) := by decide +kernel
theorem dL_sticks_387 : decode cL_sticks 387 = .ok (.iconst 1, 1) := by decide +kernel
theorem dL_sticks_388 : decode cL_sticks 388 = .ok (.goto 4, 3) := by decide +kernel
theorem dL_sticks_391 : decode cL_sticks 391 = .ok (.iconst 0, 1) := by decide +kernel
theorem dL_sticks_392 : decode cL_sticks 392 = .ok (.ireturn, 1) := by decide +kernel
theorem dL_sticks_393 : decode cL_sticks 393 = .ok (.aload 4, 2) := by decide +kernel
theorem dL_sticks_395 : decode cL_sticks 395 = .ok (.bipush 8, 2) := by decide +kernel
theorem dL_sticks_397 : decode cL_sticks 397 = .ok (.iload 7, 2) := by decide +kernel
theorem dL_sticks_399 : decode cL_sticks 399 = .ok (.imul, 1) := by decide +kernel
theorem dL_sticks_400 : decode cL_sticks 400 = .ok (.iaload, 1) := by decide +kernel
theorem dL_sticks_401 : decode cL_sticks 401 = .ok (.ifCond .eq 17, 3) := by decide +kernel
theorem dL_sticks_404 : decode cL_sticks 404 = .ok (.aload 4, 2) := by decide +kernel
theorem dL_sticks_406 : decode cL_sticks 406 = .ok (.bipush 8, 2) := by decide +kernel
theorem dL_sticks_408 : decode cL_sticks 408 = .ok (.iload 7, 2) := by decide +kernel
theorem dL_sticks_410 : decode cL_sticks 410 = .ok (.imul, 1) := by decide +kernel
theorem dL_sticks_411 : decode cL_sticks 411 = .ok (.iconst 3, 1) := by decide +kernel
theorem dL_sticks_412 : decode cL_sticks 412 = .ok (.iadd, 1) := by decide +kernel
theorem dL_sticks_413 : decode cL_sticks 413 = .ok (.iaload, 1) := by decide +kernel
theorem dL_sticks_414 : decode cL_sticks 414 = .ok (.iconst 1, 1) := by decide +kernel
theorem dL_sticks_415 : decode cL_sticks 415 = .ok (.if_icmp .ne 30, 3) := by decide +kernel
theorem dL_sticks_418 : decode cL_sticks 418 = .ok (.aload_n 0, 1) := by decide +kernel
theorem dL_sticks_419 : decode cL_sticks 419 = .ok (.iload 7, 2) := by decide +kernel
theorem dL_sticks_421 : decode cL_sticks 421 = .ok (.invokestatic 93, 3) := by decide +kernel
theorem dL_sticks_424 : decode cL_sticks 424 = .ok (.bipush (-33), 2) := by decide +kernel
theorem dL_sticks_426 : decode cL_sticks 426 = .ok (.if_icmp .ne 17, 3) := by decide +kernel
theorem dL_sticks_429 : decode cL_sticks 429 = .ok (.aload_n 0, 1) := by decide +kernel
theorem dL_sticks_430 : decode cL_sticks 430 = .ok (.iconst (-1), 1) := by decide +kernel
theorem dL_sticks_431 : decode cL_sticks 431 = .ok (.invokestatic 93, 3) := by decide +kernel
theorem dL_sticks_434 : decode cL_sticks 434 = .ok (.bipush (-31), 2) := by decide +kernel
theorem dL_sticks_436 : decode cL_sticks 436 = .ok (.if_icmp .ne 7, 3) := by decide +kernel
theorem dL_sticks_439 : decode cL_sticks 439 = .ok (.iconst 1, 1) := by decide +kernel
theorem dL_sticks_440 : decode cL_sticks 440 = .ok (.goto 4, 3) := by decide +kernel
theorem dL_sticks_443 : decode cL_sticks 443 = .ok (.iconst 0, 1) := by decide +kernel
theorem dL_sticks_444 : decode cL_sticks 444 = .ok (.ireturn, 1) := by decide +kernel
theorem dL_sticks_445 : decode cL_sticks 445 = .ok (.aload 4, 2) := by decide +kernel
theorem dL_sticks_447 : decode cL_sticks 447 = .ok (.bipush 8, 2) := by decide +kernel
theorem dL_sticks_449 : decode cL_sticks 449 = .ok (.iload 7, 2) := by decide +kernel
theorem dL_sticks_451 : decode cL_sticks 451 = .ok (.imul, 1) := by decide +kernel
theorem dL_sticks_452 : decode cL_sticks 452 = .ok (.iconst 3, 1) := by decide +kernel
theorem dL_sticks_453 : decode cL_sticks 453 = .ok (.iadd, 1) := by decide +kernel
theorem dL_sticks_454 : decode cL_sticks 454 = .ok (.iconst 1, 1) := by decide +kernel
theorem dL_sticks_455 : decode cL_sticks 455 = .ok (.iastore, 1) := by decide +kernel
theorem dL_sticks_456 : decode cL_sticks 456 = .ok (.aload_n 0, 1) := by decide +kernel
theorem dL_sticks_457 : decode cL_sticks 457 = .ok (.iload 7, 2) := by decide +kernel
theorem dL_sticks_459 : decode cL_sticks 459 = .ok (.invokestatic 93, 3) := by decide +kernel
theorem dL_sticks_462 : decode cL_sticks 462 = .ok (.iload 9, 2) := by decide +kernel
theorem dL_sticks_464 : decode cL_sticks 464 = .ok (.ifCond .eq 16, 3) := by decide +kernel
theorem dL_sticks_467 : decode cL_sticks 467 = .ok (.aload_n 3, 1) := by decide +kernel
theorem dL_sticks_468 : decode cL_sticks 468 = .ok (.aload 5, 2) := by decide +kernel
theorem dL_sticks_470 : decode cL_sticks 470 = .ok (.aload 6, 2) := by decide +kernel
theorem dL_sticks_472 : decode cL_sticks 472 = .ok (.iload 7, 2) := by decide +kernel
theorem dL_sticks_474 : decode cL_sticks 474 = .ok (.invokestatic 90, 3) := by decide +kernel
theorem dL_sticks_477 : decode cL_sticks 477 = .ok (.goto 4, 3) := by decide +kernel
theorem dL_sticks_480 : decode cL_sticks 480 = .ok (.iconst 0, 1) := by decide +kernel
theorem dL_sticks_481 : decode cL_sticks 481 = .ok (.if_icmp .ne 7, 3) := by decide +kernel
theorem dL_sticks_484 : decode cL_sticks 484 = .ok (.iconst 1, 1) := by decide +kernel
theorem dL_sticks_485 : decode cL_sticks 485 = .ok (.goto 4, 3) := by decide +kernel
theorem dL_sticks_488 : decode cL_sticks 488 = .ok (.iconst 0, 1) := by decide +kernel
theorem dL_sticks_489 : decode cL_sticks 489 = .ok (.ireturn, 1) := by decide +kernel
theorem dL_act_0 : decode cL_act 0 = .ok (.iload_n 1, 1) := by decide +kernel
theorem dL_act_1 : decode cL_act 1 = .ok (.bipush 12, 2) := by decide +kernel
theorem dL_act_3 : decode cL_act 3 = .ok (.invokestatic 81, 3) := by decide +kernel
theorem dL_act_6 : decode cL_act 6 = .ok (.istore 8, 2) := by decide +kernel
theorem dL_act_8 : decode cL_act 8 = .ok (.iload_n 2, 1) := by decide +kernel
theorem dL_act_9 : decode cL_act 9 = .ok (.iload_n 2, 1) := by decide +kernel
theorem dL_act_10 : decode cL_act 10 = .ok (.bipush 12, 2) := by decide +kernel
theorem dL_act_12 : decode cL_act 12 = .ok (.ishr, 1) := by decide +kernel
theorem dL_act_13 : decode cL_act 13 = .ok (.bipush 7, 2) := by decide +kernel
theorem dL_act_15 : decode cL_act 15 = .ok (.iand, 1) := by decide +kernel
theorem dL_act_16 : decode cL_act 16 = .ok (.ifCond .ne 8, 3) := by decide +kernel
theorem dL_act_19 : decode cL_act 19 = .ok (.bipush 48, 2) := by decide +kernel
theorem dL_act_21 : decode cL_act 21 = .ok (.goto 8, 3) := by decide +kernel
theorem dL_act_24 : decode cL_act 24 = .ok (.aload_n 3, 1) := by decide +kernel
theorem dL_act_25 : decode cL_act 25 = .ok (.iconst 0, 1) := by decide +kernel
theorem dL_act_26 : decode cL_act 26 = .ok (.iaload, 1) := by decide +kernel
theorem dL_act_27 : decode cL_act 27 = .ok (.iconst 1, 1) := by decide +kernel
theorem dL_act_28 : decode cL_act 28 = .ok (.iadd, 1) := by decide +kernel
theorem dL_act_29 : decode cL_act 29 = .ok (.invokestatic 81, 3) := by decide +kernel
theorem dL_act_32 : decode cL_act 32 = .ok (.istore 9, 2) := by decide +kernel
theorem dL_act_34 : decode cL_act 34 = .ok (.iload 8, 2) := by decide +kernel
theorem dL_act_36 : decode cL_act 36 = .ok (.iconst 2, 1) := by decide +kernel
theorem dL_act_37 : decode cL_act 37 = .ok (.if_icmp .ge 70, 3) := by decide +kernel
theorem dL_act_40 : decode cL_act 40 = .ok (.aload 4, 2) := by decide +kernel
theorem dL_act_42 : decode cL_act 42 = .ok (.aload_n 3, 1) := by decide +kernel
theorem dL_act_43 : decode cL_act 43 = .ok (.bipush 7, 2) := by decide +kernel
theorem dL_act_45 : decode cL_act 45 = .ok (.iaload, 1) := by decide +kernel
theorem dL_act_46 : decode cL_act 46 = .ok (.invokestatic 95, 3) := by decide +kernel
theorem dL_act_49 : decode cL_act 49 = .ok (.ifCond .le 18, 3) := by decide +kernel
theorem dL_act_52 : decode cL_act 52 = .ok (.aload_n 0, 1) := by decide +kernel
theorem dL_act_53 : decode cL_act 53 = .ok (.invokestatic 98, 3) := by decide +kernel
theorem dL_act_56 : decode cL_act 56 = .ok (.bipush (-33), 2) := by decide +kernel
theorem dL_act_58 : decode cL_act 58 = .ok (.if_icmp .ne 7, 3) := by decide +kernel
theorem dL_act_61 : decode cL_act 61 = .ok (.iconst 1, 1) := by decide +kernel
theorem dL_act_62 : decode cL_act 62 = .ok (.goto 4, 3) := by decide +kernel
theorem dL_act_65 : decode cL_act 65 = .ok (.iconst 0, 1) := by decide +kernel
theorem dL_act_66 : decode cL_act 66 = .ok (.ireturn, 1) := by decide +kernel
theorem dL_act_67 : decode cL_act 67 = .ok (.aload_n 3, 1) := by decide +kernel
theorem dL_act_68 : decode cL_act 68 = .ok (.aload 4, 2) := by decide +kernel
theorem dL_act_70 : decode cL_act 70 = .ok (.aload 5, 2) := by decide +kernel
theorem dL_act_72 : decode cL_act 72 = .ok (.aload 6, 2) := by decide +kernel
theorem dL_act_74 : decode cL_act 74 = .ok (.aload 7, 2) := by decide +kernel
theorem dL_act_76 : decode cL_act 76 = .ok (.aload_n 3, 1) := by decide +kernel
theorem dL_act_77 : decode cL_act 77 = .ok (.bipush 7, 2) := by decide +kernel
theorem dL_act_79 : decode cL_act 79 = .ok (.iaload, 1) := by decide +kernel
theorem dL_act_80 : decode cL_act 80 = .ok (.invokestatic 101, 3) := by decide +kernel
theorem dL_act_83 : decode cL_act 83 = .ok (.aload_n 3, 1) := by decide +kernel
theorem dL_act_84 : decode cL_act 84 = .ok (.bipush 6, 2) := by decide +kernel
theorem dL_act_86 : decode cL_act 86 = .ok (.dup2, 1) := by decide +kernel
theorem dL_act_87 : decode cL_act 87 = .ok (.iaload, 1) := by decide +kernel
theorem dL_act_88 : decode cL_act 88 = .ok (.iconst 1, 1) := by decide +kernel
theorem dL_act_89 : decode cL_act 89 = .ok (.iadd, 1) := by decide +kernel
theorem dL_act_90 : decode cL_act 90 = .ok (.iastore, 1) := by decide +kernel
theorem dL_act_91 : decode cL_act 91 = .ok (.aload_n 0, 1) := by decide +kernel
theorem dL_act_92 : decode cL_act 92 = .ok (.invokestatic 98, 3) := by decide +kernel
theorem dL_act_95 : decode cL_act 95 = .ok (.aload_n 3, 1) := by decide +kernel
theorem dL_act_96 : decode cL_act 96 = .ok (.iconst 0, 1) := by decide +kernel
theorem dL_act_97 : decode cL_act 97 = .ok (.iaload, 1) := by decide +kernel
theorem dL_act_98 : decode cL_act 98 = .ok (.if_icmp .ne 7, 3) := by decide +kernel
theorem dL_act_101 : decode cL_act 101 = .ok (.iconst 1, 1) := by decide +kernel
theorem dL_act_102 : decode cL_act 102 = .ok (.goto 4, 3) := by decide +kernel
theorem dL_act_105 : decode cL_act 105 = .ok (.iconst 0, 1) := by decide +kernel
theorem dL_act_106 : decode cL_act 106 = .ok (.ireturn, 1) := by decide +kernel
theorem dL_act_107 : decode cL_act 107 = .ok (.iload 8, 2) := by decide +kernel
theorem dL_act_109 : decode cL_act 109 = .ok (.iconst 2, 1) := by decide +kernel
theorem dL_act_110 : decode cL_act 110 = .ok (.if_icmp .ne 117, 3) := by decide +kernel
theorem dL_act_113 : decode cL_act 113 = .ok (.iload_n 2, 1) := by decide +kernel
theorem dL_act_114 : decode cL_act 114 = .ok (.bipush 7, 2) := by decide +kernel
theorem dL_act_116 : decode cL_act 116 = .ok (.iand, 1) := by decide +kernel
theorem dL_act_117 : decode cL_act 117 = .ok (.ifCond .ne 110, 3) := by decide +kernel
theorem dL_act_120 : decode cL_act 120 = .ok (.aload_n 3, 1) := by decide +kernel
theorem dL_act_121 : decode cL_act 121 = .ok (.bipush 9, 2) := by decide +kernel
theorem dL_act_123 : decode cL_act 123 = .ok (.iaload, 1) := by decide +kernel
theorem dL_act_124 : decode cL_act 124 = .ok (.ifCond .ge 18, 3) := by decide +kernel
theorem dL_act_127 : decode cL_act 127 = .ok (.aload_n 0, 1) := by decide +kernel
theorem dL_act_128 : decode cL_act 128 = .ok (.invokestatic 105, 3) := by decide +kernel
theorem dL_act_131 : decode cL_act 131 = .ok (.bipush (-33), 2) := by decide +kernel
theorem dL_act_133 : decode cL_act 133 = .ok (.if_icmp .ne 7, 3) := by decide +kernel
theorem dL_act_136 : decode cL_act 136 = .ok (.iconst 1, 1) := by decide +kernel
theorem dL_act_137 : decode cL_act 137 = .ok (.goto 4, 3) := by decide +kernel
theorem dL_act_140 : decode cL_act 140 = .ok (.iconst 0, 1) := by decide +kernel
theorem dL_act_141 : decode cL_act 141 = .ok (.ireturn, 1) := by decide +kernel
theorem dL_act_142 : decode cL_act 142 = .ok (.aload_n 3, 1) := by decide +kernel
theorem dL_act_143 : decode cL_act 143 = .ok (.iconst 0, 1) := by decide +kernel
theorem dL_act_144 : decode cL_act 144 = .ok (.iaload, 1) := by decide +kernel
theorem dL_act_145 : decode cL_act 145 = .ok (.istore 10, 2) := by decide +kernel
theorem dL_act_147 : decode cL_act 147 = .ok (.aload_n 3, 1) := by decide +kernel
theorem dL_act_148 : decode cL_act 148 = .ok (.iconst 0, 1) := by decide +kernel
theorem dL_act_149 : decode cL_act 149 = .ok (.iconst 0, 1) := by decide +kernel
theorem dL_act_150 : decode cL_act 150 = .ok (.iastore, 1) := by decide +kernel
theorem dL_act_151 : decode cL_act 151 = .ok (.aload_n 3, 1) := by decide +kernel
theorem dL_act_152 : decode cL_act 152 = .ok (.iconst 1, 1) := by decide +kernel
theorem dL_act_153 : decode cL_act 153 = .ok (.iconst 0, 1) := by decide +kernel
theorem dL_act_154 : decode cL_act 154 = .ok (.iastore, 1) := by decide +kernel
theorem dL_act_155 : decode cL_act 155 = .ok (.aload_n 3, 1) := by decide +kernel
theorem dL_act_156 : decode cL_act 156 = .ok (.bipush 9, 2) := by decide +kernel
theorem dL_act_158 : decode cL_act 158 = .ok (.iconst (-1), 1) := by decide +kernel
theorem dL_act_159 : decode cL_act 159 = .ok (.iastore, 1) := by decide +kernel
theorem dL_act_160 : decode cL_act 160 = .ok (.iconst 0, 1) := by decide +kernel
theorem dL_act_161 : decode cL_act 161 = .ok (.istore 11, 2) := by decide +kernel
theorem dL_act_163 : decode cL_act 163 = .ok (.iload 11, 2) := by decide +kernel
theorem dL_act_165 : decode cL_act 165 = .ok (.bipush 32, 2) := by decide +kernel
theorem dL_act_167 : decode cL_act 167 = .ok (.if_icmp .ge 17, 3) := by decide +kernel
theorem dL_act_170 : decode cL_act 170 = .ok (.aload 4, 2) := by decide +kernel
theorem dL_act_172 : decode cL_act 172 = .ok (.iload 11, 2) := by decide +kernel
theorem dL_act_174 : decode cL_act 174 = .ok (.iconst 4, 1) := by decide +kernel
theorem dL_act_175 : decode cL_act 175 = .ok (.iadd, 1) := by decide +kernel
theorem dL_act_176 : decode cL_act 176 = .ok (.iconst 0, 1) := by decide +kernel
theorem dL_act_177 : decode cL_act 177 = .ok (.iastore, 1) := by decide +kernel
theorem dL_act_178 : decode cL_act 178 = .ok (.iinc 11 8, 3) := by decide +kernel
theorem dL_act_181 : decode cL_act 181 = .ok (.goto (-18), 3) := by decide +kernel
theorem dL_act_184 : decode cL_act 184 = .ok (.iconst 0, 1) := by decide +kernel
theorem dL_act_185 : decode cL_act 185 = .ok (.istore 11, 2) := by decide +kernel
theorem dL_act_187 : decode cL_act 187 = .ok (.iload 11, 2) := by decide +kernel
theorem dL_act_189 : decode cL_act 189 = .ok (.bipush 48, 2) := by decide +kernel
theorem dL_act_191 : decode cL_act 191 = .ok (.if_icmp .ge 21, 3) := by decide +kernel
theorem dL_act_194 : decode cL_act 194 = .ok (.aload 5, 2) := by decide +kernel
theorem dL_act_196 : decode cL_act 196 = .ok (.iload 11, 2) := by decide +kernel
theorem dL_act_198 : decode cL_act 198 = .ok (.iconst (-1), 1) := by decide +kernel
theorem dL_act_199 : decode cL_act 199 = .ok (.iastore, 1) := by decide +kernel
theorem dL_act_200 : decode cL_act 200 = .ok (.aload 6, 2) := by decide +kernel
theorem dL_act_202 : decode cL_act 202 = .ok (.iload 11, 2) := by decide +kernel
theorem dL_act_204 : decode cL_act 204 = .ok (.iconst (-1), 1) := by decide +kernel
theorem dL_act_205 : decode cL_act 205 = .ok (.iastore, 1) := by decide +kernel
theorem dL_act_206 : decode cL_act 206 = .ok (.iinc 11 1, 3) := by decide +kernel
theorem dL_act_209 : decode cL_act 209 = .ok (.goto (-22), 3) := by decide +kernel
theorem dL_act_212 : decode cL_act 212 = .ok (.aload_n 0, 1) := by decide +kernel
theorem dL_act_213 : decode cL_act 213 = .ok (.invokestatic 105, 3) := by decide +kernel
theorem dL_act_216 : decode cL_act 216 = .ok (.iload 10, 2) := by decide +kernel
theorem dL_act_218 : decode cL_act 218 = .ok (.if_icmp .ne 7, 3) := by decide +kernel
theorem dL_act_221 : decode cL_act 221 = .ok (.iconst 1, 1) := by decide +kernel
theorem dL_act_222 : decode cL_act 222 = .ok (.goto 4, 3) := by decide +kernel
theorem dL_act_225 : decode cL_act 225 = .ok (.iconst 0, 1) := by decide +kernel
theorem dL_act_226 : decode cL_act 226 = .ok (.ireturn, 1) := by decide +kernel
theorem dL_act_227 : decode cL_act 227 = .ok (.iload 8, 2) := by decide +kernel
theorem dL_act_229 : decode cL_act 229 = .ok (.bipush 6, 2) := by decide +kernel
theorem dL_act_231 : decode cL_act 231 = .ok (.if_icmp .ge 161, 3) := by decide +kernel
theorem dL_act_234 : decode cL_act 234 = .ok (.iload_n 2, 1) := by decide +kernel
theorem dL_act_235 : decode cL_act 235 = .ok (.bipush 6, 2) := by decide +kernel
theorem dL_act_237 : decode cL_act 237 = .ok (.ishr, 1) := by decide +kernel
theorem dL_act_238 : decode cL_act 238 = .ok (.bipush 100, 2) := by decide +kernel
theorem dL_act_240 : decode cL_act 240 = .ok (.invokestatic 81, 3) := by decide +kernel
theorem dL_act_243 : decode cL_act 243 = .ok (.istore 10, 2) := by decide +kernel
theorem dL_act_245 : decode cL_act 245 = .ok (.iload 9, 2) := by decide +kernel
theorem dL_act_247 : decode cL_act 247 = .ok (.aload_n 3, 1) := by decide +kernel
theorem dL_act_248 : decode cL_act 248 = .ok (.iconst 0, 1) := by decide +kernel
theorem dL_act_249 : decode cL_act 249 = .ok (.iaload, 1) := by decide +kernel
theorem dL_act_250 : decode cL_act 250 = .ok (.if_icmp .lt 33, 3) := by decide +kernel
theorem dL_act_253 : decode cL_act 253 = .ok (.aload_n 0, 1) := by decide +kernel
theorem dL_act_254 : decode cL_act 254 = .ok (.iload 9, 2) := by decide +kernel
theorem dL_act_256 : decode cL_act 256 = .ok (.bipush 100, 2) := by decide +kernel
theorem dL_act_258 : decode cL_act 258 = .ok (.invokestatic 107, 3) := by decide +kernel
theorem dL_act_261 : decode cL_act 261 = .ok (.bipush (-31), 2) := by decide +kernel
theorem dL_act_263 : decode cL_act 263 = .ok (.if_icmp .ne 18, 3) := by decide +kernel
theorem dL_act_266 : decode cL_act 266 = .ok (.aload_n 0, 1) := by decide +kernel
theorem dL_act_267 : decode cL_act 267 = .ok (.iconst (-1), 1) := by decide +kernel
theorem dL_act_268 : decode cL_act 268 = .ok (.iconst 0, 1) := by decide +kernel
theorem dL_act_269 : decode cL_act 269 = .ok (.invokestatic 107, 3) := by decide +kernel
theorem dL_act_272 : decode cL_act 272 = .ok (.bipush (-31), 2) := by decide +kernel
theorem dL_act_274 : decode cL_act 274 = .ok (.if_icmp .ne 7, 3) := by decide +kernel
theorem dL_act_277 : decode cL_act 277 = .ok (.iconst 1, 1) := by decide +kernel
theorem dL_act_278 : decode cL_act 278 = .ok (.goto 4, 3) := by decide +kernel
theorem dL_act_281 : decode cL_act 281 = .ok (.iconst 0, 1) := by decide +kernel
theorem dL_act_282 : decode cL_act 282 = .ok (.ireturn, 1) := by decide +kernel
theorem dL_act_283 : decode cL_act 283 = .ok (.aload 4, 2) := by decide +kernel
theorem dL_act_285 : decode cL_act 285 = .ok (.aload 5, 2) := by decide +kernel
theorem dL_act_287 : decode cL_act 287 = .ok (.aload 6, 2) := by decide +kernel
theorem dL_act_289 : decode cL_act 289 = .ok (.iload 9, 2) := by decide +kernel
theorem dL_act_291 : decode cL_act 291 = .ok (.invokestatic 110, 3) := by decide +kernel
theorem dL_act_294 : decode cL_act 294 = .ok (.ifCond .ne 35, 3) := by decide +kernel
theorem dL_act_297 : decode cL_act 297 = .ok (.aload_n 0, 1) := by decide +kernel
theorem dL_act_298 : decode cL_act 298 = .ok (.iload 9, 2) := by decide +kernel
theorem dL_act_300 : decode cL_act 300 = .ok (.iload 10, 2) := by decide +kernel
theorem dL_act_302 : decode cL_act 302 = .ok (.invokestatic 107, 3) := by decide +kernel
theorem dL_act_305 : decode cL_act 305 = .ok (.bipush (-33), 2) := by decide +kernel
theorem dL_act_307 : decode cL_act 307 = .ok (.if_icmp .ne 20, 3) := by decide +kernel
theorem dL_act_310 : decode cL_act 310 = .ok (.aload_n 0, 1) := by decide +kernel
theorem dL_act_311 : decode cL_act 311 = .ok (.iload 9, 2) := by decide +kernel
theorem dL_act_313 : decode cL_act 313 = .ok (.bipush 100, 2) := by decide +kernel
theorem dL_act_315 : decode cL_act 315 = .ok (.invokestatic 107, 3) := by decide +kernel
theorem dL_act_318 : decode cL_act 318 = .ok (.bipush (-32), 2) := by decide +kernel
theorem dL_act_320 : decode cL_act 320 = .ok (.if_icmp .ne 7, 3) := by decide +kernel
theorem dL_act_323 : decode cL_act 323 = .ok (.iconst 1, 1) := by decide +kernel
theorem dL_act_324 : decode cL_act 324 = .ok (.goto 4, 3) := by decide +kernel
theorem dL_act_327 : decode cL_act 327 = .ok (.iconst 0, 1) := by decide +kernel
theorem dL_act_328 : decode cL_act 328 = .ok (.ireturn, 1) := by decide +kernel
theorem dL_act_329 : decode cL_act 329 = .ok (.aload 7, 2) := by decide +kernel
theorem dL_act_331 : decode cL_act 331 = .ok (.aload 4, 2) := by decide +kernel
theorem dL_act_333 : decode cL_act 333 = .ok (.aload 5, 2) := by decide +kernel
theorem dL_act_335 : decode cL_act 335 = .ok (.aload 6, 2) := by decide +kernel
theorem dL_act_337 : decode cL_act 337 = .ok (.iload 9, 2) := by decide +kernel
theorem dL_act_339 : decode cL_act 339 = .ok (.invokestatic 74, 3) := by decide +kernel
theorem dL_act_342 : decode cL_act 342 = .ok (.iaload, 1) := by decide +kernel
theorem dL_act_343 : decode cL_act 343 = .ok (.istore 11, 2) := by decide +kernel
theorem dL_act_345 : decode cL_act 345 = .ok (.aload 7, 2) := by decide +kernel
theorem dL_act_347 : decode cL_act 347 = .ok (.aload 5, 2) := by decide +kernel
theorem dL_act_349 : decode cL_act 349 = .ok (.iload 9, 2) := by decide +kernel
theorem dL_act_351 : decode cL_act 351 = .ok (.iaload, 1) := by decide +kernel
theorem dL_act_352 : decode cL_act 352 = .ok (.iload 10, 2) := by decide +kernel
theorem dL_act_354 : decode cL_act 354 = .ok (.iastore, 1) := by decide +kernel
theorem dL_act_355 : decode cL_act 355 = .ok (.aload 6, 2) := by decide +kernel
theorem dL_act_357 : decode cL_act 357 = .ok (.iload 9, 2) := by decide +kernel
theorem dL_act_359 : decode cL_act 359 = .ok (.iaload, 1) := by decide +kernel
theorem dL_act_360 : decode cL_act 360 = .ok (.ifCond .lt 13, 3) := by decide +kernel
theorem dL_act_363 : decode cL_act 363 = .ok (.aload 7, 2) := by decide +kernel
theorem dL_act_365 : decode cL_act 365 = .ok (.aload 6, 2) := by decide +kernel
theorem dL_act_367 : decode cL_act 367 = .ok (.iload 9, 2) := by decide +kernel
theorem dL_act_369 : decode cL_act 369 = .ok (.iaload, 1) := by decide +kernel
theorem dL_act_370 : decode cL_act 370 = .ok (.iload 10, 2) := by decide +kernel
theorem dL_act_372 : decode cL_act 372 = .ok (.iastore, 1) := by decide +kernel
theorem dL_act_373 : decode cL_act 373 = .ok (.aload_n 0, 1) := by decide +kernel
theorem dL_act_374 : decode cL_act 374 = .ok (.iload 9, 2) := by decide +kernel
theorem dL_act_376 : decode cL_act 376 = .ok (.iload 10, 2) := by decide +kernel
theorem dL_act_378 : decode cL_act 378 = .ok (.invokestatic 107, 3) := by decide +kernel
theorem dL_act_381 : decode cL_act 381 = .ok (.iload 11, 2) := by decide +kernel
theorem dL_act_383 : decode cL_act 383 = .ok (.if_icmp .ne 7, 3) := by decide +kernel
theorem dL_act_386 : decode cL_act 386 = .ok (.iconst 1, 1) := by decide +kernel
theorem dL_act_387 : decode cL_act 387 = .ok (.goto 4, 3) := by decide +kernel
theorem dL_act_390 : decode cL_act 390 = .ok (.iconst 0, 1) := by decide +kernel
theorem dL_act_391 : decode cL_act 391 = .ok (.ireturn, 1) := by decide +kernel
theorem dL_act_392 : decode cL_act 392 = .ok (.iload 8, 2) := by decide +kernel
theorem dL_act_394 : decode cL_act 394 = .ok (.bipush 10, 2) := by decide +kernel
theorem dL_act_396 : decode cL_act 396 = .ok (.if_icmp .ge 101, 3) := by decide +kernel
theorem dL_act_399 : decode cL_act 399 = .ok (.iload 9, 2) := by decide +kernel
theorem dL_act_401 : decode cL_act 401 = .ok (.aload_n 3, 1) := by decide +kernel
theorem dL_act_402 : decode cL_act 402 = .ok (.iconst 0, 1) := by decide +kernel
theorem dL_act_403 : decode cL_act 403 = .ok (.iaload, 1) := by decide +kernel
theorem dL_act_404 : decode cL_act 404 = .ok (.if_icmp .lt 20, 3) := by decide +kernel
theorem dL_act_407 : decode cL_act 407 = .ok (.aload_n 0, 1) := by decide +kernel
theorem dL_act_408 : decode cL_act 408 = .ok (.iload 9, 2) := by decide +kernel
theorem dL_act_410 : decode cL_act 410 = .ok (.invokestatic 114, 3) := by decide +kernel
theorem dL_act_413 : decode cL_act 413 = .ok (.bipush (-31), 2) := by decide +kernel
theorem dL_act_415 : decode cL_act 415 = .ok (.if_icmp .ne 7, 3) := by decide +kernel
theorem dL_act_418 : decode cL_act 418 = .ok (.iconst 1, 1) := by decide +kernel
theorem dL_act_419 : decode cL_act 419 = .ok (.goto 4, 3) := by decide +kernel
theorem dL_act_422 : decode cL_act 422 = .ok (.iconst 0, 1) := by decide +kernel
theorem dL_act_423 : decode cL_act 423 = .ok (.ireturn, 1) := by decide +kernel
theorem dL_act_424 : decode cL_act 424 = .ok (.aload 4, 2) := by decide +kernel
theorem dL_act_426 : decode cL_act 426 = .ok (.aload 5, 2) := by decide +kernel
theorem dL_act_428 : decode cL_act 428 = .ok (.aload 6, 2) := by decide +kernel
theorem dL_act_430 : decode cL_act 430 = .ok (.iload 9, 2) := by decide +kernel
theorem dL_act_432 : decode cL_act 432 = .ok (.invokestatic 110, 3) := by decide +kernel
theorem dL_act_435 : decode cL_act 435 = .ok (.ifCond .ne 20, 3) := by decide +kernel
theorem dL_act_438 : decode cL_act 438 = .ok (.aload_n 0, 1) := by decide +kernel
theorem dL_act_439 : decode cL_act 439 = .ok (.iload 9, 2) := by decide +kernel
theorem dL_act_441 : decode cL_act 441 = .ok (.invokestatic 114, 3) := by decide +kernel
theorem dL_act_444 : decode cL_act 444 = .ok (.bipush (-33), 2) := by decide +kernel
theorem dL_act_446 : decode cL_act 446 = .ok (.if_icmp .ne 7, 3) := by decide +kernel
theorem dL_act_449 : decode cL_act 449 = .ok (.iconst 1, 1) := by decide +kernel
theorem dL_act_450 : decode cL_act 450 = .ok (.goto 4, 3) := by decide +kernel
theorem dL_act_453 : decode cL_act 453 = .ok (.iconst 0, 1) := by decide +kernel
theorem dL_act_454 : decode cL_act 454 = .ok (.ireturn, 1) := by decide +kernel
theorem dL_act_455 : decode cL_act 455 = .ok (.aload_n 3, 1) := by decide +kernel
theorem dL_act_456 : decode cL_act 456 = .ok (.aload 4, 2) := by decide +kernel
theorem dL_act_458 : decode cL_act 458 = .ok (.aload 5, 2) := by decide +kernel
theorem dL_act_460 : decode cL_act 460 = .ok (.aload 6, 2) := by decide +kernel
theorem dL_act_462 : decode cL_act 462 = .ok (.iload 9, 2) := by decide +kernel
theorem dL_act_464 : decode cL_act 464 = .ok (.iconst 0, 1) := by decide +kernel
theorem dL_act_465 : decode cL_act 465 = .ok (.invokestatic 116, 3) := by decide +kernel
theorem dL_act_468 : decode cL_act 468 = .ok (.aload_n 0, 1) := by decide +kernel
theorem dL_act_469 : decode cL_act 469 = .ok (.iload 9, 2) := by decide +kernel
theorem dL_act_471 : decode cL_act 471 = .ok (.invokestatic 114, 3) := by decide +kernel
theorem dL_act_474 : decode cL_act 474 = .ok (.aload 7, 2) := by decide +kernel
theorem dL_act_476 : decode cL_act 476 = .ok (.aload 4, 2) := by decide +kernel
theorem dL_act_478 : decode cL_act 478 = .ok (.aload 5, 2) := by decide +kernel
theorem dL_act_480 : decode cL_act 480 = .ok (.aload 6, 2) := by decide +kernel
theorem dL_act_482 : decode cL_act 482 = .ok (.iload 9, 2) := by decide +kernel
theorem dL_act_484 : decode cL_act 484 = .ok (.invokestatic 74, 3) := by decide +kernel
theorem dL_act_487 : decode cL_act 487 = .ok (.iaload, 1) := by decide +kernel
theorem dL_act_488 : decode cL_act 488 = .ok (.if_icmp .ne 7, 3) := by decide +kernel
theorem dL_act_491 : decode cL_act 491 = .ok (.iconst 1, 1) := by decide +kernel
theorem dL_act_492 : decode cL_act 492 = .ok (.goto 4, 3) := by decide +kernel
theorem dL_act_495 : decode cL_act 495 = .ok (.iconst 0, 1) := by decide +kernel
theorem dL_act_496 : decode cL_act 496 = .ok (.ireturn, 1) := by decide +kernel
theorem dL_act_497 : decode cL_act 497 = .ok (.iload 8, 2) := by decide +kernel
theorem dL_act_499 : decode cL_act 499 = .ok (.bipush 10, 2) := by decide +kernel
theorem dL_act_501 : decode cL_act 501 = .ok (.if_icmp .ne 60, 3) := by decide +kernel
theorem dL_act_504 : decode cL_act 504 = .ok (.iconst 1, 1) := by decide +kernel
theorem dL_act_505 : decode cL_act 505 = .ok (.iload_n 2, 1) := by decide +kernel
theorem dL_act_506 : decode cL_act 506 = .ok (.bipush 12, 2) := by decide +kernel
theorem dL_act_508 : decode cL_act 508 = .ok (.invokestatic 81, 3) := by decide +kernel
theorem dL_act_511 : decode cL_act 511 = .ok (.iadd, 1) := by decide +kernel
theorem dL_act_512 : decode cL_act 512 = .ok (.istore 10, 2) := by decide +kernel
theorem dL_act_514 : decode cL_act 514 = .ok (.aload_n 3, 1) := by decide +kernel
theorem dL_act_515 : decode cL_act 515 = .ok (.iconst 2, 1) := by decide +kernel
theorem dL_act_516 : decode cL_act 516 = .ok (.dup2, 1) := by decide +kernel
theorem dL_act_517 : decode cL_act 517 = .ok (.iaload, 1) := by decide +kernel
theorem dL_act_518 : decode cL_act 518 = .ok (.iload 10, 2) := by decide +kernel
theorem dL_act_520 : decode cL_act 520 = .ok (.iadd, 1) := by decide +kernel
theorem dL_act_521 : decode cL_act 521 = .ok (.iastore, 1) := by decide +kernel
theorem dL_act_522 : decode cL_act 522 = .ok (.aload_n 0, 1) := by decide +kernel
theorem dL_act_523 : decode cL_act 523 = .ok (.iload 10, 2) := by decide +kernel
theorem dL_act_525 : decode cL_act 525 = .ok (.invokestatic 120, 3) := by decide +kernel
theorem dL_act_528 : decode cL_act 528 = .ok (.aload_n 3, 1) := by decide +kernel
theorem dL_act_529 : decode cL_act 529 = .ok (.iconst 2, 1) := by decide +kernel
theorem dL_act_530 : decode cL_act 530 = .ok (.iaload, 1) := by decide +kernel
theorem dL_act_531 : decode cL_act 531 = .ok (.if_icmp .ne 28, 3) := by decide +kernel
theorem dL_act_534 : decode cL_act 534 = .ok (.aload_n 0, 1) := by decide +kernel
theorem dL_act_535 : decode cL_act 535 = .ok (.iconst 0, 1) := by decide +kernel
theorem dL_act_536 : decode cL_act 536 = .ok (.invokestatic 120, 3) := by decide +kernel
theorem dL_act_539 : decode cL_act 539 = .ok (.bipush (-32), 2) := by decide +kernel
theorem dL_act_541 : decode cL_act 541 = .ok (.if_icmp .ne 18, 3) := by decide +kernel
theorem dL_act_544 : decode cL_act 544 = .ok (.aload_n 0, 1) := by decide +kernel
theorem dL_act_545 : decode cL_act 545 = .ok (.bipush 100, 2) := by decide +kernel
theorem dL_act_547 : decode cL_act 547 = .ok (.invokestatic 120, 3) := by decide +kernel
theorem dL_act_550 : decode cL_act 550 = .ok (.bipush (-32), 2) := by decide +kernel
theorem dL_act_552 : decode cL_act 552 = .ok (.if_icmp .ne 7, 3) := by decide +kernel
theorem dL_act_555 : decode cL_act 555 = .ok (.iconst 1, 1) := by decide +kernel
theorem dL_act_556 : decode cL_act 556 = .ok (.goto 4, 3) := by decide +kernel
theorem dL_act_559 : decode cL_act 559 = .ok (.iconst 0, 1) := by decide +kernel
theorem dL_act_560 : decode cL_act 560 = .ok (.ireturn, 1) := by decide +kernel
theorem dL_act_561 : decode cL_act 561 = .ok (.iload_n 2, 1) := by decide +kernel
theorem dL_act_562 : decode cL_act 562 = .ok (.iconst 1, 1) := by decide +kernel
theorem dL_act_563 : decode cL_act 563 = .ok (.iand, 1) := by decide +kernel
theorem dL_act_564 : decode cL_act 564 = .ok (.istore 10, 2) := by decide +kernel
theorem dL_act_566 : decode cL_act 566 = .ok (.aload_n 3, 1) := by decide +kernel
theorem dL_act_567 : decode cL_act 567 = .ok (.bipush 7, 2) := by decide +kernel
theorem dL_act_569 : decode cL_act 569 = .ok (.iload 10, 2) := by decide +kernel
theorem dL_act_571 : decode cL_act 571 = .ok (.iadd, 1) := by decide +kernel
theorem dL_act_572 : decode cL_act 572 = .ok (.iaload, 1) := by decide +kernel
theorem dL_act_573 : decode cL_act 573 = .ok (.istore 11, 2) := by decide +kernel
theorem dL_act_575 : decode cL_act 575 = .ok (.aload_n 3, 1) := by decide +kernel
theorem dL_act_576 : decode cL_act 576 = .ok (.bipush 7, 2) := by decide +kernel
theorem dL_act_578 : decode cL_act 578 = .ok (.iload 10, 2) := by decide +kernel
theorem dL_act_580 : decode cL_act 580 = .ok (.iadd, 1) := by decide +kernel
theorem dL_act_581 : decode cL_act 581 = .ok (.iload_n 2, 1) := by decide +kernel
theorem dL_act_582 : decode cL_act 582 = .ok (.iconst 1, 1) := by decide +kernel
theorem dL_act_583 : decode cL_act 583 = .ok (.ishr, 1) := by decide +kernel
theorem dL_act_584 : decode cL_act 584 = .ok (.iconst 3, 1) := by decide +kernel
theorem dL_act_585 : decode cL_act 585 = .ok (.iload 10, 2) := by decide +kernel
theorem dL_act_587 : decode cL_act 587 = .ok (.isub, 1) := by decide +kernel
theorem dL_act_588 : decode cL_act 588 = .ok (.invokestatic 81, 3) := by decide +kernel
theorem dL_act_591 : decode cL_act 591 = .ok (.iastore, 1) := by decide +kernel
theorem dL_act_592 : decode cL_act 592 = .ok (.aload_n 0, 1) := by decide +kernel
theorem dL_act_593 : decode cL_act 593 = .ok (.iload 10, 2) := by decide +kernel
theorem dL_act_595 : decode cL_act 595 = .ok (.aload_n 3, 1) := by decide +kernel
theorem dL_act_596 : decode cL_act 596 = .ok (.bipush 7, 2) := by decide +kernel
theorem dL_act_598 : decode cL_act 598 = .ok (.iload 10, 2) := by decide +kernel
theorem dL_act_600 : decode cL_act 600 = .ok (.iadd, 1) := by decide +kernel
theorem dL_act_601 : decode cL_act 601 = .ok (.iaload, 1) := by decide +kernel
theorem dL_act_602 : decode cL_act 602 = .ok (.invokestatic 122, 3) := by decide +kernel
theorem dL_act_605 : decode cL_act 605 = .ok (.iload 11, 2) := by decide +kernel
theorem dL_act_607 : decode cL_act 607 = .ok (.if_icmp .ne 29, 3) := by decide +kernel
theorem dL_act_610 : decode cL_act 610 = .ok (.aload_n 0, 1) := by decide +kernel
theorem dL_act_611 : decode cL_act 611 = .ok (.iconst 1, 1) := by decide +kernel
theorem dL_act_612 : decode cL_act 612 = .ok (.iconst 2, 1) := by decide +kernel
theorem dL_act_613 : decode cL_act 613 = .ok (.invokestatic 122, 3) := by decide +kernel
theorem dL_act_616 : decode cL_act 616 = .ok (.bipush (-32), 2) := by decide +kernel
theorem dL_act_618 : decode cL_act 618 = .ok (.if_icmp .ne 18, 3) := by decide +kernel
theorem dL_act_621 : decode cL_act 621 = .ok (.aload_n 0, 1) := by decide +kernel
theorem dL_act_622 : decode cL_act 622 = .ok (.iconst 2, 1) := by decide +kernel
theorem dL_act_623 : decode cL_act 623 = .ok (.iconst 0, 1) := by decide +kernel
theorem dL_act_624 : decode cL_act 624 = .ok (.invokestatic 122, 3) := by decide +kernel
theorem dL_act_627 : decode cL_act 627 = .ok (.bipush (-31), 2) := by decide +kernel
theorem dL_act_629 : decode cL_act 629 = .ok (.if_icmp .ne 7, 3) := by decide +kernel
theorem dL_act_632 : decode cL_act 632 = .ok (.iconst 1, 1) := by decide +kernel
theorem dL_act_633 : decode cL_act 633 = .ok (.goto 4, 3) := by decide +kernel
theorem dL_act_636 : decode cL_act 636 = .ok (.iconst 0, 1) := by decide +kernel
theorem dL_act_637 : decode cL_act 637 = .ok (.ireturn, 1) := by decide +kernel
theorem dL_isSwept_0 : decode cL_isSwept 0 = .ok (.bipush 10, 2) := by decide +kernel
theorem dL_isSwept_2 : decode cL_isSwept 2 = .ok (.newarray .int, 2) := by decide +kernel
theorem dL_isSwept_4 : decode cL_isSwept 4 = .ok (.astore 4, 2) := by decide +kernel
theorem dL_isSwept_6 : decode cL_isSwept 6 = .ok (.bipush 32, 2) := by decide +kernel
theorem dL_isSwept_8 : decode cL_isSwept 8 = .ok (.newarray .int, 2) := by decide +kernel
theorem dL_isSwept_10 : decode cL_isSwept 10 = .ok (.astore 5, 2) := by decide +kernel
theorem dL_isSwept_12 : decode cL_isSwept 12 = .ok (.bipush 48, 2) := by decide +kernel
theorem dL_isSwept_14 : decode cL_isSwept 14 = .ok (.newarray .int, 2) := by decide +kernel
theorem dL_isSwept_16 : decode cL_isSwept 16 = .ok (.astore 6, 2) := by decide +kernel
theorem dL_isSwept_18 : decode cL_isSwept 18 = .ok (.bipush 48, 2) := by decide +kernel
theorem dL_isSwept_20 : decode cL_isSwept 20 = .ok (.newarray .int, 2) := by decide +kernel
theorem dL_isSwept_22 : decode cL_isSwept 22 = .ok (.astore 7, 2) := by decide +kernel
theorem dL_isSwept_24 : decode cL_isSwept 24 = .ok (.bipush 48, 2) := by decide +kernel
theorem dL_isSwept_26 : decode cL_isSwept 26 = .ok (.newarray .int, 2) := by decide +kernel
theorem dL_isSwept_28 : decode cL_isSwept 28 = .ok (.astore 8, 2) := by decide +kernel
theorem dL_isSwept_30 : decode cL_isSwept 30 = .ok (.iconst 0, 1) := by decide +kernel
theorem dL_isSwept_31 : decode cL_isSwept 31 = .ok (.istore 9, 2) := by decide +kernel
theorem dL_isSwept_33 : decode cL_isSwept 33 = .ok (.iload 9, 2) := by decide +kernel
theorem dL_isSwept_35 : decode cL_isSwept 35 = .ok (.bipush 10, 2) := by decide +kernel
theorem dL_isSwept_37 : decode cL_isSwept 37 = .ok (.if_icmp .ge 18, 3) := by decide +kernel
theorem dL_isSwept_40 : decode cL_isSwept 40 = .ok (.aload 4, 2) := by decide +kernel
theorem dL_isSwept_42 : decode cL_isSwept 42 = .ok (.iload 9, 2) := by decide +kernel
theorem dL_isSwept_44 : decode cL_isSwept 44 = .ok (.aload_n 2, 1) := by decide +kernel
theorem dL_isSwept_45 : decode cL_isSwept 45 = .ok (.iload 9, 2) := by decide +kernel
theorem dL_isSwept_47 : decode cL_isSwept 47 = .ok (.iaload, 1) := by decide +kernel
theorem dL_isSwept_48 : decode cL_isSwept 48 = .ok (.iastore, 1) := by decide +kernel
theorem dL_isSwept_49 : decode cL_isSwept 49 = .ok (.iinc 9 1, 3) := by decide +kernel
theorem dL_isSwept_52 : decode cL_isSwept 52 = .ok (.goto (-19), 3) := by decide +kernel
theorem dL_isSwept_55 : decode cL_isSwept 55 = .ok (.iconst 0, 1) := by decide +kernel
theorem dL_isSwept_56 : decode cL_isSwept 56 = .ok (.istore 9, 2) := by decide +kernel
theorem dL_isSwept_58 : decode cL_isSwept 58 = .ok (.iload 9, 2) := by decide +kernel
theorem dL_isSwept_60 : decode cL_isSwept 60 = .ok (.bipush 32, 2) := by decide +kernel
theorem dL_isSwept_62 : decode cL_isSwept 62 = .ok (.if_icmp .ge 18, 3) := by decide +kernel
theorem dL_isSwept_65 : decode cL_isSwept 65 = .ok (.aload 5, 2) := by decide +kernel
theorem dL_isSwept_67 : decode cL_isSwept 67 = .ok (.iload 9, 2) := by decide +kernel
theorem dL_isSwept_69 : decode cL_isSwept 69 = .ok (.aload_n 3, 1) := by decide +kernel
theorem dL_isSwept_70 : decode cL_isSwept 70 = .ok (.iload 9, 2) := by decide +kernel
theorem dL_isSwept_72 : decode cL_isSwept 72 = .ok (.iaload, 1) := by decide +kernel
theorem dL_isSwept_73 : decode cL_isSwept 73 = .ok (.iastore, 1) := by decide +kernel
theorem dL_isSwept_74 : decode cL_isSwept 74 = .ok (.iinc 9 1, 3) := by decide +kernel
theorem dL_isSwept_77 : decode cL_isSwept 77 = .ok (.goto (-19), 3) := by decide +kernel
theorem dL_isSwept_80 : decode cL_isSwept 80 = .ok (.aload_n 3, 1) := by decide +kernel
theorem dL_isSwept_81 : decode cL_isSwept 81 = .ok (.iload_n 1, 1) := by decide +kernel
theorem dL_isSwept_82 : decode cL_isSwept 82 = .ok (.invokestatic 95, 3) := by decide +kernel
theorem dL_isSwept_85 : decode cL_isSwept 85 = .ok (.ifCond .le 36, 3) := by decide +kernel
theorem dL_isSwept_88 : decode cL_isSwept 88 = .ok (.aload_n 0, 1) := by decide +kernel
theorem dL_isSwept_89 : decode cL_isSwept 89 = .ok (.iload_n 1, 1) := by decide +kernel
theorem dL_isSwept_90 : decode cL_isSwept 90 = .ok (.invokevirtual 124, 3) := by decide +kernel
theorem dL_isSwept_93 : decode cL_isSwept 93 = .ok (.iconst (-1), 1) := by decide +kernel
theorem dL_isSwept_94 : decode cL_isSwept 94 = .ok (.if_icmp .ne 25, 3) := by decide +kernel
theorem dL_isSwept_97 : decode cL_isSwept 97 = .ok (.aload_n 0, 1) := by decide +kernel
theorem dL_isSwept_98 : decode cL_isSwept 98 = .ok (.iload_n 1, 1) := by decide +kernel
theorem dL_isSwept_99 : decode cL_isSwept 99 = .ok (.iconst 0, 1) := by decide +kernel
theorem dL_isSwept_100 : decode cL_isSwept 100 = .ok (.invokevirtual 127, 3) := by decide +kernel
theorem dL_isSwept_103 : decode cL_isSwept 103 = .ok (.ifCond .ne 16, 3) := by decide +kernel
theorem dL_isSwept_106 : decode cL_isSwept 106 = .ok (.aload_n 0, 1) := by decide +kernel
theorem dL_isSwept_107 : decode cL_isSwept 107 = .ok (.iload_n 1, 1) := by decide +kernel
theorem dL_isSwept_108 : decode cL_isSwept 108 = .ok (.iconst 1, 1) := by decide +kernel
theorem dL_isSwept_109 : decode cL_isSwept 109 = .ok (.invokevirtual 127, 3) := by decide +kernel
theorem dL_isSwept_112 : decode cL_isSwept 112 = .ok (.ifCond .ne 7, 3) := by decide +kernel
theorem dL_isSwept_115 : decode cL_isSwept 115 = .ok (.iconst 1, 1) := by decide +kernel
theorem dL_isSwept_116 : decode cL_isSwept 116 = .ok (.goto 4, 3) := by decide +kernel
theorem dL_isSwept_119 : decode cL_isSwept 119 = .ok (.iconst 0, 1) := by decide +kernel
theorem dL_isSwept_120 : decode cL_isSwept 120 = .ok (.ireturn, 1) := by decide +kernel
theorem dL_isSwept_121 : decode cL_isSwept 121 = .ok (.aload 4, 2) := by decide +kernel
theorem dL_isSwept_123 : decode cL_isSwept 123 = .ok (.aload 5, 2) := by decide +kernel
theorem dL_isSwept_125 : decode cL_isSwept 125 = .ok (.aload 6, 2) := by decide +kernel
theorem dL_isSwept_127 : decode cL_isSwept 127 = .ok (.aload 7, 2) := by decide +kernel
theorem dL_isSwept_129 : decode cL_isSwept 129 = .ok (.aload 8, 2) := by decide +kernel
theorem dL_isSwept_131 : decode cL_isSwept 131 = .ok (.iload_n 1, 1) := by decide +kernel
theorem dL_isSwept_132 : decode cL_isSwept 132 = .ok (.invokestatic 101, 3) := by decide +kernel
theorem dL_isSwept_135 : decode cL_isSwept 135 = .ok (.iconst 0, 1) := by decide +kernel
theorem dL_isSwept_136 : decode cL_isSwept 136 = .ok (.istore 9, 2) := by decide +kernel
theorem dL_isSwept_138 : decode cL_isSwept 138 = .ok (.iload 9, 2) := by decide +kernel
theorem dL_isSwept_140 : decode cL_isSwept 140 = .ok (.aload 4, 2) := by decide +kernel
theorem dL_isSwept_142 : decode cL_isSwept 142 = .ok (.iconst 0, 1) := by decide +kernel
theorem dL_isSwept_143 : decode cL_isSwept 143 = .ok (.iaload, 1) := by decide +kernel
theorem dL_isSwept_144 : decode cL_isSwept 144 = .ok (.if_icmp .ge 52, 3) := by decide +kernel
theorem dL_isSwept_147 : decode cL_isSwept 147 = .ok (.aload 4, 2) := by decide +kernel
theorem dL_isSwept_149 : decode cL_isSwept 149 = .ok (.aload 5, 2) := by decide +kernel
theorem dL_isSwept_151 : decode cL_isSwept 151 = .ok (.aload 6, 2) := by decide +kernel
theorem dL_isSwept_153 : decode cL_isSwept 153 = .ok (.aload 7, 2) := by decide +kernel
theorem dL_isSwept_155 : decode cL_isSwept 155 = .ok (.iload 9, 2) := by decide +kernel
theorem dL_isSwept_157 : decode cL_isSwept 157 = .ok (.iload 9, 2) := by decide +kernel
theorem dL_isSwept_159 : decode cL_isSwept 159 = .ok (.aload 4, 2) := by decide +kernel
theorem dL_isSwept_161 : decode cL_isSwept 161 = .ok (.iconst 1, 1) := by decide +kernel
theorem dL_isSwept_162 : decode cL_isSwept 162 = .ok (.iaload, 1) := by decide +kernel
theorem dL_isSwept_163 : decode cL_isSwept 163 = .ok (.if_icmp .ge 7, 3) := by decide +kernel
theorem dL_isSwept_166 : decode cL_isSwept 166 = .ok (.iconst 1, 1) := by decide +kernel
theorem dL_isSwept_167 : decode cL_isSwept 167 = .ok (.goto 4, 3) := by decide +kernel
theorem dL_isSwept_170 : decode cL_isSwept 170 = .ok (.iconst 0, 1) := by decide +kernel
theorem dL_isSwept_171 : decode cL_isSwept 171 = .ok (.invokestatic 116, 3) := by decide +kernel
theorem dL_isSwept_174 : decode cL_isSwept 174 = .ok (.iload 9, 2) := by decide +kernel
theorem dL_isSwept_176 : decode cL_isSwept 176 = .ok (.iload 9, 2) := by decide +kernel
theorem dL_isSwept_178 : decode cL_isSwept 178 = .ok (.aload 4, 2) := by decide +kernel
theorem dL_isSwept_180 : decode cL_isSwept 180 = .ok (.iconst 1, 1) := by decide +kernel
theorem dL_isSwept_181 : decode cL_isSwept 181 = .ok (.iaload, 1) := by decide +kernel
theorem dL_isSwept_182 : decode cL_isSwept 182 = .ok (.if_icmp .ge 7, 3) := by decide +kernel
theorem dL_isSwept_185 : decode cL_isSwept 185 = .ok (.iconst 2, 1) := by decide +kernel
theorem dL_isSwept_186 : decode cL_isSwept 186 = .ok (.goto 4, 3) := by decide +kernel
theorem dL_isSwept_189 : decode cL_isSwept 189 = .ok (.iconst 1, 1) := by decide +kernel
theorem dL_isSwept_190 : decode cL_isSwept 190 = .ok (.iadd, 1) := by decide +kernel
theorem dL_isSwept_191 : decode cL_isSwept 191 = .ok (.istore 9, 2) := by decide +kernel
theorem dL_isSwept_193 : decode cL_isSwept 193 = .ok (.goto (-55), 3) := by decide +kernel
theorem dL_isSwept_196 : decode cL_isSwept 196 = .ok (.aload_n 0, 1) := by decide +kernel
theorem dL_isSwept_197 : decode cL_isSwept 197 = .ok (.iload_n 1, 1) := by decide +kernel
theorem dL_isSwept_198 : decode cL_isSwept 198 = .ok (.invokevirtual 124, 3) := by decide +kernel
theorem dL_isSwept_201 : decode cL_isSwept 201 = .ok (.aload 4, 2) := by decide +kernel
theorem dL_isSwept_203 : decode cL_isSwept 203 = .ok (.iconst 2, 1) := by decide +kernel
theorem dL_isSwept_204 : decode cL_isSwept 204 = .ok (.iaload, 1) := by decide +kernel
theorem dL_isSwept_205 : decode cL_isSwept 205 = .ok (.aload_n 2, 1) := by decide +kernel
theorem dL_isSwept_206 : decode cL_isSwept 206 = .ok (.iconst 2, 1) := by decide +kernel
theorem dL_isSwept_207 : decode cL_isSwept 207 = .ok (.iaload, 1) := by decide +kernel
theorem dL_isSwept_208 : decode cL_isSwept 208 = .ok (.isub, 1) := by decide +kernel
theorem dL_isSwept_209 : decode cL_isSwept 209 = .ok (.if_icmp .ne 33, 3) := by decide +kernel
theorem dL_isSwept_212 : decode cL_isSwept 212 = .ok (.aload_n 0, 1) := by decide +kernel
theorem dL_isSwept_213 : decode cL_isSwept 213 = .ok (.iload_n 1, 1) := by decide +kernel
theorem dL_isSwept_214 : decode cL_isSwept 214 = .ok (.iconst 0, 1) := by decide +kernel
theorem dL_isSwept_215 : decode cL_isSwept 215 = .ok (.invokevirtual 127, 3) := by decide +kernel
theorem dL_isSwept_218 : decode cL_isSwept 218 = .ok (.aload 4, 2) := by decide +kernel
theorem dL_isSwept_220 : decode cL_isSwept 220 = .ok (.iconst 0, 1) := by decide +kernel
theorem dL_isSwept_221 : decode cL_isSwept 221 = .ok (.iaload, 1) := by decide +kernel
theorem dL_isSwept_222 : decode cL_isSwept 222 = .ok (.if_icmp .ne 20, 3) := by decide +kernel
theorem dL_isSwept_225 : decode cL_isSwept 225 = .ok (.aload_n 0, 1) := by decide +kernel
theorem dL_isSwept_226 : decode cL_isSwept 226 = .ok (.iload_n 1, 1) := by decide +kernel
theorem dL_isSwept_227 : decode cL_isSwept 227 = .ok (.iconst 1, 1) := by decide +kernel
theorem dL_isSwept_228 : decode cL_isSwept 228 = .ok (.invokevirtual 127, 3) := by decide +kernel
theorem dL_isSwept_231 : decode cL_isSwept 231 = .ok (.aload 4, 2) := by decide +kernel
theorem dL_isSwept_233 : decode cL_isSwept 233 = .ok (.iconst 1, 1) := by decide +kernel
theorem dL_isSwept_234 : decode cL_isSwept 234 = .ok (.iaload, 1) := by decide +kernel
theorem dL_isSwept_235 : decode cL_isSwept 235 = .ok (.if_icmp .ne 7, 3) := by decide +kernel
theorem dL_isSwept_238 : decode cL_isSwept 238 = .ok (.iconst 1, 1) := by decide +kernel
theorem dL_isSwept_239 : decode cL_isSwept 239 = .ok (.goto 4, 3) := by decide +kernel
theorem dL_isSwept_242 : decode cL_isSwept 242 = .ok (.iconst 0, 1) := by decide +kernel
theorem dL_isSwept_243 : decode cL_isSwept 243 = .ok (.ireturn, 1) := by decide +kernel
theorem dL_isChange_0 : decode cL_isChange 0 = .ok (.iconst 4, 1) := by decide +kernel
theorem dL_isChange_1 : decode cL_isChange 1 = .ok (.newarray .int, 2) := by decide +kernel
theorem dL_isChange_3 : decode cL_isChange 3 = .ok (.astore_n 2, 1) := by decide +kernel
theorem dL_isChange_4 : decode cL_isChange 4 = .ok (.aload_n 1, 1) := by decide +kernel
theorem dL_isChange_5 : decode cL_isChange 5 = .ok (.iconst 0, 1) := by decide +kernel
theorem dL_isChange_6 : decode cL_isChange 6 = .ok (.invokestatic 60, 3) := by decide +kernel
theorem dL_isChange_9 : decode cL_isChange 9 = .ok (.aload_n 1, 1) := by decide +kernel
theorem dL_isChange_10 : decode cL_isChange 10 = .ok (.iconst 1, 1) := by decide +kernel
theorem dL_isChange_11 : decode cL_isChange 11 = .ok (.invokestatic 60, 3) := by decide +kernel
theorem dL_isChange_14 : decode cL_isChange 14 = .ok (.if_icmp .ge 11, 3) := by decide +kernel
theorem dL_isChange_17 : decode cL_isChange 17 = .ok (.aload_n 1, 1) := by decide +kernel
theorem dL_isChange_18 : decode cL_isChange 18 = .ok (.iconst 0, 1) := by decide +kernel
theorem dL_isChange_19 : decode cL_isChange 19 = .ok (.invokestatic 60, 3) := by decide +kernel
theorem dL_isChange_22 : decode cL_isChange 22 = .ok (.goto 8, 3) := by decide +kernel
theorem dL_isChange_25 : decode cL_isChange 25 = .ok (.aload_n 1, 1) := by decide +kernel
theorem dL_isChange_26 : decode cL_isChange 26 = .ok (.iconst 1, 1) := by decide +kernel
theorem dL_isChange_27 : decode cL_isChange 27 = .ok (.invokestatic 60, 3) := by decide +kernel
theorem dL_isChange_30 : decode cL_isChange 30 = .ok (.istore_n 3, 1) := by decide +kernel
theorem dL_isChange_31 : decode cL_isChange 31 = .ok (.iconst (-1), 1) := by decide +kernel
theorem dL_isChange_32 : decode cL_isChange 32 = .ok (.istore 4, 2) := by decide +kernel
theorem dL_isChange_34 : decode cL_isChange 34 = .ok (.iconst 1, 1) := by decide +kernel
theorem dL_isChange_35 : decode cL_isChange 35 = .ok (.istore 5, 2) := by decide +kernel
theorem dL_isChange_37 : decode cL_isChange 37 = .ok (.iload 5, 2) := by decide +kernel
theorem dL_isChange_39 : decode cL_isChange 39 = .ok (.bipush 12, 2) := by decide +kernel
theorem dL_isChange_41 : decode cL_isChange 41 = .ok (.if_icmp .ge 157, 3) := by decide +kernel
theorem dL_isChange_44 : decode cL_isChange 44 = .ok (.iload 5, 2) := by decide +kernel
theorem dL_isChange_46 : decode cL_isChange 46 = .ok (.iconst 4, 1) := by decide +kernel
theorem dL_isChange_47 : decode cL_isChange 47 = .ok (.idiv, 1) := by decide +kernel
theorem dL_isChange_48 : decode cL_isChange 48 = .ok (.istore 6, 2) := by decide +kernel
theorem dL_isChange_50 : decode cL_isChange 50 = .ok (.iload 5, 2) := by decide +kernel
theorem dL_isChange_52 : decode cL_isChange 52 = .ok (.iconst 4, 1) := by decide +kernel
theorem dL_isChange_53 : decode cL_isChange 53 = .ok (.irem, 1) := by decide +kernel
theorem dL_isChange_54 : decode cL_isChange 54 = .ok (.istore 7, 2) := by decide +kernel
theorem dL_isChange_56 : decode cL_isChange 56 = .ok (.iload 6, 2) := by decide +kernel
theorem dL_isChange_58 : decode cL_isChange 58 = .ok (.iload 7, 2) := by decide +kernel
theorem dL_isChange_60 : decode cL_isChange 60 = .ok (.if_icmp .lt 6, 3) := by decide +kernel
theorem dL_isChange_63 : decode cL_isChange 63 = .ok (.goto 129, 3) := by decide +kernel
theorem dL_isChange_66 : decode cL_isChange 66 = .ok (.iconst 0, 1) := by decide +kernel
theorem dL_isChange_67 : decode cL_isChange 67 = .ok (.istore 8, 2) := by decide +kernel
theorem dL_isChange_69 : decode cL_isChange 69 = .ok (.iload 8, 2) := by decide +kernel
theorem dL_isChange_71 : decode cL_isChange 71 = .ok (.iconst 4, 1) := by decide +kernel
theorem dL_isChange_72 : decode cL_isChange 72 = .ok (.if_icmp .ge 36, 3) := by decide +kernel
theorem dL_isChange_75 : decode cL_isChange 75 = .ok (.aload_n 2, 1) := by decide +kernel
theorem dL_isChange_76 : decode cL_isChange 76 = .ok (.iload 8, 2) := by decide +kernel
theorem dL_isChange_78 : decode cL_isChange 78 = .ok (.aload_n 1, 1) := by decide +kernel
theorem dL_isChange_79 : decode cL_isChange 79 = .ok (.bipush 8, 2) := by decide +kernel
theorem dL_isChange_81 : decode cL_isChange 81 = .ok (.iload 8, 2) := by decide +kernel
theorem dL_isChange_83 : decode cL_isChange 83 = .ok (.imul, 1) := by decide +kernel
theorem dL_isChange_84 : decode cL_isChange 84 = .ok (.iconst 3, 1) := by decide +kernel
theorem dL_isChange_85 : decode cL_isChange 85 = .ok (.iadd, 1) := by decide +kernel
theorem dL_isChange_86 : decode cL_isChange 86 = .ok (.iaload, 1) := by decide +kernel
theorem dL_isChange_87 : decode cL_isChange 87 = .ok (.ifCond .ne 13, 3) := by decide +kernel
theorem dL_isChange_90 : decode cL_isChange 90 = .ok (.aload_n 1, 1) := by decide +kernel
theorem dL_isChange_91 : decode cL_isChange 91 = .ok (.bipush 8, 2) := by decide +kernel
theorem dL_isChange_93 : decode cL_isChange 93 = .ok (.iload 8, 2) := by decide +kernel
theorem dL_isChange_95 : decode cL_isChange 95 = .ok (.imul, 1) := by decide +kernel
theorem dL_isChange_96 : decode cL_isChange 96 = .ok (.iaload, 1) := by decide +kernel
theorem dL_isChange_97 : decode cL_isChange 97 = .ok (.goto 4, 3) := by decide +kernel
theorem dL_isChange_100 : decode cL_isChange 100 = .ok (.iconst 0, 1) := by decide +kernel
theorem dL_isChange_101 : decode cL_isChange 101 = .ok (.iastore, 1) := by decide +kernel
theorem dL_isChange_102 : decode cL_isChange 102 = .ok (.iinc 8 1, 3) := by decide +kernel
theorem dL_isChange_105 : decode cL_isChange 105 = .ok (.goto (-36), 3) := by decide +kernel
theorem dL_isChange_108 : decode cL_isChange 108 = .ok (.aload_n 2, 1) := by decide +kernel
theorem dL_isChange_109 : decode cL_isChange 109 = .ok (.iload 6, 2) := by decide +kernel
theorem dL_isChange_111 : decode cL_isChange 111 = .ok (.iaload, 1) := by decide +kernel
theorem dL_isChange_112 : decode cL_isChange 112 = .ok (.istore 8, 2) := by decide +kernel
theorem dL_isChange_114 : decode cL_isChange 114 = .ok (.aload_n 2, 1) := by decide +kernel
theorem dL_isChange_115 : decode cL_isChange 115 = .ok (.iload 6, 2) := by decide +kernel
theorem dL_isChange_117 : decode cL_isChange 117 = .ok (.aload_n 2, 1) := by decide +kernel
theorem dL_isChange_118 : decode cL_isChange 118 = .ok (.iload 7, 2) := by decide +kernel
theorem dL_isChange_120 : decode cL_isChange 120 = .ok (.iaload, 1) := by decide +kernel
theorem dL_isChange_121 : decode cL_isChange 121 = .ok (.iastore, 1) := by decide +kernel
theorem dL_isChange_122 : decode cL_isChange 122 = .ok (.aload_n 2, 1) := by decide +kernel
theorem dL_isChange_123 : decode cL_isChange 123 = .ok (.iload 7, 2) := by decide +kernel
theorem dL_isChange_125 : decode cL_isChange 125 = .ok (.iload 8, 2) := by decide +kernel
theorem dL_isChange_127 : decode cL_isChange 127 = .ok (.iastore, 1) := by decide +kernel
theorem dL_isChange_128 : decode cL_isChange 128 = .ok (.aload_n 2, 1) := by decide +kernel
theorem dL_isChange_129 : decode cL_isChange 129 = .ok (.iconst 0, 1) := by decide +kernel
theorem dL_isChange_130 : decode cL_isChange 130 = .ok (.iaload, 1) := by decide +kernel
theorem dL_isChange_131 : decode cL_isChange 131 = .ok (.aload_n 2, 1) := by decide +kernel
theorem dL_isChange_132 : decode cL_isChange 132 = .ok (.iconst 1, 1) := by decide +kernel
theorem dL_isChange_133 : decode cL_isChange 133 = .ok (.iaload, 1) := by decide +kernel
theorem dL_isChange_134 : decode cL_isChange 134 = .ok (.iadd, 1) := by decide +kernel
theorem dL_isChange_135 : decode cL_isChange 135 = .ok (.aload_n 2, 1) := by decide +kernel
theorem dL_isChange_136 : decode cL_isChange 136 = .ok (.iconst 2, 1) := by decide +kernel
theorem dL_isChange_137 : decode cL_isChange 137 = .ok (.iaload, 1) := by decide +kernel
theorem dL_isChange_138 : decode cL_isChange 138 = .ok (.aload_n 2, 1) := by decide +kernel
theorem dL_isChange_139 : decode cL_isChange 139 = .ok (.iconst 3, 1) := by decide +kernel
theorem dL_isChange_140 : decode cL_isChange 140 = .ok (.iaload, 1) := by decide +kernel
theorem dL_isChange_141 : decode cL_isChange 141 = .ok (.iadd, 1) := by decide +kernel
theorem dL_isChange_142 : decode cL_isChange 142 = .ok (.if_icmp .ge 13, 3) := by decide +kernel
theorem dL_isChange_145 : decode cL_isChange 145 = .ok (.aload_n 2, 1) := by decide +kernel
theorem dL_isChange_146 : decode cL_isChange 146 = .ok (.iconst 0, 1) := by decide +kernel
theorem dL_isChange_147 : decode cL_isChange 147 = .ok (.iaload, 1) := by decide +kernel
theorem dL_isChange_148 : decode cL_isChange 148 = .ok (.aload_n 2, 1) := by decide +kernel
theorem dL_isChange_149 : decode cL_isChange 149 = .ok (.iconst 1, 1) := by decide +kernel
theorem dL_isChange_150 : decode cL_isChange 150 = .ok (.iaload, 1) := by decide +kernel
theorem dL_isChange_151 : decode cL_isChange 151 = .ok (.iadd, 1) := by decide +kernel
theorem dL_isChange_152 : decode cL_isChange 152 = .ok (.goto 10, 3) := by decide +kernel
theorem dL_isChange_155 : decode cL_isChange 155 = .ok (.aload_n 2, 1) := by decide +kernel
theorem dL_isChange_156 : decode cL_isChange 156 = .ok (.iconst 2, 1) := by decide +kernel
theorem dL_isChange_157 : decode cL_isChange 157 = .ok (.iaload, 1) := by decide +kernel
theorem dL_isChange_158 : decode cL_isChange 158 = .ok (.aload_n 2, 1) := by decide +kernel
theorem dL_isChange_159 : decode cL_isChange 159 = .ok (.iconst 3, 1) := by decide +kernel
theorem dL_isChange_160 : decode cL_isChange 160 = .ok (.iaload, 1) := by decide +kernel
theorem dL_isChange_161 : decode cL_isChange 161 = .ok (.iadd, 1) := by decide +kernel
theorem dL_isChange_162 : decode cL_isChange 162 = .ok (.istore 9, 2) := by decide +kernel
theorem dL_isChange_164 : decode cL_isChange 164 = .ok (.iload 9, 2) := by decide +kernel
theorem dL_isChange_166 : decode cL_isChange 166 = .ok (.iload_n 3, 1) := by decide +kernel
theorem dL_isChange_167 : decode cL_isChange 167 = .ok (.if_icmp .le 8, 3) := by decide +kernel
theorem dL_isChange_170 : decode cL_isChange 170 = .ok (.iload 5, 2) := by decide +kernel
theorem dL_isChange_172 : decode cL_isChange 172 = .ok (.goto 5, 3) := by decide +kernel
theorem dL_isChange_175 : decode cL_isChange 175 = .ok (.iload 4, 2) := by decide +kernel
theorem dL_isChange_177 : decode cL_isChange 177 = .ok (.istore 4, 2) := by decide +kernel
theorem dL_isChange_179 : decode cL_isChange 179 = .ok (.iload 9, 2) := by decide +kernel
theorem dL_isChange_181 : decode cL_isChange 181 = .ok (.iload_n 3, 1) := by decide +kernel
theorem dL_isChange_182 : decode cL_isChange 182 = .ok (.if_icmp .le 8, 3) := by decide +kernel
theorem dL_isChange_185 : decode cL_isChange 185 = .ok (.iload 9, 2) := by decide +kernel
theorem dL_isChange_187 : decode cL_isChange 187 = .ok (.goto 4, 3) := by decide +kernel
theorem dL_isChange_190 : decode cL_isChange 190 = .ok (.iload_n 3, 1) := by decide +kernel
theorem dL_isChange_191 : decode cL_isChange 191 = .ok (.istore_n 3, 1) := by decide +kernel
theorem dL_isChange_192 : decode cL_isChange 192 = .ok (.iinc 5 1, 3) := by decide +kernel
theorem dL_isChange_195 : decode cL_isChange 195 = .ok (.goto (-158), 3) := by decide +kernel
theorem dL_isChange_198 : decode cL_isChange 198 = .ok (.aload_n 0, 1) := by decide +kernel
theorem dL_isChange_199 : decode cL_isChange 199 = .ok (.invokevirtual 130, 3) := by decide +kernel
theorem dL_isChange_202 : decode cL_isChange 202 = .ok (.iload 4, 2) := by decide +kernel
theorem dL_isChange_204 : decode cL_isChange 204 = .ok (.if_icmp .ne 7, 3) := by decide +kernel
theorem dL_isChange_207 : decode cL_isChange 207 = .ok (.iconst 1, 1) := by decide +kernel
theorem dL_isChange_208 : decode cL_isChange 208 = .ok (.goto 4, 3) := by decide +kernel
theorem dL_isChange_211 : decode cL_isChange 211 = .ok (.iconst 0, 1) := by decide +kernel
theorem dL_isChange_212 : decode cL_isChange 212 = .ok (.ireturn, 1) := by decide +kernel
theorem dL_areBlocks_0 : decode cL_areBlocks 0 = .ok (.iconst 0, 1) := by decide +kernel
theorem dL_areBlocks_1 : decode cL_areBlocks 1 = .ok (.istore 6, 2) := by decide +kernel
theorem dL_areBlocks_3 : decode cL_areBlocks 3 = .ok (.iconst 0, 1) := by decide +kernel
theorem dL_areBlocks_4 : decode cL_areBlocks 4 = .ok (.istore 7, 2) := by decide +kernel
theorem dL_areBlocks_6 : decode cL_areBlocks 6 = .ok (.iconst (-1), 1) := by decide +kernel
theorem dL_areBlocks_7 : decode cL_areBlocks 7 = .ok (.istore 8, 2) := by decide +kernel
theorem dL_areBlocks_9 : decode cL_areBlocks 9 = .ok (.iconst 0, 1) := by decide +kernel
theorem dL_areBlocks_10 : decode cL_areBlocks 10 = .ok (.istore 9, 2) := by decide +kernel
theorem dL_areBlocks_12 : decode cL_areBlocks 12 = .ok (.iload 9, 2) := by decide +kernel
theorem dL_areBlocks_14 : decode cL_areBlocks 14 = .ok (.aload_n 1, 1) := by decide +kernel
theorem dL_areBlocks_15 : decode cL_areBlocks 15 = .ok (.iconst 0, 1) := by decide +kernel
theorem dL_areBlocks_16 : decode cL_areBlocks 16 = .ok (.iaload, 1) := by decide +kernel
theorem dL_areBlocks_17 : decode cL_areBlocks 17 = .ok (.if_icmp .ge 258, 3) := by decide +kernel
theorem dL_areBlocks_20 : decode cL_areBlocks 20 = .ok (.aload_n 2, 1) := by decide +kernel
theorem dL_areBlocks_21 : decode cL_areBlocks 21 = .ok (.aload_n 3, 1) := by decide +kernel
theorem dL_areBlocks_22 : decode cL_areBlocks 22 = .ok (.aload 4, 2) := by decide +kernel
theorem dL_areBlocks_24 : decode cL_areBlocks 24 = .ok (.iload 9, 2) := by decide +kernel
theorem dL_areBlocks_26 : decode cL_areBlocks 26 = .ok (.invokestatic 110, 3) := by decide +kernel
theorem dL_areBlocks_29 : decode cL_areBlocks 29 = .ok (.istore 10, 2) := by decide +kernel
theorem dL_areBlocks_31 : decode cL_areBlocks 31 = .ok (.aload_n 3, 1) := by decide +kernel
theorem dL_areBlocks_32 : decode cL_areBlocks 32 = .ok (.iload 9, 2) := by decide +kernel
theorem dL_areBlocks_34 : decode cL_areBlocks 34 = .ok (.iaload, 1) := by decide +kernel
theorem dL_areBlocks_35 : decode cL_areBlocks 35 = .ok (.bipush 12, 2) := by decide +kernel
theorem dL_areBlocks_37 : decode cL_areBlocks 37 = .ok (.idiv, 1) := by decide +kernel
theorem dL_areBlocks_38 : decode cL_areBlocks 38 = .ok (.istore 11, 2) := by decide +kernel
theorem dL_areBlocks_40 : decode cL_areBlocks 40 = .ok (.aload 4, 2) := by decide +kernel
theorem dL_areBlocks_42 : decode cL_areBlocks 42 = .ok (.iload 9, 2) := by decide +kernel
theorem dL_areBlocks_44 : decode cL_areBlocks 44 = .ok (.iaload, 1) := by decide +kernel
theorem dL_areBlocks_45 : decode cL_areBlocks 45 = .ok (.istore 12, 2) := by decide +kernel
theorem dL_areBlocks_47 : decode cL_areBlocks 47 = .ok (.iload 6, 2) := by decide +kernel
theorem dL_areBlocks_49 : decode cL_areBlocks 49 = .ok (.iload 10, 2) := by decide +kernel
theorem dL_areBlocks_51 : decode cL_areBlocks 51 = .ok (.ifCond .eq 7, 3) := by decide +kernel
theorem dL_areBlocks_54 : decode cL_areBlocks 54 = .ok (.iconst 0, 1) := by decide +kernel
theorem dL_areBlocks_55 : decode cL_areBlocks 55 = .ok (.goto 4, 3) := by decide +kernel
theorem dL_areBlocks_58 : decode cL_areBlocks 58 = .ok (.iconst 1, 1) := by decide +kernel
theorem dL_areBlocks_59 : decode cL_areBlocks 59 = .ok (.iadd, 1) := by decide +kernel
theorem dL_areBlocks_60 : decode cL_areBlocks 60 = .ok (.istore 6, 2) := by decide +kernel
theorem dL_areBlocks_62 : decode cL_areBlocks 62 = .ok (.iload 7, 2) := by decide +kernel
theorem dL_areBlocks_64 : decode cL_areBlocks 64 = .ok (.iload 10, 2) := by decide +kernel
theorem dL_areBlocks_66 : decode cL_areBlocks 66 = .ok (.ifCond .eq 18, 3) := by decide +kernel
theorem dL_areBlocks_69 : decode cL_areBlocks 69 = .ok (.aload 5, 2) := by decide +kernel
theorem dL_areBlocks_71 : decode cL_areBlocks 71 = .ok (.aload_n 2, 1) := by decide +kernel
theorem dL_areBlocks_72 : decode cL_areBlocks 72 = .ok (.aload_n 3, 1) := by decide +kernel
theorem dL_areBlocks_73 : decode cL_areBlocks 73 = .ok (.aload 4, 2) := by decide +kernel
theorem dL_areBlocks_75 : decode cL_areBlocks 75 = .ok (.iload 9, 2) := by decide +kernel
theorem dL_areBlocks_77 : decode cL_areBlocks 77 = .ok (.invokestatic 74, 3) := by decide +kernel
theorem dL_areBlocks_80 : decode cL_areBlocks 80 = .ok (.iaload, 1) := by decide +kernel
theorem dL_areBlocks_81 : decode cL_areBlocks 81 = .ok (.goto 4, 3) := by decide +kernel
theorem dL_areBlocks_84 : decode cL_areBlocks 84 = .ok (.iconst 0, 1) := by decide +kernel
theorem dL_areBlocks_85 : decode cL_areBlocks 85 = .ok (.iadd, 1) := by decide +kernel
theorem dL_areBlocks_86 : decode cL_areBlocks 86 = .ok (.istore 7, 2) := by decide +kernel
theorem dL_areBlocks_88 : decode cL_areBlocks 88 = .ok (.aload_n 0, 1) := by decide +kernel
theorem dL_areBlocks_89 : decode cL_areBlocks 89 = .ok (.iload 9, 2) := by decide +kernel
theorem dL_areBlocks_91 : decode cL_areBlocks 91 = .ok (.iconst 0, 1) := by decide +kernel
theorem dL_areBlocks_92 : decode cL_areBlocks 92 = .ok (.invokevirtual 51, 3) := by decide +kernel
theorem dL_areBlocks_95 : decode cL_areBlocks 95 = .ok (.iload 11, 2) := by decide +kernel
theorem dL_areBlocks_97 : decode cL_areBlocks 97 = .ok (.if_icmp .ne 170, 3) := by decide +kernel
theorem dL_areBlocks_100 : decode cL_areBlocks 100 = .ok (.aload_n 0, 1) := by decide +kernel
theorem dL_areBlocks_101 : decode cL_areBlocks 101 = .ok (.iload 9, 2) := by decide +kernel
theorem dL_areBlocks_103 : decode cL_areBlocks 103 = .ok (.iconst 1, 1) := by decide +kernel
theorem dL_areBlocks_104 : decode cL_areBlocks 104 = .ok (.invokevirtual 51, 3) := by decide +kernel
theorem dL_areBlocks_107 : decode cL_areBlocks 107 = .ok (.aload_n 3, 1) := by decide +kernel
theorem dL_areBlocks_108 : decode cL_areBlocks 108 = .ok (.iload 9, 2) := by decide +kernel
theorem dL_areBlocks_110 : decode cL_areBlocks 110 = .ok (.iaload, 1) := by decide +kernel
theorem dL_areBlocks_111 : decode cL_areBlocks 111 = .ok (.bipush 12, 2) := by decide +kernel
theorem dL_areBlocks_113 : decode cL_areBlocks 113 = .ok (.irem, 1) := by decide +kernel
theorem dL_areBlocks_114 : decode cL_areBlocks 114 = .ok (.if_icmp .ne 153, 3) := by decide +kernel
theorem dL_areBlocks_117 : decode cL_areBlocks 117 = .ok (.aload_n 0, 1) := by decide +kernel
theorem dL_areBlocks_118 : decode cL_areBlocks 118 = .ok (.iload 9, 2) := by decide +kernel
theorem dL_areBlocks_120 : decode cL_areBlocks 120 = .ok (.iconst 2, 1) := by decide +kernel
theorem dL_areBlocks_121 : decode cL_areBlocks 121 = .ok (.invokevirtual 51, 3) := by decide +kernel
theorem dL_areBlocks_124 : decode cL_areBlocks 124 = .ok (.aload_n 2, 1) := by decide +kernel
theorem dL_areBlocks_125 : decode cL_areBlocks 125 = .ok (.bipush 8, 2) := by decide +kernel
theorem dL_areBlocks_127 : decode cL_areBlocks 127 = .ok (.iload 11, 2) := by decide +kernel
theorem dL_areBlocks_129 : decode cL_areBlocks 129 = .ok (.imul, 1) := by decide +kernel
theorem dL_areBlocks_130 : decode cL_areBlocks 130 = .ok (.iconst 4, 1) := by decide +kernel
theorem dL_areBlocks_131 : decode cL_areBlocks 131 = .ok (.iadd, 1) := by decide +kernel
theorem dL_areBlocks_132 : decode cL_areBlocks 132 = .ok (.iaload, 1) := by decide +kernel
theorem dL_areBlocks_133 : decode cL_areBlocks 133 = .ok (.iconst 1, 1) := by decide +kernel
theorem dL_areBlocks_134 : decode cL_areBlocks 134 = .ok (.if_icmp .ne 22, 3) := by decide +kernel
theorem dL_areBlocks_137 : decode cL_areBlocks 137 = .ok (.aload_n 2, 1) := by decide +kernel
theorem dL_areBlocks_138 : decode cL_areBlocks 138 = .ok (.aload_n 3, 1) := by decide +kernel
theorem dL_areBlocks_139 : decode cL_areBlocks 139 = .ok (.iload 9, 2) := by decide +kernel
theorem dL_areBlocks_141 : decode cL_areBlocks 141 = .ok (.iaload, 1) := by decide +kernel
theorem dL_areBlocks_142 : decode cL_areBlocks 142 = .ok (.invokestatic 78, 3) := by decide +kernel
theorem dL_areBlocks_145 : decode cL_areBlocks 145 = .ok (.bipush 8, 2) := by decide +kernel
theorem dL_areBlocks_147 : decode cL_areBlocks 147 = .ok (.iload 11, 2) := by decide +kernel
theorem dL_areBlocks_149 : decode cL_areBlocks 149 = .ok (.imul, 1) := by decide +kernel
theorem dL_areBlocks_150 : decode cL_areBlocks 150 = .ok (.isub, 1) := by decide +kernel
theorem dL_areBlocks_151 : decode cL_areBlocks 151 = .ok (.iconst 5, 1) := by decide +kernel
theorem dL_areBlocks_152 : decode cL_areBlocks 152 = .ok (.isub, 1) := by decide +kernel
theorem dL_areBlocks_153 : decode cL_areBlocks 153 = .ok (.goto 5, 3) := by decide +kernel
theorem dL_areBlocks_156 : decode cL_areBlocks 156 = .ok (.iload 8, 2) := by decide +kernel
theorem dL_areBlocks_158 : decode cL_areBlocks 158 = .ok (.if_icmp .ne 109, 3) := by decide +kernel
theorem dL_areBlocks_161 : decode cL_areBlocks 161 = .ok (.aload_n 0, 1) := by decide +kernel
theorem dL_areBlocks_162 : decode cL_areBlocks 162 = .ok (.iload 9, 2) := by decide +kernel
theorem dL_areBlocks_164 : decode cL_areBlocks 164 = .ok (.iconst 3, 1) := by decide +kernel
theorem dL_areBlocks_165 : decode cL_areBlocks 165 = .ok (.invokevirtual 51, 3) := by decide +kernel
theorem dL_areBlocks_168 : decode cL_areBlocks 168 = .ok (.aload_n 1, 1) := by decide +kernel
theorem dL_areBlocks_169 : decode cL_areBlocks 169 = .ok (.bipush 9, 2) := by decide +kernel
theorem dL_areBlocks_171 : decode cL_areBlocks 171 = .ok (.iaload, 1) := by decide +kernel
theorem dL_areBlocks_172 : decode cL_areBlocks 172 = .ok (.iconst 2, 1) := by decide +kernel
theorem dL_areBlocks_173 : decode cL_areBlocks 173 = .ok (.if_icmp .ne 7, 3) := by decide +kernel
theorem dL_areBlocks_176 : decode cL_areBlocks 176 = .ok (.iconst 2, 1) := by decide +kernel
theorem dL_areBlocks_177 : decode cL_areBlocks 177 = .ok (.goto 16, 3) := by decide +kernel
theorem dL_areBlocks_180 : decode cL_areBlocks 180 = .ok (.iload 9, 2) := by decide +kernel
theorem dL_areBlocks_182 : decode cL_areBlocks 182 = .ok (.aload_n 1, 1) := by decide +kernel
theorem dL_areBlocks_183 : decode cL_areBlocks 183 = .ok (.iconst 1, 1) := by decide +kernel
theorem dL_areBlocks_184 : decode cL_areBlocks 184 = .ok (.iaload, 1) := by decide +kernel
theorem dL_areBlocks_185 : decode cL_areBlocks 185 = .ok (.if_icmp .ge 7, 3) := by decide +kernel
theorem dL_areBlocks_188 : decode cL_areBlocks 188 = .ok (.iconst 1, 1) := by decide +kernel
theorem dL_areBlocks_189 : decode cL_areBlocks 189 = .ok (.goto 4, 3) := by decide +kernel
theorem dL_areBlocks_192 : decode cL_areBlocks 192 = .ok (.iconst 0, 1) := by decide +kernel
theorem dL_areBlocks_193 : decode cL_areBlocks 193 = .ok (.if_icmp .ne 74, 3) := by decide +kernel
theorem dL_areBlocks_196 : decode cL_areBlocks 196 = .ok (.aload_n 0, 1) := by decide +kernel
theorem dL_areBlocks_197 : decode cL_areBlocks 197 = .ok (.iload 9, 2) := by decide +kernel
theorem dL_areBlocks_199 : decode cL_areBlocks 199 = .ok (.iconst 4, 1) := by decide +kernel
theorem dL_areBlocks_200 : decode cL_areBlocks 200 = .ok (.invokevirtual 51, 3) := by decide +kernel
theorem dL_areBlocks_203 : decode cL_areBlocks 203 = .ok (.iload 12, 2) := by decide +kernel
theorem dL_areBlocks_205 : decode cL_areBlocks 205 = .ok (.ifCond .ge 8, 3) := by decide +kernel
theorem dL_areBlocks_208 : decode cL_areBlocks 208 = .ok (.iload 8, 2) := by decide +kernel
theorem dL_areBlocks_210 : decode cL_areBlocks 210 = .ok (.goto 8, 3) := by decide +kernel
theorem dL_areBlocks_213 : decode cL_areBlocks 213 = .ok (.iload 12, 2) := by decide +kernel
theorem dL_areBlocks_215 : decode cL_areBlocks 215 = .ok (.bipush 12, 2) := by decide +kernel
theorem dL_areBlocks_217 : decode cL_areBlocks 217 = .ok (.idiv, 1) := by decide +kernel
theorem dL_areBlocks_218 : decode cL_areBlocks 218 = .ok (.if_icmp .ne 49, 3) := by decide +kernel
theorem dL_areBlocks_221 : decode cL_areBlocks 221 = .ok (.aload_n 0, 1) := by decide +kernel
theorem dL_areBlocks_222 : decode cL_areBlocks 222 = .ok (.iload 9, 2) := by decide +kernel
theorem dL_areBlocks_224 : decode cL_areBlocks 224 = .ok (.iconst 5, 1) := by decide +kernel
theorem dL_areBlocks_225 : decode cL_areBlocks 225 = .ok (.invokevirtual 51, 3) := by decide +kernel
theorem dL_areBlocks_228 : decode cL_areBlocks 228 = .ok (.iload 12, 2) := by decide +kernel
theorem dL_areBlocks_230 : decode cL_areBlocks 230 = .ok (.ifCond .ge 8, 3) := by decide +kernel
theorem dL_areBlocks_233 : decode cL_areBlocks 233 = .ok (.iload 8, 2) := by decide +kernel
theorem dL_areBlocks_235 : decode cL_areBlocks 235 = .ok (.goto 8, 3) := by decide +kernel
theorem dL_areBlocks_238 : decode cL_areBlocks 238 = .ok (.iload 12, 2) := by decide +kernel
theorem dL_areBlocks_240 : decode cL_areBlocks 240 = .ok (.bipush 12, 2) := by decide +kernel
theorem dL_areBlocks_242 : decode cL_areBlocks 242 = .ok (.irem, 1) := by decide +kernel
theorem dL_areBlocks_243 : decode cL_areBlocks 243 = .ok (.if_icmp .ne 24, 3) := by decide +kernel
theorem dL_areBlocks_246 : decode cL_areBlocks 246 = .ok (.aload_n 0, 1) := by decide +kernel
theorem dL_areBlocks_247 : decode cL_areBlocks 247 = .ok (.iload 9, 2) := by decide +kernel
theorem dL_areBlocks_249 : decode cL_areBlocks 249 = .ok (.bipush 6, 2) := by decide +kernel
theorem dL_areBlocks_251 : decode cL_areBlocks 251 = .ok (.invokevirtual 51, 3) := by decide +kernel
theorem dL_areBlocks_254 : decode cL_areBlocks 254 = .ok (.iload 10, 2) := by decide +kernel
theorem dL_areBlocks_256 : decode cL_areBlocks 256 = .ok (.ifCond .eq 7, 3) := by decide +kernel
theorem dL_areBlocks_259 : decode cL_areBlocks 259 = .ok (.iconst 1, 1) := by decide +kernel
theorem dL_areBlocks_260 : decode cL_areBlocks 260 = .ok (.goto 4, 3) := by decide +kernel
theorem dL_areBlocks_263 : decode cL_areBlocks 263 = .ok (.iconst 0, 1) := by decide +kernel
theorem dL_areBlocks_264 : decode cL_areBlocks 264 = .ok (.if_icmp .eq 5, 3) := by decide +kernel
theorem dL_areBlocks_267 : decode cL_areBlocks 267 = .ok (.iconst 0, 1) := by decide +kernel
theorem dL_areBlocks_268 : decode cL_areBlocks 268 = .ok (.ireturn, 1) := by decide +kernel
theorem dL_areBlocks_269 : decode cL_areBlocks 269 = .ok (.iinc 9 1, 3) := by decide +kernel
theorem dL_areBlocks_272 : decode cL_areBlocks 272 = .ok (.goto (-260), 3) := by decide +kernel
theorem dL_areBlocks_275 : decode cL_areBlocks 275 = .ok (.iconst 0, 1) := by decide +kernel
theorem dL_areBlocks_276 : decode cL_areBlocks 276 = .ok (.istore 9, 2) := by decide +kernel
theorem dL_areBlocks_278 : decode cL_areBlocks 278 = .ok (.iload 9, 2) := by decide +kernel
theorem dL_areBlocks_280 : decode cL_areBlocks 280 = .ok (.bipush 48, 2) := by decide +kernel
theorem dL_areBlocks_282 : decode cL_areBlocks 282 = .ok (.if_icmp .ge 79, 3) := by decide +kernel
theorem dL_areBlocks_285 : decode cL_areBlocks 285 = .ok (.iload 8, 2) := by decide +kernel
theorem dL_areBlocks_287 : decode cL_areBlocks 287 = .ok (.istore 10, 2) := by decide +kernel
theorem dL_areBlocks_289 : decode cL_areBlocks 289 = .ok (.iconst 0, 1) := by decide +kernel
theorem dL_areBlocks_290 : decode cL_areBlocks 290 = .ok (.istore 11, 2) := by decide +kernel
theorem dL_areBlocks_292 : decode cL_areBlocks 292 = .ok (.iload 11, 2) := by decide +kernel
theorem dL_areBlocks_294 : decode cL_areBlocks 294 = .ok (.aload_n 1, 1) := by decide +kernel
theorem dL_areBlocks_295 : decode cL_areBlocks 295 = .ok (.iconst 0, 1) := by decide +kernel
theorem dL_areBlocks_296 : decode cL_areBlocks 296 = .ok (.iaload, 1) := by decide +kernel
theorem dL_areBlocks_297 : decode cL_areBlocks 297 = .ok (.if_icmp .ge 37, 3) := by decide +kernel
theorem dL_areBlocks_300 : decode cL_areBlocks 300 = .ok (.aload_n 3, 1) := by decide +kernel
theorem dL_areBlocks_301 : decode cL_areBlocks 301 = .ok (.iload 11, 2) := by decide +kernel
theorem dL_areBlocks_303 : decode cL_areBlocks 303 = .ok (.iaload, 1) := by decide +kernel
theorem dL_areBlocks_304 : decode cL_areBlocks 304 = .ok (.iload 9, 2) := by decide +kernel
theorem dL_areBlocks_306 : decode cL_areBlocks 306 = .ok (.if_icmp .eq 13, 3) := by decide +kernel
theorem dL_areBlocks_309 : decode cL_areBlocks 309 = .ok (.aload 4, 2) := by decide +kernel
theorem dL_areBlocks_311 : decode cL_areBlocks 311 = .ok (.iload 11, 2) := by decide +kernel
theorem dL_areBlocks_313 : decode cL_areBlocks 313 = .ok (.iaload, 1) := by decide +kernel
theorem dL_areBlocks_314 : decode cL_areBlocks 314 = .ok (.iload 9, 2) := by decide +kernel
theorem dL_areBlocks_316 : decode cL_areBlocks 316 = .ok (.if_icmp .ne 8, 3) := by decide +kernel
theorem dL_areBlocks_319 : decode cL_areBlocks 319 = .ok (.iload 11, 2) := by decide +kernel
theorem dL_areBlocks_321 : decode cL_areBlocks 321 = .ok (.goto 5, 3) := by decide +kernel
theorem dL_areBlocks_324 : decode cL_areBlocks 324 = .ok (.iload 10, 2) := by decide +kernel
theorem dL_areBlocks_326 : decode cL_areBlocks 326 = .ok (.istore 10, 2) := by decide +kernel
theorem dL_areBlocks_328 : decode cL_areBlocks 328 = .ok (.iinc 11 1, 3) := by decide +kernel
theorem dL_areBlocks_331 : decode cL_areBlocks 331 = .ok (.goto (-39), 3) := by decide +kernel
theorem dL_areBlocks_334 : decode cL_areBlocks 334 = .ok (.aload_n 0, 1) := by decide +kernel
theorem dL_areBlocks_335 : decode cL_areBlocks 335 = .ok (.iload 9, 2) := by decide +kernel
theorem dL_areBlocks_337 : decode cL_areBlocks 337 = .ok (.bipush 12, 2) := by decide +kernel
theorem dL_areBlocks_339 : decode cL_areBlocks 339 = .ok (.idiv, 1) := by decide +kernel
theorem dL_areBlocks_340 : decode cL_areBlocks 340 = .ok (.iload 9, 2) := by decide +kernel
theorem dL_areBlocks_342 : decode cL_areBlocks 342 = .ok (.bipush 12, 2) := by decide +kernel
theorem dL_areBlocks_344 : decode cL_areBlocks 344 = .ok (.irem, 1) := by decide +kernel
theorem dL_areBlocks_345 : decode cL_areBlocks 345 = .ok (.invokevirtual 54, 3) := by decide +kernel
theorem dL_areBlocks_348 : decode cL_areBlocks 348 = .ok (.iload 10, 2) := by decide +kernel
theorem dL_areBlocks_350 : decode cL_areBlocks 350 = .ok (.if_icmp .eq 5, 3) := by decide +kernel
theorem dL_areBlocks_353 : decode cL_areBlocks 353 = .ok (.iconst 0, 1) := by decide +kernel
theorem dL_areBlocks_354 : decode cL_areBlocks 354 = .ok (.ireturn, 1) := by decide +kernel
theorem dL_areBlocks_355 : decode cL_areBlocks 355 = .ok (.iinc 9 1, 3) := by decide +kernel
theorem dL_areBlocks_358 : decode cL_areBlocks 358 = .ok (.goto (-80), 3) := by decide +kernel
theorem dL_areBlocks_361 : decode cL_areBlocks 361 = .ok (.aload_n 0, 1) := by decide +kernel
theorem dL_areBlocks_362 : decode cL_areBlocks 362 = .ok (.bipush 8, 2) := by decide +kernel
theorem dL_areBlocks_364 : decode cL_areBlocks 364 = .ok (.invokevirtual 133, 3) := by decide +kernel
theorem dL_areBlocks_367 : decode cL_areBlocks 367 = .ok (.iload 6, 2) := by decide +kernel
theorem dL_areBlocks_369 : decode cL_areBlocks 369 = .ok (.if_icmp .ne 55, 3) := by decide +kernel
theorem dL_areBlocks_372 : decode cL_areBlocks 372 = .ok (.aload_n 0, 1) := by decide +kernel
theorem dL_areBlocks_373 : decode cL_areBlocks 373 = .ok (.bipush 10, 2) := by decide +kernel
theorem dL_areBlocks_375 : decode cL_areBlocks 375 = .ok (.invokevirtual 133, 3) := by decide +kernel
theorem dL_areBlocks_378 : decode cL_areBlocks 378 = .ok (.iload 7, 2) := by decide +kernel
theorem dL_areBlocks_380 : decode cL_areBlocks 380 = .ok (.if_icmp .ne 44, 3) := by decide +kernel
theorem dL_areBlocks_383 : decode cL_areBlocks 383 = .ok (.aload_n 0, 1) := by decide +kernel
theorem dL_areBlocks_384 : decode cL_areBlocks 384 = .ok (.aload_n 1, 1) := by decide +kernel
theorem dL_areBlocks_385 : decode cL_areBlocks 385 = .ok (.iconst 0, 1) := by decide +kernel
theorem dL_areBlocks_386 : decode cL_areBlocks 386 = .ok (.iaload, 1) := by decide +kernel
theorem dL_areBlocks_387 : decode cL_areBlocks 387 = .ok (.bipush 7, 2) := by decide +kernel
theorem dL_areBlocks_389 : decode cL_areBlocks 389 = .ok (.invokestatic 136, 3) := by decide +kernel
theorem dL_areBlocks_392 : decode cL_areBlocks 392 = .ok (.bipush (-31), 2) := by decide +kernel
theorem dL_areBlocks_394 : decode cL_areBlocks 394 = .ok (.if_icmp .ne 30, 3) := by decide +kernel
theorem dL_areBlocks_397 : decode cL_areBlocks 397 = .ok (.aload_n 0, 1) := by decide +kernel
theorem dL_areBlocks_398 : decode cL_areBlocks 398 = .ok (.iconst 0, 1) := by decide +kernel
theorem dL_areBlocks_399 : decode cL_areBlocks 399 = .ok (.bipush 12, 2) := by decide +kernel
theorem dL_areBlocks_401 : decode cL_areBlocks 401 = .ok (.invokestatic 138, 3) := by decide +kernel
theorem dL_areBlocks_404 : decode cL_areBlocks 404 = .ok (.bipush (-31), 2) := by decide +kernel
theorem dL_areBlocks_406 : decode cL_areBlocks 406 = .ok (.if_icmp .ne 18, 3) := by decide +kernel
theorem dL_areBlocks_409 : decode cL_areBlocks 409 = .ok (.aload_n 0, 1) := by decide +kernel
theorem dL_areBlocks_410 : decode cL_areBlocks 410 = .ok (.iconst 4, 1) := by decide +kernel
theorem dL_areBlocks_411 : decode cL_areBlocks 411 = .ok (.iconst 0, 1) := by decide +kernel
theorem dL_areBlocks_412 : decode cL_areBlocks 412 = .ok (.invokestatic 138, 3) := by decide +kernel
theorem dL_areBlocks_415 : decode cL_areBlocks 415 = .ok (.bipush (-31), 2) := by decide +kernel
theorem dL_areBlocks_417 : decode cL_areBlocks 417 = .ok (.if_icmp .ne 7, 3) := by decide +kernel
theorem dL_areBlocks_420 : decode cL_areBlocks 420 = .ok (.iconst 1, 1) := by decide +kernel
theorem dL_areBlocks_421 : decode cL_areBlocks 421 = .ok (.goto 4, 3) := by decide +kernel
theorem dL_areBlocks_424 : decode cL_areBlocks 424 = .ok (.iconst 0, 1) := by decide +kernel
theorem dL_areBlocks_425 : decode cL_areBlocks 425 = .ok (.ireturn, 1) := by decide +kernel
theorem dL_isSo_0 : decode cL_isSo 0 = .ok (.iconst 0, 1) := by decide +kernel
theorem dL_isSo_1 : decode cL_isSo 1 = .ok (.istore 6, 2) := by decide +kernel
theorem dL_isSo_3 : decode cL_isSo 3 = .ok (.iconst 0, 1) := by decide +kernel
theorem dL_isSo_4 : decode cL_isSo 4 = .ok (.istore 7, 2) := by decide +kernel
theorem dL_isSo_6 : decode cL_isSo 6 = .ok (.iconst 0, 1) := by decide +kernel
theorem dL_isSo_7 : decode cL_isSo 7 = .ok (.istore 8, 2) := by decide +kernel
theorem dL_isSo_9 : decode cL_isSo 9 = .ok (.iload 8, 2) := by decide +kernel
theorem dL_isSo_11 : decode cL_isSo 11 = .ok (.iconst 4, 1) := by decide +kernel
theorem dL_isSo_12 : decode cL_isSo 12 = .ok (.if_icmp .ge 137, 3) := by decide +kernel
theorem dL_isSo_15 : decode cL_isSo 15 = .ok (.aload_n 2, 1) := by decide +kernel
theorem dL_isSo_16 : decode cL_isSo 16 = .ok (.bipush 8, 2) := by decide +kernel
theorem dL_isSo_18 : decode cL_isSo 18 = .ok (.iload 8, 2) := by decide +kernel
theorem dL_isSo_20 : decode cL_isSo 20 = .ok (.imul, 1) := by decide +kernel
theorem dL_isSo_21 : decode cL_isSo 21 = .ok (.iaload, 1) := by decide +kernel
theorem dL_isSo_22 : decode cL_isSo 22 = .ok (.ifCond .le 7, 3) := by decide +kernel
theorem dL_isSo_25 : decode cL_isSo 25 = .ok (.iconst 1, 1) := by decide +kernel
theorem dL_isSo_26 : decode cL_isSo 26 = .ok (.goto 4, 3) := by decide +kernel
theorem dL_isSo_29 : decode cL_isSo 29 = .ok (.iconst 0, 1) := by decide +kernel
theorem dL_isSo_30 : decode cL_isSo 30 = .ok (.istore 9, 2) := by decide +kernel
theorem dL_isSo_32 : decode cL_isSo 32 = .ok (.iload 6, 2) := by decide +kernel
theorem dL_isSo_34 : decode cL_isSo 34 = .ok (.iload 9, 2) := by decide +kernel
theorem dL_isSo_36 : decode cL_isSo 36 = .ok (.ifCond .eq 7, 3) := by decide +kernel
theorem dL_isSo_39 : decode cL_isSo 39 = .ok (.iconst 1, 1) := by decide +kernel
theorem dL_isSo_40 : decode cL_isSo 40 = .ok (.goto 4, 3) := by decide +kernel
theorem dL_isSo_43 : decode cL_isSo 43 = .ok (.iconst 0, 1) := by decide +kernel
theorem dL_isSo_44 : decode cL_isSo 44 = .ok (.iadd, 1) := by decide +kernel
theorem dL_isSo_45 : decode cL_isSo 45 = .ok (.istore 6, 2) := by decide +kernel
theorem dL_isSo_47 : decode cL_isSo 47 = .ok (.iload 7, 2) := by decide +kernel
theorem dL_isSo_49 : decode cL_isSo 49 = .ok (.iload 9, 2) := by decide +kernel
theorem dL_isSo_51 : decode cL_isSo 51 = .ok (.ifCond .eq 20, 3) := by decide +kernel
theorem dL_isSo_54 : decode cL_isSo 54 = .ok (.aload_n 2, 1) := by decide +kernel
theorem dL_isSo_55 : decode cL_isSo 55 = .ok (.bipush 8, 2) := by decide +kernel
theorem dL_isSo_57 : decode cL_isSo 57 = .ok (.iload 8, 2) := by decide +kernel
theorem dL_isSo_59 : decode cL_isSo 59 = .ok (.imul, 1) := by decide +kernel
theorem dL_isSo_60 : decode cL_isSo 60 = .ok (.iconst 3, 1) := by decide +kernel
theorem dL_isSo_61 : decode cL_isSo 61 = .ok (.iadd, 1) := by decide +kernel
theorem dL_isSo_62 : decode cL_isSo 62 = .ok (.iaload, 1) := by decide +kernel
theorem dL_isSo_63 : decode cL_isSo 63 = .ok (.iconst 1, 1) := by decide +kernel
theorem dL_isSo_64 : decode cL_isSo 64 = .ok (.if_icmp .ne 7, 3) := by decide +kernel
theorem dL_isSo_67 : decode cL_isSo 67 = .ok (.iconst 1, 1) := by decide +kernel
theorem dL_isSo_68 : decode cL_isSo 68 = .ok (.goto 4, 3) := by decide +kernel
theorem dL_isSo_71 : decode cL_isSo 71 = .ok (.iconst 0, 1) := by decide +kernel
theorem dL_isSo_72 : decode cL_isSo 72 = .ok (.iadd, 1) := by decide +kernel
theorem dL_isSo_73 : decode cL_isSo 73 = .ok (.istore 7, 2) := by decide +kernel
theorem dL_isSo_75 : decode cL_isSo 75 = .ok (.iconst 0, 1) := by decide +kernel
theorem dL_isSo_76 : decode cL_isSo 76 = .ok (.istore 10, 2) := by decide +kernel
theorem dL_isSo_78 : decode cL_isSo 78 = .ok (.iload 10, 2) := by decide +kernel
theorem dL_isSo_80 : decode cL_isSo 80 = .ok (.bipush 8, 2) := by decide +kernel
theorem dL_isSo_82 : decode cL_isSo 82 = .ok (.if_icmp .ge 61, 3) := by decide +kernel
theorem dL_isSo_85 : decode cL_isSo 85 = .ok (.aload_n 0, 1) := by decide +kernel
theorem dL_isSo_86 : decode cL_isSo 86 = .ok (.iload 8, 2) := by decide +kernel
theorem dL_isSo_88 : decode cL_isSo 88 = .ok (.iload 10, 2) := by decide +kernel
theorem dL_isSo_90 : decode cL_isSo 90 = .ok (.invokevirtual 57, 3) := by decide +kernel
theorem dL_isSo_93 : decode cL_isSo 93 = .ok (.iload 9, 2) := by decide +kernel
theorem dL_isSo_95 : decode cL_isSo 95 = .ok (.ifCond .eq 23, 3) := by decide +kernel
theorem dL_isSo_98 : decode cL_isSo 98 = .ok (.iload 10, 2) := by decide +kernel
theorem dL_isSo_100 : decode cL_isSo 100 = .ok (.bipush 6, 2) := by decide +kernel
theorem dL_isSo_102 : decode cL_isSo 102 = .ok (.if_icmp .ne 20, 3) := by decide +kernel
theorem dL_isSo_105 : decode cL_isSo 105 = .ok (.aload_n 2, 1) := by decide +kernel
theorem dL_isSo_106 : decode cL_isSo 106 = .ok (.bipush 8, 2) := by decide +kernel
theorem dL_isSo_108 : decode cL_isSo 108 = .ok (.iload 8, 2) := by decide +kernel
theorem dL_isSo_110 : decode cL_isSo 110 = .ok (.imul, 1) := by decide +kernel
theorem dL_isSo_111 : decode cL_isSo 111 = .ok (.iconst 1, 1) := by decide +kernel
theorem dL_isSo_112 : decode cL_isSo 112 = .ok (.iadd, 1) := by decide +kernel
theorem dL_isSo_113 : decode cL_isSo 113 = .ok (.iaload, 1) := by decide +kernel
theorem dL_isSo_114 : decode cL_isSo 114 = .ok (.iconst 1, 1) := by decide +kernel
theorem dL_isSo_115 : decode cL_isSo 115 = .ok (.if_icmp .ne 7, 3) := by decide +kernel
theorem dL_isSo_118 : decode cL_isSo 118 = .ok (.iconst (-1), 1) := by decide +kernel
theorem dL_isSo_119 : decode cL_isSo 119 = .ok (.goto 13, 3) := by decide +kernel
theorem dL_isSo_122 : decode cL_isSo 122 = .ok (.aload_n 2, 1) := by decide +kernel
theorem dL_isSo_123 : decode cL_isSo 123 = .ok (.bipush 8, 2) := by decide +kernel
theorem dL_isSo_125 : decode cL_isSo 125 = .ok (.iload 8, 2) := by decide +kernel
theorem dL_isSo_127 : decode cL_isSo 127 = .ok (.imul, 1) := by decide +kernel
theorem dL_isSo_128 : decode cL_isSo 128 = .ok (.iload 10, 2) := by decide +kernel
theorem dL_isSo_130 : decode cL_isSo 130 = .ok (.iadd, 1) := by decide +kernel
theorem dL_isSo_131 : decode cL_isSo 131 = .ok (.iaload, 1) := by decide +kernel
theorem dL_isSo_132 : decode cL_isSo 132 = .ok (.if_icmp .eq 5, 3) := by decide +kernel
theorem dL_isSo_135 : decode cL_isSo 135 = .ok (.iconst 0, 1) := by decide +kernel
theorem dL_isSo_136 : decode cL_isSo 136 = .ok (.ireturn, 1) := by decide +kernel
theorem dL_isSo_137 : decode cL_isSo 137 = .ok (.iinc 10 1, 3) := by decide +kernel
theorem dL_isSo_140 : decode cL_isSo 140 = .ok (.goto (-62), 3) := by decide +kernel
theorem dL_isSo_143 : decode cL_isSo 143 = .ok (.iinc 8 1, 3) := by decide +kernel
theorem dL_isSo_146 : decode cL_isSo 146 = .ok (.goto (-137), 3) := by decide +kernel
theorem dL_isSo_149 : decode cL_isSo 149 = .ok (.aload_n 0, 1) := by decide +kernel
theorem dL_isSo_150 : decode cL_isSo 150 = .ok (.iconst 0, 1) := by decide +kernel
theorem dL_isSo_151 : decode cL_isSo 151 = .ok (.invokevirtual 133, 3) := by decide +kernel
theorem dL_isSo_154 : decode cL_isSo 154 = .ok (.iload 6, 2) := by decide +kernel
theorem dL_isSo_156 : decode cL_isSo 156 = .ok (.if_icmp .ne 137, 3) := by decide +kernel
theorem dL_isSo_159 : decode cL_isSo 159 = .ok (.aload_n 0, 1) := by decide +kernel
theorem dL_isSo_160 : decode cL_isSo 160 = .ok (.iconst 1, 1) := by decide +kernel
theorem dL_isSo_161 : decode cL_isSo 161 = .ok (.invokevirtual 133, 3) := by decide +kernel
theorem dL_isSo_164 : decode cL_isSo 164 = .ok (.iload 7, 2) := by decide +kernel
theorem dL_isSo_166 : decode cL_isSo 166 = .ok (.if_icmp .ne 127, 3) := by decide +kernel
theorem dL_isSo_169 : decode cL_isSo 169 = .ok (.aload_n 0, 1) := by decide +kernel
theorem dL_isSo_170 : decode cL_isSo 170 = .ok (.iconst 2, 1) := by decide +kernel
theorem dL_isSo_171 : decode cL_isSo 171 = .ok (.invokevirtual 133, 3) := by decide +kernel
theorem dL_isSo_174 : decode cL_isSo 174 = .ok (.aload_n 1, 1) := by decide +kernel
theorem dL_isSo_175 : decode cL_isSo 175 = .ok (.iconst 0, 1) := by decide +kernel
theorem dL_isSo_176 : decode cL_isSo 176 = .ok (.iaload, 1) := by decide +kernel
theorem dL_isSo_177 : decode cL_isSo 177 = .ok (.if_icmp .ne 116, 3) := by decide +kernel
theorem dL_isSo_180 : decode cL_isSo 180 = .ok (.aload_n 0, 1) := by decide +kernel
theorem dL_isSo_181 : decode cL_isSo 181 = .ok (.iconst 3, 1) := by decide +kernel
theorem dL_isSo_182 : decode cL_isSo 182 = .ok (.invokevirtual 133, 3) := by decide +kernel
theorem dL_isSo_185 : decode cL_isSo 185 = .ok (.aload_n 1, 1) := by decide +kernel
theorem dL_isSo_186 : decode cL_isSo 186 = .ok (.iconst 1, 1) := by decide +kernel
theorem dL_isSo_187 : decode cL_isSo 187 = .ok (.iaload, 1) := by decide +kernel
theorem dL_isSo_188 : decode cL_isSo 188 = .ok (.if_icmp .ne 105, 3) := by decide +kernel
theorem dL_isSo_191 : decode cL_isSo 191 = .ok (.aload_n 0, 1) := by decide +kernel
theorem dL_isSo_192 : decode cL_isSo 192 = .ok (.iconst 4, 1) := by decide +kernel
theorem dL_isSo_193 : decode cL_isSo 193 = .ok (.invokevirtual 133, 3) := by decide +kernel
theorem dL_isSo_196 : decode cL_isSo 196 = .ok (.aload_n 1, 1) := by decide +kernel
theorem dL_isSo_197 : decode cL_isSo 197 = .ok (.iconst 2, 1) := by decide +kernel
theorem dL_isSo_198 : decode cL_isSo 198 = .ok (.iaload, 1) := by decide +kernel
theorem dL_isSo_199 : decode cL_isSo 199 = .ok (.if_icmp .ne 94, 3) := by decide +kernel
theorem dL_isSo_202 : decode cL_isSo 202 = .ok (.aload_n 0, 1) := by decide +kernel
theorem dL_isSo_203 : decode cL_isSo 203 = .ok (.iconst 5, 1) := by decide +kernel
theorem dL_isSo_204 : decode cL_isSo 204 = .ok (.invokevirtual 133, 3) := by decide +kernel
theorem dL_isSo_207 : decode cL_isSo 207 = .ok (.aload_n 1, 1) := by decide +kernel
theorem dL_isSo_208 : decode cL_isSo 208 = .ok (.iconst 3, 1) := by decide +kernel
theorem dL_isSo_209 : decode cL_isSo 209 = .ok (.iaload, 1) := by decide +kernel
theorem dL_isSo_210 : decode cL_isSo 210 = .ok (.if_icmp .ne 83, 3) := by decide +kernel
theorem dL_isSo_213 : decode cL_isSo 213 = .ok (.aload_n 0, 1) := by decide +kernel
theorem dL_isSo_214 : decode cL_isSo 214 = .ok (.bipush 6, 2) := by decide +kernel
theorem dL_isSo_216 : decode cL_isSo 216 = .ok (.invokevirtual 133, 3) := by decide +kernel
theorem dL_isSo_219 : decode cL_isSo 219 = .ok (.aload_n 1, 1) := by decide +kernel
theorem dL_isSo_220 : decode cL_isSo 220 = .ok (.iconst 4, 1) := by decide +kernel
theorem dL_isSo_221 : decode cL_isSo 221 = .ok (.iaload, 1) := by decide +kernel
theorem dL_isSo_222 : decode cL_isSo 222 = .ok (.if_icmp .ne 71, 3) := by decide +kernel
theorem dL_isSo_225 : decode cL_isSo 225 = .ok (.aload_n 0, 1) := by decide +kernel
theorem dL_isSo_226 : decode cL_isSo 226 = .ok (.bipush 7, 2) := by decide +kernel
theorem dL_isSo_228 : decode cL_isSo 228 = .ok (.invokevirtual 133, 3) := by decide +kernel
theorem dL_isSo_231 : decode cL_isSo 231 = .ok (.aload_n 1, 1) := by decide +kernel
theorem dL_isSo_232 : decode cL_isSo 232 = .ok (.iconst 5, 1) := by decide +kernel
theorem dL_isSo_233 : decode cL_isSo 233 = .ok (.iaload, 1) := by decide +kernel
theorem dL_isSo_234 : decode cL_isSo 234 = .ok (.if_icmp .ne 59, 3) := by decide +kernel
theorem dL_isSo_237 : decode cL_isSo 237 = .ok (.aload_n 0, 1) := by decide +kernel
theorem dL_isSo_238 : decode cL_isSo 238 = .ok (.bipush 9, 2) := by decide +kernel
theorem dL_isSo_240 : decode cL_isSo 240 = .ok (.invokevirtual 133, 3) := by decide +kernel
theorem dL_isSo_243 : decode cL_isSo 243 = .ok (.aload_n 1, 1) := by decide +kernel
theorem dL_isSo_244 : decode cL_isSo 244 = .ok (.bipush 6, 2) := by decide +kernel
theorem dL_isSo_246 : decode cL_isSo 246 = .ok (.iaload, 1) := by decide +kernel
theorem dL_isSo_247 : decode cL_isSo 247 = .ok (.if_icmp .ne 46, 3) := by decide +kernel
theorem dL_isSo_250 : decode cL_isSo 250 = .ok (.aload_n 0, 1) := by decide +kernel
theorem dL_isSo_251 : decode cL_isSo 251 = .ok (.iconst 0, 1) := by decide +kernel
theorem dL_isSo_252 : decode cL_isSo 252 = .ok (.invokevirtual 140, 3) := by decide +kernel
theorem dL_isSo_255 : decode cL_isSo 255 = .ok (.aload_n 1, 1) := by decide +kernel
theorem dL_isSo_256 : decode cL_isSo 256 = .ok (.bipush 7, 2) := by decide +kernel
theorem dL_isSo_258 : decode cL_isSo 258 = .ok (.iaload, 1) := by decide +kernel
theorem dL_isSo_259 : decode cL_isSo 259 = .ok (.if_icmp .ne 34, 3) := by decide +kernel
theorem dL_isSo_262 : decode cL_isSo 262 = .ok (.aload_n 0, 1) := by decide +kernel
theorem dL_isSo_263 : decode cL_isSo 263 = .ok (.iconst 1, 1) := by decide +kernel
theorem dL_isSo_264 : decode cL_isSo 264 = .ok (.invokevirtual 140, 3) := by decide +kernel
theorem dL_isSo_267 : decode cL_isSo 267 = .ok (.aload_n 1, 1) := by decide +kernel
theorem dL_isSo_268 : decode cL_isSo 268 = .ok (.bipush 8, 2) := by decide +kernel
theorem dL_isSo_270 : decode cL_isSo 270 = .ok (.iaload, 1) := by decide +kernel
theorem dL_isSo_271 : decode cL_isSo 271 = .ok (.if_icmp .ne 22, 3) := by decide +kernel
theorem dL_isSo_274 : decode cL_isSo 274 = .ok (.aload_n 0, 1) := by decide +kernel
theorem dL_isSo_275 : decode cL_isSo 275 = .ok (.invokevirtual 143, 3) := by decide +kernel
theorem dL_isSo_278 : decode cL_isSo 278 = .ok (.aload_n 2, 1) := by decide +kernel
theorem dL_isSo_279 : decode cL_isSo 279 = .ok (.aload_n 1, 1) := by decide +kernel
theorem dL_isSo_280 : decode cL_isSo 280 = .ok (.bipush 7, 2) := by decide +kernel
theorem dL_isSo_282 : decode cL_isSo 282 = .ok (.iaload, 1) := by decide +kernel
theorem dL_isSo_283 : decode cL_isSo 283 = .ok (.invokestatic 95, 3) := by decide +kernel
theorem dL_isSo_286 : decode cL_isSo 286 = .ok (.if_icmp .ne 7, 3) := by decide +kernel
theorem dL_isSo_289 : decode cL_isSo 289 = .ok (.iconst 1, 1) := by decide +kernel
theorem dL_isSo_290 : decode cL_isSo 290 = .ok (.goto 4, 3) := by decide +kernel
theorem dL_isSo_293 : decode cL_isSo 293 = .ok (.iconst 0, 1) := by decide +kernel
theorem dL_isSo_294 : decode cL_isSo 294 = .ok (.istore 8, 2) := by decide +kernel
theorem dL_isSo_296 : decode cL_isSo 296 = .ok (.iload 8, 2) := by decide +kernel
theorem dL_isSo_298 : decode cL_isSo 298 = .ok (.ifCond .eq 75, 3) := by decide +kernel
theorem dL_isSo_301 : decode cL_isSo 301 = .ok (.aload_n 0, 1) := by decide +kernel
theorem dL_isSo_302 : decode cL_isSo 302 = .ok (.invokevirtual 145, 3) := by decide +kernel
theorem dL_isSo_305 : decode cL_isSo 305 = .ok (.aload_n 1, 1) := by decide +kernel
theorem dL_isSo_306 : decode cL_isSo 306 = .ok (.iconst 0, 1) := by decide +kernel
theorem dL_isSo_307 : decode cL_isSo 307 = .ok (.iaload, 1) := by decide +kernel
theorem dL_isSo_308 : decode cL_isSo 308 = .ok (.ifCond .ne 7, 3) := by decide +kernel
theorem dL_isSo_311 : decode cL_isSo 311 = .ok (.dconst 0, 1) := by decide +kernel
theorem dL_isSo_312 : decode cL_isSo 312 = .ok (.goto 12, 3) := by decide +kernel
theorem dL_isSo_315 : decode cL_isSo 315 = .ok (.aload_n 1, 1) := by decide +kernel
theorem dL_isSo_316 : decode cL_isSo 316 = .ok (.iconst 1, 1) := by decide +kernel
theorem dL_isSo_317 : decode cL_isSo 317 = .ok (.iaload, 1) := by decide +kernel
theorem dL_isSo_318 : decode cL_isSo 318 = .ok (.i2d, 1) := by decide +kernel
theorem dL_isSo_319 : decode cL_isSo 319 = .ok (.aload_n 1, 1) := by decide +kernel
theorem dL_isSo_320 : decode cL_isSo 320 = .ok (.iconst 0, 1) := by decide +kernel
theorem dL_isSo_321 : decode cL_isSo 321 = .ok (.iaload, 1) := by decide +kernel
theorem dL_isSo_322 : decode cL_isSo 322 = .ok (.i2d, 1) := by decide +kernel
theorem dL_isSo_323 : decode cL_isSo 323 = .ok (.ddiv, 1) := by decide +kernel
theorem dL_isSo_324 : decode cL_isSo 324 = .ok (.dcmp .l, 1) := by decide +kernel
theorem dL_isSo_325 : decode cL_isSo 325 = .ok (.ifCond .ne 48, 3) := by decide +kernel
theorem dL_isSo_328 : decode cL_isSo 328 = .ok (.aload_n 0, 1) := by decide +kernel
theorem dL_isSo_329 : decode cL_isSo 329 = .ok (.invokevirtual 149, 3) := by decide +kernel
theorem dL_isSo_332 : decode cL_isSo 332 = .ok (.aload_n 1, 1) := by decide +kernel
theorem dL_isSo_333 : decode cL_isSo 333 = .ok (.iconst 3, 1) := by decide +kernel
theorem dL_isSo_334 : decode cL_isSo 334 = .ok (.iaload, 1) := by decide +kernel
theorem dL_isSo_335 : decode cL_isSo 335 = .ok (.ifCond .ne 7, 3) := by decide +kernel
theorem dL_isSo_338 : decode cL_isSo 338 = .ok (.fconst 0, 1) := by decide +kernel
theorem dL_isSo_339 : decode cL_isSo 339 = .ok (.goto 12, 3) := by decide +kernel
theorem dL_isSo_342 : decode cL_isSo 342 = .ok (.aload_n 1, 1) := by decide +kernel
theorem dL_isSo_343 : decode cL_isSo 343 = .ok (.iconst 2, 1) := by decide +kernel
theorem dL_isSo_344 : decode cL_isSo 344 = .ok (.iaload, 1) := by decide +kernel
theorem dL_isSo_345 : decode cL_isSo 345 = .ok (.i2f, 1) := by decide +kernel
theorem dL_isSo_346 : decode cL_isSo 346 = .ok (.aload_n 1, 1) := by decide +kernel
theorem dL_isSo_347 : decode cL_isSo 347 = .ok (.iconst 3, 1) := by decide +kernel
theorem dL_isSo_348 : decode cL_isSo 348 = .ok (.iaload, 1) := by decide +kernel
theorem dL_isSo_349 : decode cL_isSo 349 = .ok (.i2f, 1) := by decide +kernel
theorem dL_isSo_350 : decode cL_isSo 350 = .ok (.fdiv, 1) := by decide +kernel
theorem dL_isSo_351 : decode cL_isSo 351 = .ok (.fcmp .l, 1) := by decide +kernel
theorem dL_isSo_352 : decode cL_isSo 352 = .ok (.ifCond .ne 21, 3) := by decide +kernel
theorem dL_isSo_355 : decode cL_isSo 355 = .ok (.aload_n 0, 1) := by decide +kernel
theorem dL_isSo_356 : decode cL_isSo 356 = .ok (.aload_n 1, 1) := by decide +kernel
theorem dL_isSo_357 : decode cL_isSo 357 = .ok (.aload_n 2, 1) := by decide +kernel
theorem dL_isSo_358 : decode cL_isSo 358 = .ok (.aload_n 3, 1) := by decide +kernel
theorem dL_isSo_359 : decode cL_isSo 359 = .ok (.aload 4, 2) := by decide +kernel
theorem dL_isSo_361 : decode cL_isSo 361 = .ok (.aload 5, 2) := by decide +kernel
theorem dL_isSo_363 : decode cL_isSo 363 = .ok (.invokestatic 153, 3) := by decide +kernel
theorem dL_isSo_366 : decode cL_isSo 366 = .ok (.ifCond .eq 7, 3) := by decide +kernel
theorem dL_isSo_369 : decode cL_isSo 369 = .ok (.iconst 1, 1) := by decide +kernel
theorem dL_isSo_370 : decode cL_isSo 370 = .ok (.goto 4, 3) := by decide +kernel
theorem dL_isSo_373 : decode cL_isSo 373 = .ok (.iconst 0, 1) := by decide +kernel
theorem dL_isSo_374 : decode cL_isSo 374 = .ok (.ireturn, 1) := by decide +kernel
theorem dL_law_0 : decode cL_law 0 = .ok (.new 10, 3) := by decide +kernel
theorem dL_law_3 : decode cL_law 3 = .ok (.dup, 1) := by decide +kernel
theorem dL_law_4 : decode cL_law 4 = .ok (.invokespecial 157, 3) := by decide +kernel
theorem dL_law_7 : decode cL_law 7 = .ok (.astore_n 1, 1) := by decide +kernel
theorem dL_law_8 : decode cL_law 8 = .ok (.bipush 10, 2) := by decide +kernel
theorem dL_law_10 : decode cL_law 10 = .ok (.newarray .int, 2) := by decide +kernel
theorem dL_law_12 : decode cL_law 12 = .ok (.astore_n 2, 1) := by decide +kernel
theorem dL_law_13 : decode cL_law 13 = .ok (.bipush 32, 2) := by decide +kernel
theorem dL_law_15 : decode cL_law 15 = .ok (.newarray .int, 2) := by decide +kernel
theorem dL_law_17 : decode cL_law 17 = .ok (.astore_n 3, 1) := by decide +kernel
theorem dL_law_18 : decode cL_law 18 = .ok (.bipush 48, 2) := by decide +kernel
theorem dL_law_20 : decode cL_law 20 = .ok (.newarray .int, 2) := by decide +kernel
theorem dL_law_22 : decode cL_law 22 = .ok (.astore 4, 2) := by decide +kernel
theorem dL_law_24 : decode cL_law 24 = .ok (.bipush 48, 2) := by decide +kernel
theorem dL_law_26 : decode cL_law 26 = .ok (.newarray .int, 2) := by decide +kernel
theorem dL_law_28 : decode cL_law 28 = .ok (.astore 5, 2) := by decide +kernel
theorem dL_law_30 : decode cL_law 30 = .ok (.bipush 48, 2) := by decide +kernel
theorem dL_law_32 : decode cL_law 32 = .ok (.newarray .int, 2) := by decide +kernel
theorem dL_law_34 : decode cL_law 34 = .ok (.astore 6, 2) := by decide +kernel
theorem dL_law_36 : decode cL_law 36 = .ok (.aload_n 2, 1) := by decide +kernel
theorem dL_law_37 : decode cL_law 37 = .ok (.bipush 8, 2) := by decide +kernel
theorem dL_law_39 : decode cL_law 39 = .ok (.iconst 1, 1) := by decide +kernel
theorem dL_law_40 : decode cL_law 40 = .ok (.iastore, 1) := by decide +kernel
theorem dL_law_41 : decode cL_law 41 = .ok (.aload_n 2, 1) := by decide +kernel
theorem dL_law_42 : decode cL_law 42 = .ok (.bipush 9, 2) := by decide +kernel
theorem dL_law_44 : decode cL_law 44 = .ok (.iconst (-1), 1) := by decide +kernel
theorem dL_law_45 : decode cL_law 45 = .ok (.iastore, 1) := by decide +kernel
theorem dL_law_46 : decode cL_law 46 = .ok (.iconst 0, 1) := by decide +kernel
theorem dL_law_47 : decode cL_law 47 = .ok (.istore 7, 2) := by decide +kernel
theorem dL_law_49 : decode cL_law 49 = .ok (.iload 7, 2) := by decide +kernel
theorem dL_law_51 : decode cL_law 51 = .ok (.bipush 48, 2) := by decide +kernel
theorem dL_law_53 : decode cL_law 53 = .ok (.if_icmp .ge 21, 3) := by decide +kernel
theorem dL_law_56 : decode cL_law 56 = .ok (.aload 4, 2) := by decide +kernel
theorem dL_law_58 : decode cL_law 58 = .ok (.iload 7, 2) := by decide +kernel
theorem dL_law_60 : decode cL_law 60 = .ok (.iconst (-1), 1) := by decide +kernel
theorem dL_law_61 : decode cL_law 61 = .ok (.iastore, 1) := by decide +kernel
theorem dL_law_62 : decode cL_law 62 = .ok (.aload 5, 2) := by decide +kernel
theorem dL_law_64 : decode cL_law 64 = .ok (.iload 7, 2) := by decide +kernel
theorem dL_law_66 : decode cL_law 66 = .ok (.iconst (-1), 1) := by decide +kernel
theorem dL_law_67 : decode cL_law 67 = .ok (.iastore, 1) := by decide +kernel
theorem dL_law_68 : decode cL_law 68 = .ok (.iinc 7 1, 3) := by decide +kernel
theorem dL_law_71 : decode cL_law 71 = .ok (.goto (-22), 3) := by decide +kernel
theorem dL_law_74 : decode cL_law 74 = .ok (.aload_n 1, 1) := by decide +kernel
theorem dL_law_75 : decode cL_law 75 = .ok (.aload_n 2, 1) := by decide +kernel
theorem dL_law_76 : decode cL_law 76 = .ok (.aload_n 3, 1) := by decide +kernel
theorem dL_law_77 : decode cL_law 77 = .ok (.aload 4, 2) := by decide +kernel
theorem dL_law_79 : decode cL_law 79 = .ok (.aload 5, 2) := by decide +kernel
theorem dL_law_81 : decode cL_law 81 = .ok (.aload 6, 2) := by decide +kernel
theorem dL_law_83 : decode cL_law 83 = .ok (.invokestatic 158, 3) := by decide +kernel
theorem dL_law_86 : decode cL_law 86 = .ok (.ifCond .eq 54, 3) := by decide +kernel
theorem dL_law_89 : decode cL_law 89 = .ok (.aload_n 1, 1) := by decide +kernel
theorem dL_law_90 : decode cL_law 90 = .ok (.iconst 0, 1) := by decide +kernel
theorem dL_law_91 : decode cL_law 91 = .ok (.aload_n 2, 1) := by decide +kernel
theorem dL_law_92 : decode cL_law 92 = .ok (.aload_n 3, 1) := by decide +kernel
theorem dL_law_93 : decode cL_law 93 = .ok (.invokestatic 161, 3) := by decide +kernel
theorem dL_law_96 : decode cL_law 96 = .ok (.ifCond .eq 44, 3) := by decide +kernel
theorem dL_law_99 : decode cL_law 99 = .ok (.aload_n 1, 1) := by decide +kernel
theorem dL_law_100 : decode cL_law 100 = .ok (.aload_n 3, 1) := by decide +kernel
theorem dL_law_101 : decode cL_law 101 = .ok (.invokestatic 165, 3) := by decide +kernel
theorem dL_law_104 : decode cL_law 104 = .ok (.ifCond .eq 36, 3) := by decide +kernel
theorem dL_law_107 : decode cL_law 107 = .ok (.aload_n 1, 1) := by decide +kernel
theorem dL_law_108 : decode cL_law 108 = .ok (.invokestatic 169, 3) := by decide +kernel
theorem dL_law_111 : decode cL_law 111 = .ok (.bipush (-33), 2) := by decide +kernel
theorem dL_law_113 : decode cL_law 113 = .ok (.if_icmp .ne 27, 3) := by decide +kernel
theorem dL_law_116 : decode cL_law 116 = .ok (.aload_n 1, 1) := by decide +kernel
theorem dL_law_117 : decode cL_law 117 = .ok (.iconst 4, 1) := by decide +kernel
theorem dL_law_118 : decode cL_law 118 = .ok (.bipush 8, 2) := by decide +kernel
theorem dL_law_120 : decode cL_law 120 = .ok (.invokestatic 171, 3) := by decide +kernel
theorem dL_law_123 : decode cL_law 123 = .ok (.bipush (-31), 2) := by decide +kernel
theorem dL_law_125 : decode cL_law 125 = .ok (.if_icmp .ne 15, 3) := by decide +kernel
theorem dL_law_128 : decode cL_law 128 = .ok (.aload_n 1, 1) := by decide +kernel
theorem dL_law_129 : decode cL_law 129 = .ok (.iconst 0, 1) := by decide +kernel
theorem dL_law_130 : decode cL_law 130 = .ok (.bipush 8, 2) := by decide +kernel
theorem dL_law_132 : decode cL_law 132 = .ok (.invokestatic 171, 3) := by decide +kernel
theorem dL_law_135 : decode cL_law 135 = .ok (.bipush (-32), 2) := by decide +kernel
theorem dL_law_137 : decode cL_law 137 = .ok (.if_icmp .eq 5, 3) := by decide +kernel
theorem dL_law_140 : decode cL_law 140 = .ok (.iconst 0, 1) := by decide +kernel
theorem dL_law_141 : decode cL_law 141 = .ok (.ireturn, 1) := by decide +kernel
theorem dL_law_142 : decode cL_law 142 = .ok (.iconst 0, 1) := by decide +kernel
theorem dL_law_143 : decode cL_law 143 = .ok (.istore 7, 2) := by decide +kernel
theorem dL_law_145 : decode cL_law 145 = .ok (.iload 7, 2) := by decide +kernel
theorem dL_law_147 : decode cL_law 147 = .ok (.bipush 56, 2) := by decide +kernel
theorem dL_law_149 : decode cL_law 149 = .ok (.if_icmp .ge 160, 3) := by decide +kernel
theorem dL_law_152 : decode cL_law 152 = .ok (.aload_n 0, 1) := by decide +kernel
theorem dL_law_153 : decode cL_law 153 = .ok (.iconst 2, 1) := by decide +kernel
theorem dL_law_154 : decode cL_law 154 = .ok (.iload 7, 2) := by decide +kernel
theorem dL_law_156 : decode cL_law 156 = .ok (.imul, 1) := by decide +kernel
theorem dL_law_157 : decode cL_law 157 = .ok (.invokestatic 173, 3) := by decide +kernel
theorem dL_law_160 : decode cL_law 160 = .ok (.istore 8, 2) := by decide +kernel
theorem dL_law_162 : decode cL_law 162 = .ok (.aload_n 0, 1) := by decide +kernel
theorem dL_law_163 : decode cL_law 163 = .ok (.iconst 2, 1) := by decide +kernel
theorem dL_law_164 : decode cL_law 164 = .ok (.iload 7, 2) := by decide +kernel
theorem dL_law_166 : decode cL_law 166 = .ok (.imul, 1) := by decide +kernel
theorem dL_law_167 : decode cL_law 167 = .ok (.iconst 1, 1) := by decide +kernel
theorem dL_law_168 : decode cL_law 168 = .ok (.iadd, 1) := by decide +kernel
theorem dL_law_169 : decode cL_law 169 = .ok (.invokestatic 173, 3) := by decide +kernel
theorem dL_law_172 : decode cL_law 172 = .ok (.istore 9, 2) := by decide +kernel
theorem dL_law_174 : decode cL_law 174 = .ok (.iload 7, 2) := by decide +kernel
theorem dL_law_176 : decode cL_law 176 = .ok (.iconst 4, 1) := by decide +kernel
theorem dL_law_177 : decode cL_law 177 = .ok (.if_icmp .lt 16, 3) := by decide +kernel
theorem dL_law_180 : decode cL_law 180 = .ok (.iload 8, 2) := by decide +kernel
theorem dL_law_182 : decode cL_law 182 = .ok (.bipush 8, 2) := by decide +kernel
theorem dL_law_184 : decode cL_law 184 = .ok (.ishr, 1) := by decide +kernel
theorem dL_law_185 : decode cL_law 185 = .ok (.bipush 6, 2) := by decide +kernel
theorem dL_law_187 : decode cL_law 187 = .ok (.invokestatic 81, 3) := by decide +kernel
theorem dL_law_190 : decode cL_law 190 = .ok (.ifCond .ne 30, 3) := by decide +kernel
theorem dL_law_193 : decode cL_law 193 = .ok (.aload_n 1, 1) := by decide +kernel
theorem dL_law_194 : decode cL_law 194 = .ok (.iload 7, 2) := by decide +kernel
theorem dL_law_196 : decode cL_law 196 = .ok (.iconst 4, 1) := by decide +kernel
theorem dL_law_197 : decode cL_law 197 = .ok (.if_icmp .ge 7, 3) := by decide +kernel
theorem dL_law_200 : decode cL_law 200 = .ok (.iconst 0, 1) := by decide +kernel
theorem dL_law_201 : decode cL_law 201 = .ok (.goto 5, 3) := by decide +kernel
theorem dL_law_204 : decode cL_law 204 = .ok (.iload 8, 2) := by decide +kernel
theorem dL_law_206 : decode cL_law 206 = .ok (.iload 9, 2) := by decide +kernel
theorem dL_law_208 : decode cL_law 208 = .ok (.aload_n 2, 1) := by decide +kernel
theorem dL_law_209 : decode cL_law 209 = .ok (.aload_n 3, 1) := by decide +kernel
theorem dL_law_210 : decode cL_law 210 = .ok (.aload 4, 2) := by decide +kernel
theorem dL_law_212 : decode cL_law 212 = .ok (.aload 5, 2) := by decide +kernel
theorem dL_law_214 : decode cL_law 214 = .ok (.invokestatic 176, 3) := by decide +kernel
theorem dL_law_217 : decode cL_law 217 = .ok (.goto 29, 3) := by decide +kernel
theorem dL_law_220 : decode cL_law 220 = .ok (.aload_n 1, 1) := by decide +kernel
theorem dL_law_221 : decode cL_law 221 = .ok (.iload 7, 2) := by decide +kernel
theorem dL_law_223 : decode cL_law 223 = .ok (.iconst 4, 1) := by decide +kernel
theorem dL_law_224 : decode cL_law 224 = .ok (.if_icmp .ne 7, 3) := by decide +kernel
theorem dL_law_227 : decode cL_law 227 = .ok (.iconst 0, 1) := by decide +kernel
theorem dL_law_228 : decode cL_law 228 = .ok (.goto 5, 3) := by decide +kernel
theorem dL_law_231 : decode cL_law 231 = .ok (.iload 8, 2) := by decide +kernel
theorem dL_law_233 : decode cL_law 233 = .ok (.iload 9, 2) := by decide +kernel
theorem dL_law_235 : decode cL_law 235 = .ok (.aload_n 2, 1) := by decide +kernel
theorem dL_law_236 : decode cL_law 236 = .ok (.aload_n 3, 1) := by decide +kernel
theorem dL_law_237 : decode cL_law 237 = .ok (.aload 4, 2) := by decide +kernel
theorem dL_law_239 : decode cL_law 239 = .ok (.aload 5, 2) := by decide +kernel
theorem dL_law_241 : decode cL_law 241 = .ok (.aload 6, 2) := by decide +kernel
theorem dL_law_243 : decode cL_law 243 = .ok (.invokestatic 180, 3) := by decide +kernel
theorem dL_law_246 : decode cL_law 246 = .ok (.istore 10, 2) := by decide +kernel
theorem dL_law_248 : decode cL_law 248 = .ok (.iload 10, 2) := by decide +kernel
theorem dL_law_250 : decode cL_law 250 = .ok (.ifCond .eq 51, 3) := by decide +kernel
theorem dL_law_253 : decode cL_law 253 = .ok (.aload_n 1, 1) := by decide +kernel
theorem dL_law_254 : decode cL_law 254 = .ok (.aload_n 2, 1) := by decide +kernel
theorem dL_law_255 : decode cL_law 255 = .ok (.aload_n 3, 1) := by decide +kernel
theorem dL_law_256 : decode cL_law 256 = .ok (.aload 4, 2) := by decide +kernel
theorem dL_law_258 : decode cL_law 258 = .ok (.aload 5, 2) := by decide +kernel
theorem dL_law_260 : decode cL_law 260 = .ok (.aload 6, 2) := by decide +kernel
theorem dL_law_262 : decode cL_law 262 = .ok (.invokestatic 158, 3) := by decide +kernel
theorem dL_law_265 : decode cL_law 265 = .ok (.ifCond .eq 36, 3) := by decide +kernel
theorem dL_law_268 : decode cL_law 268 = .ok (.iload 7, 2) := by decide +kernel
theorem dL_law_270 : decode cL_law 270 = .ok (.iconst 4, 1) := by decide +kernel
theorem dL_law_271 : decode cL_law 271 = .ok (.irem, 1) := by decide +kernel
theorem dL_law_272 : decode cL_law 272 = .ok (.iconst 3, 1) := by decide +kernel
theorem dL_law_273 : decode cL_law 273 = .ok (.if_icmp .ne 30, 3) := by decide +kernel
theorem dL_law_276 : decode cL_law 276 = .ok (.aload_n 1, 1) := by decide +kernel
theorem dL_law_277 : decode cL_law 277 = .ok (.iload 8, 2) := by decide +kernel
theorem dL_law_279 : decode cL_law 279 = .ok (.iconst 4, 1) := by decide +kernel
theorem dL_law_280 : decode cL_law 280 = .ok (.ishr, 1) := by decide +kernel
theorem dL_law_281 : decode cL_law 281 = .ok (.iconst 3, 1) := by decide +kernel
theorem dL_law_282 : decode cL_law 282 = .ok (.invokestatic 81, 3) := by decide +kernel
theorem dL_law_285 : decode cL_law 285 = .ok (.aload_n 2, 1) := by decide +kernel
theorem dL_law_286 : decode cL_law 286 = .ok (.aload_n 3, 1) := by decide +kernel
theorem dL_law_287 : decode cL_law 287 = .ok (.invokestatic 161, 3) := by decide +kernel
theorem dL_law_290 : decode cL_law 290 = .ok (.ifCond .eq 11, 3) := by decide +kernel
theorem dL_law_293 : decode cL_law 293 = .ok (.aload_n 1, 1) := by decide +kernel
theorem dL_law_294 : decode cL_law 294 = .ok (.aload_n 3, 1) := by decide +kernel
theorem dL_law_295 : decode cL_law 295 = .ok (.invokestatic 165, 3) := by decide +kernel
theorem dL_law_298 : decode cL_law 298 = .ok (.ifCond .ne 5, 3) := by decide +kernel
theorem dL_law_301 : decode cL_law 301 = .ok (.iconst 0, 1) := by decide +kernel
theorem dL_law_302 : decode cL_law 302 = .ok (.ireturn, 1) := by decide +kernel
theorem dL_law_303 : decode cL_law 303 = .ok (.iinc 7 1, 3) := by decide +kernel
theorem dL_law_306 : decode cL_law 306 = .ok (.goto (-161), 3) := by decide +kernel
theorem dL_law_309 : decode cL_law 309 = .ok (.iconst 1, 1) := by decide +kernel
theorem dL_law_310 : decode cL_law 310 = .ok (.ireturn, 1) := by decide +kernel
end
section
-- ===== the good words of the tables; every method carries them =====
def gw : List Cond := lw_tbl.filter goodWord
theorem gwm {w : Cond} {i : Nat} (h : lw_tbl[i]? = some w) (g : goodWord w = true) : w ∈ gw := List.mem_filter.mpr ⟨List.mem_of_getElem? h, g⟩
theorem gw_good {w : Cond} (h : w ∈ gw) : goodWord w = true := (List.mem_filter.mp h).2
theorem gw_in {ws : List Cond} (h : ∀ w ∈ ws, w ∈ gw) : GoodIn gw ws := fun w hw => ⟨h w hw, good_of_word (gw_good (h w hw))⟩
abbrev gws (y : MethodName) (cc : ByteArray) (n : Nat) (ret : Option FieldType) : List Cond := Cond.code y cc n ret :: gw
theorem gws_in {y : MethodName} {cc : ByteArray} {n : Nat} {ret : Option FieldType} (h : Cond.code y cc n ret ∈ gw) : GoodIn gw (gws y cc n ret) := gw_in (fun w hw => by
  rcases List.mem_cons.mp hw with e | e
  · rw [e]; exact h
  · exact e)
-- ===== the values of the system =====
abbrev VSk : Type := (Nat → Int32) × (Nat → Int32) × (Nat → Int32) × (Nat → Int32) × (Nat → Int32) × (Nat → Int32)
abbrev VLy : Type := Int32 × (Nat → Int32) × Int32 × Int32 × Int32 × Int32 × Int32
abbrev VCk : Type := (Nat → Int32) × Int32 × Int32
abbrev VI5 : Type := Int32 × Int32 × Int32 × Int32 × Int32
abbrev VSt : Type := VSk × VLy × VCk × (Nat → Int32) × VI5
abbrev VTx : Type := (Nat → Int32) × Int32 × (Nat → Int32) × (Nat → Int32) × Int32 × Int32 × Int32
abbrev VSp : Type := Int32 × Int32 × (Nat → Nat)
abbrev VC : Type := (Nat → VSk) × (Nat → VLy) × (Nat → VCk) × (Nat → Nat → Int32) × (Nat → VI5) × VTx × VSp
abbrev VW : Type := Nat → Nat × (Nat → Int32)
/-- the law's five rows -/
abbrev VRw : Type := (Nat → Int32) × (Nat → Int32) × (Nat → Int32) × (Nat → Int32) × (Nat → Int32)
abbrev VA : Type := VC × VW
-- setting parts
def sSk (c : VC) (k : Nat) (v : VSk) : VC := (va_up c.1 k v, c.2)
def sLy (c : VC) (k : Nat) (v : VLy) : VC := (c.1, va_up c.2.1 k v, c.2.2)
def sCk (c : VC) (k : Nat) (v : VCk) : VC := (c.1, c.2.1, va_up c.2.2.1 k v, c.2.2.2)
def sVl (c : VC) (k : Nat) (v : Nat → Int32) : VC := (c.1, c.2.1, c.2.2.1, va_up c.2.2.2.1 k v, c.2.2.2.2)
def sI5 (c : VC) (k : Nat) (v : VI5) : VC := (c.1, c.2.1, c.2.2.1, c.2.2.2.1, va_up c.2.2.2.2.1 k v, c.2.2.2.2.2)
def sTx (c : VC) (v : VTx) : VC := (c.1, c.2.1, c.2.2.1, c.2.2.2.1, c.2.2.2.2.1, v, c.2.2.2.2.2.2)
def sSp (c : VC) (v : VSp) : VC := (c.1, c.2.1, c.2.2.1, c.2.2.2.1, c.2.2.2.2.1, c.2.2.2.2.2.1, v)
def gSt (c : VC) (k : Nat) : VSt := (c.1 k, c.2.1 k, c.2.2.1 k, c.2.2.2.1 k, c.2.2.2.2.1 k)
def sSt (c : VC) (k : Nat) (v : VSt) : VC := (va_up c.1 k v.1, va_up c.2.1 k v.2.1, va_up c.2.2.1 k v.2.2.1, va_up c.2.2.2.1 k v.2.2.2.1, va_up c.2.2.2.2.1 k v.2.2.2.2, c.2.2.2.2.2)
theorem va_up_up {α : Type} (f : Nat → α) (k : Nat) (a b : α) : va_up (va_up f k a) k b = va_up f k b := by funext j; unfold va_up; split <;> rfl
theorem va_up_id {α : Type} (f : Nat → α) (k : Nat) {a : α} (h : f k = a) : va_up f k a = f := by funext j; unfold va_up; split <;> simp_all
theorem sSk_id {c : VC} {k : Nat} {v : VSk} (h : c.1 k = v) : sSk c k v = c := by unfold sSk; rw [va_up_id _ _ h]
theorem sSk_get (c : VC) (k : Nat) (v : VSk) : (sSk c k v).1 k = v := va_up_self _ _ _
theorem sSk_up (c : VC) (k : Nat) (v w : VSk) : sSk (sSk c k v) k w = sSk c k w := by unfold sSk; simp only [va_up_up]
theorem sLy_id {c : VC} {k : Nat} {v : VLy} (h : c.2.1 k = v) : sLy c k v = c := by unfold sLy; rw [va_up_id _ _ h]
theorem sLy_get (c : VC) (k : Nat) (v : VLy) : (sLy c k v).2.1 k = v := va_up_self _ _ _
theorem sLy_up (c : VC) (k : Nat) (v w : VLy) : sLy (sLy c k v) k w = sLy c k w := by unfold sLy; simp only [va_up_up]
theorem sCk_id {c : VC} {k : Nat} {v : VCk} (h : c.2.2.1 k = v) : sCk c k v = c := by unfold sCk; rw [va_up_id _ _ h]
theorem sCk_get (c : VC) (k : Nat) (v : VCk) : (sCk c k v).2.2.1 k = v := va_up_self _ _ _
theorem sCk_up (c : VC) (k : Nat) (v w : VCk) : sCk (sCk c k v) k w = sCk c k w := by unfold sCk; simp only [va_up_up]
theorem sTx_id {c : VC} {v : VTx} (h : c.2.2.2.2.2.1 = v) : sTx c v = c := by subst h; rfl
theorem sSt_id {c : VC} {k : Nat} {v : VSt} (h : gSt c k = v) : sSt c k v = c := by subst h; unfold sSt gSt; simp only [va_up_id _ _ rfl]
theorem sSt_get (c : VC) (k : Nat) (v : VSt) : gSt (sSt c k v) k = v := by unfold sSt gSt; simp only [va_up_self]
theorem sSt_up (c : VC) (k : Nat) (v w : VSt) : sSt (sSt c k v) k w = sSt c k w := by unfold sSt; simp only [va_up_up]
theorem sSt_g1 (c : VC) (k : Nat) (v : VSt) : (sSt c k v).1 k = v.1 := va_up_self _ _ _
theorem sSt_g2 (c : VC) (k : Nat) (v : VSt) : (sSt c k v).2.1 k = v.2.1 := va_up_self _ _ _
theorem sSt_g3 (c : VC) (k : Nat) (v : VSt) : (sSt c k v).2.2.1 k = v.2.2.1 := va_up_self _ _ _
theorem sSt_g4 (c : VC) (k : Nat) (v : VSt) : (sSt c k v).2.2.2.1 k = v.2.2.2.1 := va_up_self _ _ _
theorem sSt_g5 (c : VC) (k : Nat) (v : VSt) : (sSt c k v).2.2.2.2.1 k = v.2.2.2.2 := va_up_self _ _ _
theorem sSt_sSk (c : VC) (k : Nat) (v : VSt) (w : VSk) : sSk (sSt c k v) k w = sSt c k (w, v.2) := by unfold sSk sSt; simp only [va_up_up]
theorem sSt_sLy (c : VC) (k : Nat) (v : VSt) (w : VLy) : sLy (sSt c k v) k w = sSt c k (v.1, w, v.2.2) := by unfold sLy sSt; simp only [va_up_up]
theorem sSt_sCk (c : VC) (k : Nat) (v : VSt) (w : VCk) : sCk (sSt c k v) k w = sSt c k (v.1, v.2.1, w, v.2.2.2) := by unfold sCk sSt; simp only [va_up_up]
theorem sSt_sVl (c : VC) (k : Nat) (v : VSt) (w : Nat → Int32) : sVl (sSt c k v) k w = sSt c k (v.1, v.2.1, v.2.2.1, w, v.2.2.2.2) := by unfold sVl sSt; simp only [va_up_up]
theorem sSt_sI5 (c : VC) (k : Nat) (v : VSt) (w : VI5) : sI5 (sSt c k v) k w = sSt c k (v.1, v.2.1, v.2.2.1, v.2.2.2.1, w) := by unfold sI5 sSt; simp only [va_up_up]
-- ===== the cells =====
abbrev cI (cA : ClassId) (n : Nat) (f : Nat → Int32) : va_E := .inl (cA, n, .inl f)
def cSp (ad : Nat → Nat) (v : VSp) : va_E := .inr (5, [.ref (ad 6), .ref (ad 8), .int v.1, .ref (ad 1), .int v.2.1, .ref (ad 2), .ref (ad 94), .ref (ad 112)])
def cSv (cy : Nat → ClassId) (ad : Nat → Nat) (v : VSp) : va_E := .inl (cy 2, 6, .inr (.inr (.inr (.inr (fun i => some (ad (6 + 2 * min (v.2.2 i) 7)))))))
def cTx (ad : Nat → Nat) (v : VTx) : va_E := .inr (4, [.ref (ad 3), .int v.2.1, .ref (ad 4), .ref (ad 5), .int v.2.2.2.2.1, .int v.2.2.2.2.2.1, .int v.2.2.2.2.2.2])
def cSt (ad : Nat → Nat) (k : Nat) (v : VI5) : va_E := .inr (2, [.ref (ad (22 + 7 * k)), .ref (ad (78 + 2 * k)), .ref (ad (96 + 2 * k)), .ref (ad (7 + 2 * k)), .int v.1, .int v.2.1, .int v.2.2.1, .int v.2.2.2.1, .int v.2.2.2.2])
def cSk (ad : Nat → Nat) (k : Nat) : va_E := .inr (3, [.ref (ad (23 + 7 * k)), .ref (ad (24 + 7 * k)), .ref (ad (25 + 7 * k)), .ref (ad (26 + 7 * k)), .ref (ad (27 + 7 * k)), .ref (ad (28 + 7 * k))])
def cLy (ad : Nat → Nat) (k : Nat) (v : VLy) : va_E := .inr (1, [.int v.1, .ref (ad (79 + 2 * k)), .int v.2.2.1, .int v.2.2.2.1, .int v.2.2.2.2.1, .int v.2.2.2.2.2.1, .int v.2.2.2.2.2.2])
def cCk (ad : Nat → Nat) (k : Nat) (v : VCk) : va_E := .inr (0, [.ref (ad (97 + 2 * k)), .int v.2.1, .int v.2.2])
def skC (cy : Nat → ClassId) (ad : Nat → Nat) (k : Nat) (v : VSk) (j : Nat) : va_E :=
  if j = 0 then cSk ad k else if j = 1 then cI (cy 0) 4 v.1 else if j = 2 then cI (cy 0) 4 v.2.1 else if j = 3 then cI (cy 0) 4 v.2.2.1 else if j = 4 then cI (cy 0) 4 v.2.2.2.1 else if j = 5 then cI (cy 1) 4 v.2.2.2.2.1 else cI (cy 1) 4 v.2.2.2.2.2
def spC (cy : Nat → ClassId) (ad : Nat → Nat) (t : VTx) (v : VSp) (j : Nat) : va_E :=
  if j = 0 then cSp ad v else if j = 1 then cSv cy ad v else if j = 2 then cTx ad t else if j = 3 then cI (cy 0) 60 t.1 else if j = 4 then cI (cy 0) 30 t.2.2.1 else cI (cy 0) 30 t.2.2.2.1
def cellA (cy : Nat → ClassId) (ad : Nat → Nat) (V : VA) (i : Nat) : va_E :=
  if i < 6 then spC cy ad V.1.2.2.2.2.2.1 V.1.2.2.2.2.2.2 i
  else if i < 22 then (if (i - 6) % 2 = 0 then cSt ad ((i - 6) / 2) (V.1.2.2.2.2.1 ((i - 6) / 2)) else cI (cy 0) 48 (V.1.2.2.2.1 ((i - 6) / 2)))
  else if i < 78 then skC cy ad ((i - 22) / 7) (V.1.1 ((i - 22) / 7)) ((i - 22) % 7)
  else if i < 96 then (if (i - 78) % 2 = 0 then cLy ad ((i - 78) / 2) (V.1.2.1 ((i - 78) / 2)) else cI (cy 0) 4 (V.1.2.1 ((i - 78) / 2)).2.1)
  else if i < 114 then (if (i - 96) % 2 = 0 then cCk ad ((i - 96) / 2) (V.1.2.2.1 ((i - 96) / 2)) else cI (cy 0) 8 (V.1.2.2.1 ((i - 96) / 2)).1)
  else cI (cy 0) (V.2 (i - 114)).1 (V.2 (i - 114)).2
-- what stands at each
section
variable {cy : Nat → ClassId} {ad : Nat → Nat} {c : VC} {w : VW} {k : Nat}
theorem at_sp {j : Nat} (h : j < 6) : cellA cy ad (c, w) j = spC cy ad c.2.2.2.2.2.1 c.2.2.2.2.2.2 j := by unfold cellA; rw [if_pos h]
theorem at_st (h : k < 8) : cellA cy ad (c, w) (6 + 2 * k) = cSt ad k (c.2.2.2.2.1 k) := by
  unfold cellA
  rw [if_neg (by omega), if_pos (by omega), if_pos (by omega), show (6 + 2 * k - 6) / 2 = k by omega]
theorem at_vl (h : k < 8) : cellA cy ad (c, w) (7 + 2 * k) = cI (cy 0) 48 (c.2.2.2.1 k) := by
  unfold cellA
  rw [if_neg (by omega), if_pos (by omega), if_neg (by omega), show (7 + 2 * k - 6) / 2 = k by omega]
theorem at_sk {j : Nat} (h : k < 8) (hj : j < 7) : cellA cy ad (c, w) (22 + j + 7 * k) = skC cy ad k (c.1 k) j := by
  unfold cellA
  rw [if_neg (by omega), if_neg (by omega), if_pos (by omega), show (22 + j + 7 * k - 22) / 7 = k by omega, show (22 + j + 7 * k - 22) % 7 = j by omega]
theorem at_ly (h : k < 9) : cellA cy ad (c, w) (78 + 2 * k) = cLy ad k (c.2.1 k) := by
  unfold cellA
  rw [if_neg (by omega), if_neg (by omega), if_neg (by omega), if_pos (by omega), if_pos (by omega), show (78 + 2 * k - 78) / 2 = k by omega]
theorem at_lr (h : k < 9) : cellA cy ad (c, w) (79 + 2 * k) = cI (cy 0) 4 (c.2.1 k).2.1 := by
  unfold cellA
  rw [if_neg (by omega), if_neg (by omega), if_neg (by omega), if_pos (by omega), if_neg (by omega), show (79 + 2 * k - 78) / 2 = k by omega]
theorem at_ck (h : k < 9) : cellA cy ad (c, w) (96 + 2 * k) = cCk ad k (c.2.2.1 k) := by
  unfold cellA
  rw [if_neg (by omega), if_neg (by omega), if_neg (by omega), if_neg (by omega), if_pos (by omega), if_pos (by omega), show (96 + 2 * k - 96) / 2 = k by omega]
theorem at_cr (h : k < 9) : cellA cy ad (c, w) (97 + 2 * k) = cI (cy 0) 8 (c.2.2.1 k).1 := by
  unfold cellA
  rw [if_neg (by omega), if_neg (by omega), if_neg (by omega), if_neg (by omega), if_pos (by omega), if_neg (by omega), show (97 + 2 * k - 96) / 2 = k by omega]
theorem at_rw {j : Nat} : cellA cy ad (c, w) (114 + j) = cI (cy 0) (w j).1 (w j).2 := by
  unfold cellA
  rw [if_neg (by omega), if_neg (by omega), if_neg (by omega), if_neg (by omega), if_neg (by omega), show 114 + j - 114 = j by omega]
end
-- one cell changes when one part does
theorem up_sk {n0 : Nat} {cy : Nat → ClassId} {ad : Nat → Nat} {c : VC} {w : VW} {k j0 : Nat} {v : VSk} (h : k < 8) (hj : j0 < 7) (ho : ∀ j, j < 7 → j ≠ j0 → skC cy ad k v j = skC cy ad k (c.1 k) j) : ∀ i, i < n0 → va_up (cellA cy ad (c, w)) (22 + j0 + 7 * k) (skC cy ad k v j0) i = cellA cy ad (sSk c k v, w) i := by
  intro i hi
  by_cases e : i = 22 + j0 + 7 * k
  · rw [e, va_up_self, at_sk h hj, sSk_get]
  · rw [va_up_ne _ _ e]
    unfold cellA
    by_cases a1 : i < 6
    · rw [if_pos a1, if_pos a1]; rfl
    · rw [if_neg a1, if_neg a1]
      by_cases a2 : i < 22
      · rw [if_pos a2, if_pos a2]; rfl
      · rw [if_neg a2, if_neg a2]
        by_cases a3 : i < 78
        · rw [if_pos a3, if_pos a3]
          by_cases ek : (i - 22) / 7 = k
          · rw [ek]
            show _ = skC cy ad k ((sSk c k v).1 k) _
            rw [sSk_get]
            exact (ho _ (by omega) (by omega)).symm
          · show _ = skC cy ad _ (va_up c.1 k v _) _
            rw [va_up_ne _ _ ek]
        · rw [if_neg a3, if_neg a3]; rfl
theorem up_ly {n0 : Nat} {cy : Nat → ClassId} {ad : Nat → Nat} {c : VC} {w : VW} {k : Nat} {v : VLy} (h : k < 9) (ho : v.2.1 = (c.2.1 k).2.1) : ∀ i, i < n0 → va_up (cellA cy ad (c, w)) (78 + 2 * k) (cLy ad k v) i = cellA cy ad (sLy c k v, w) i := by
  intro i hi
  by_cases e : i = 78 + 2 * k
  · rw [e, va_up_self, at_ly h, sLy_get]
  · rw [va_up_ne _ _ e]
    unfold cellA
    by_cases a1 : i < 6
    · rw [if_pos a1, if_pos a1]; rfl
    · rw [if_neg a1, if_neg a1]
      by_cases a2 : i < 22
      · rw [if_pos a2, if_pos a2]; rfl
      · rw [if_neg a2, if_neg a2]
        by_cases a3 : i < 78
        · rw [if_pos a3, if_pos a3]; rfl
        · rw [if_neg a3, if_neg a3]
          by_cases a4 : i < 96
          · rw [if_pos a4, if_pos a4]
            by_cases ek : (i - 78) / 2 = k
            · rw [ek, if_neg (by omega), if_neg (by omega)]
              show _ = cI (cy 0) 4 ((sLy c k v).2.1 k).2.1
              rw [sLy_get, ho]
            · show _ = if (i - 78) % 2 = 0 then cLy ad _ (va_up c.2.1 k v _) else cI (cy 0) 4 (va_up c.2.1 k v _).2.1
              rw [va_up_ne _ _ ek]
          · rw [if_neg a4, if_neg a4]; rfl
theorem up_lr {n0 : Nat} {cy : Nat → ClassId} {ad : Nat → Nat} {c : VC} {w : VW} {k : Nat} {v : VLy} {f : Nat → Int32} (h : k < 9) (hv : c.2.1 k = v) : ∀ i, i < n0 → va_up (cellA cy ad (c, w)) (79 + 2 * k) (cI (cy 0) 4 f) i = cellA cy ad (sLy c k (v.1, f, v.2.2), w) i := by
  subst hv
  intro i hi
  by_cases e : i = 79 + 2 * k
  · rw [e, va_up_self, at_lr h, sLy_get]
  · rw [va_up_ne _ _ e]
    unfold cellA
    by_cases a1 : i < 6
    · rw [if_pos a1, if_pos a1]; rfl
    · rw [if_neg a1, if_neg a1]
      by_cases a2 : i < 22
      · rw [if_pos a2, if_pos a2]; rfl
      · rw [if_neg a2, if_neg a2]
        by_cases a3 : i < 78
        · rw [if_pos a3, if_pos a3]; rfl
        · rw [if_neg a3, if_neg a3]
          by_cases a4 : i < 96
          · rw [if_pos a4, if_pos a4]
            by_cases ek : (i - 78) / 2 = k
            · rw [ek, if_pos (by omega), if_pos (by omega)]
              show _ = cLy ad k ((sLy c k _).2.1 k)
              rw [sLy_get]
              rfl
            · show _ = if (i - 78) % 2 = 0 then cLy ad _ (va_up c.2.1 k _ _) else cI (cy 0) 4 (va_up c.2.1 k _ _).2.1
              rw [va_up_ne _ _ ek]
          · rw [if_neg a4, if_neg a4]; rfl
theorem up_ck {n0 : Nat} {cy : Nat → ClassId} {ad : Nat → Nat} {c : VC} {w : VW} {k : Nat} {v : VCk} (h : k < 9) (ho : v.1 = (c.2.2.1 k).1) : ∀ i, i < n0 → va_up (cellA cy ad (c, w)) (96 + 2 * k) (cCk ad k v) i = cellA cy ad (sCk c k v, w) i := by
  intro i hi
  by_cases e : i = 96 + 2 * k
  · rw [e, va_up_self, at_ck h, sCk_get]
  · rw [va_up_ne _ _ e]
    unfold cellA
    by_cases a1 : i < 6
    · rw [if_pos a1, if_pos a1]; rfl
    · rw [if_neg a1, if_neg a1]
      by_cases a2 : i < 22
      · rw [if_pos a2, if_pos a2]; rfl
      · rw [if_neg a2, if_neg a2]
        by_cases a3 : i < 78
        · rw [if_pos a3, if_pos a3]; rfl
        · rw [if_neg a3, if_neg a3]
          by_cases a4 : i < 96
          · rw [if_pos a4, if_pos a4]; rfl
          · rw [if_neg a4, if_neg a4]
            by_cases a5 : i < 114
            · rw [if_pos a5, if_pos a5]
              by_cases ek : (i - 96) / 2 = k
              · rw [ek, if_neg (by omega), if_neg (by omega)]
                show _ = cI (cy 0) 8 ((sCk c k v).2.2.1 k).1
                rw [sCk_get, ho]
              · show _ = if (i - 96) % 2 = 0 then cCk ad _ (va_up c.2.2.1 k v _) else cI (cy 0) 8 (va_up c.2.2.1 k v _).1
                rw [va_up_ne _ _ ek]
            · rw [if_neg a5, if_neg a5]
theorem up_cr {n0 : Nat} {cy : Nat → ClassId} {ad : Nat → Nat} {c : VC} {w : VW} {k : Nat} {v : VCk} {f : Nat → Int32} (h : k < 9) (hv : c.2.2.1 k = v) : ∀ i, i < n0 → va_up (cellA cy ad (c, w)) (97 + 2 * k) (cI (cy 0) 8 f) i = cellA cy ad (sCk c k (f, v.2), w) i := by
  subst hv
  intro i hi
  by_cases e : i = 97 + 2 * k
  · rw [e, va_up_self, at_cr h, sCk_get]
  · rw [va_up_ne _ _ e]
    unfold cellA
    by_cases a1 : i < 6
    · rw [if_pos a1, if_pos a1]; rfl
    · rw [if_neg a1, if_neg a1]
      by_cases a2 : i < 22
      · rw [if_pos a2, if_pos a2]; rfl
      · rw [if_neg a2, if_neg a2]
        by_cases a3 : i < 78
        · rw [if_pos a3, if_pos a3]; rfl
        · rw [if_neg a3, if_neg a3]
          by_cases a4 : i < 96
          · rw [if_pos a4, if_pos a4]; rfl
          · rw [if_neg a4, if_neg a4]
            by_cases a5 : i < 114
            · rw [if_pos a5, if_pos a5]
              by_cases ek : (i - 96) / 2 = k
              · rw [ek, if_pos (by omega), if_pos (by omega)]
                show _ = cCk ad k ((sCk c k _).2.2.1 k)
                rw [sCk_get]
                rfl
              · show _ = if (i - 96) % 2 = 0 then cCk ad _ (va_up c.2.2.1 k _ _) else cI (cy 0) 8 (va_up c.2.2.1 k _ _).1
                rw [va_up_ne _ _ ek]
            · rw [if_neg a5, if_neg a5]
theorem up_st {n0 : Nat} {cy : Nat → ClassId} {ad : Nat → Nat} {c : VC} {w : VW} {k : Nat} {v : VI5} (h : k < 8) : ∀ i, i < n0 → va_up (cellA cy ad (c, w)) (6 + 2 * k) (cSt ad k v) i = cellA cy ad (sI5 c k v, w) i := by
  intro i hi
  by_cases e : i = 6 + 2 * k
  · rw [e, va_up_self, at_st h]
    show _ = cSt ad k (va_up c.2.2.2.2.1 k v k)
    rw [va_up_self]
  · rw [va_up_ne _ _ e]
    unfold cellA
    by_cases a1 : i < 6
    · rw [if_pos a1, if_pos a1]; rfl
    · rw [if_neg a1, if_neg a1]
      by_cases a2 : i < 22
      · rw [if_pos a2, if_pos a2]
        by_cases ek : (i - 6) / 2 = k
        · rw [ek, if_neg (by omega), if_neg (by omega)]; rfl
        · show _ = if (i - 6) % 2 = 0 then cSt ad _ (va_up c.2.2.2.2.1 k v _) else _
          rw [va_up_ne _ _ ek]
          rfl
      · rw [if_neg a2, if_neg a2]; rfl
theorem up_vl {n0 : Nat} {cy : Nat → ClassId} {ad : Nat → Nat} {c : VC} {w : VW} {k : Nat} {v : Nat → Int32} (h : k < 8) : ∀ i, i < n0 → va_up (cellA cy ad (c, w)) (7 + 2 * k) (cI (cy 0) 48 v) i = cellA cy ad (sVl c k v, w) i := by
  intro i hi
  by_cases e : i = 7 + 2 * k
  · rw [e, va_up_self, at_vl h]
    show _ = cI (cy 0) 48 (va_up c.2.2.2.1 k v k)
    rw [va_up_self]
  · rw [va_up_ne _ _ e]
    unfold cellA
    by_cases a1 : i < 6
    · rw [if_pos a1, if_pos a1]; rfl
    · rw [if_neg a1, if_neg a1]
      by_cases a2 : i < 22
      · rw [if_pos a2, if_pos a2]
        by_cases ek : (i - 6) / 2 = k
        · rw [ek, if_pos (by omega), if_pos (by omega)]; rfl
        · show _ = if (i - 6) % 2 = 0 then _ else cI (cy 0) 48 (va_up c.2.2.2.1 k v _)
          rw [va_up_ne _ _ ek]
          rfl
      · rw [if_neg a2, if_neg a2]; rfl
theorem up_sp {n0 : Nat} {cy : Nat → ClassId} {ad : Nat → Nat} {c : VC} {w : VW} {j0 : Nat} {t : VTx} {v : VSp} (hj : j0 < 6) (ho : ∀ j, j < 6 → j ≠ j0 → spC cy ad t v j = spC cy ad c.2.2.2.2.2.1 c.2.2.2.2.2.2 j) : ∀ i, i < n0 → va_up (cellA cy ad (c, w)) j0 (spC cy ad t v j0) i = cellA cy ad (sSp (sTx c t) v, w) i := by
  intro i hi
  by_cases e : i = j0
  · rw [e, va_up_self, at_sp hj]; rfl
  · rw [va_up_ne _ _ e]
    unfold cellA
    by_cases a1 : i < 6
    · rw [if_pos a1, if_pos a1]; exact (ho i a1 e).symm
    · rw [if_neg a1, if_neg a1]; rfl
theorem up_rw {n0 : Nat} {cy : Nat → ClassId} {ad : Nat → Nat} {c : VC} {w : VW} {j0 n : Nat} {f : Nat → Int32} : ∀ i, i < n0 → va_up (cellA cy ad (c, w)) (114 + j0) (cI (cy 0) n f) i = cellA cy ad (c, va_up w j0 (n, f)) i := by
  intro i hi
  by_cases e : i = 114 + j0
  · rw [e, va_up_self, at_rw, va_up_self]
  · rw [va_up_ne _ _ e]
    unfold cellA
    by_cases a1 : i < 6
    · rw [if_pos a1, if_pos a1]
    · rw [if_neg a1, if_neg a1]
      by_cases a2 : i < 22
      · rw [if_pos a2, if_pos a2]
      · rw [if_neg a2, if_neg a2]
        by_cases a3 : i < 78
        · rw [if_pos a3, if_pos a3]
        · rw [if_neg a3, if_neg a3]
          by_cases a4 : i < 96
          · rw [if_pos a4, if_pos a4]
          · rw [if_neg a4, if_neg a4]
            by_cases a5 : i < 114
            · rw [if_pos a5, if_pos a5]
            · rw [if_neg a5, if_neg a5]
              show cI (cy 0) (w (i - 114)).1 (w (i - 114)).2 = cI (cy 0) (va_up w j0 (n, f) (i - 114)).1 (va_up w j0 (n, f) (i - 114)).2
              rw [va_up_ne _ _ (by omega)]
/-- the rows of the law that begin at the row k -/
def sRw (w : VW) (k : Nat) (v : VRw) : VW := va_up (va_up (va_up (va_up (va_up w k (10, v.1)) (1 + k) (32, v.2.1)) (2 + k) (48, v.2.2.1)) (3 + k) (48, v.2.2.2.1)) (4 + k) (48, v.2.2.2.2)
theorem va_upc {α : Type} (f : Nat → α) {i j : Nat} (a b : α) (h : i ≠ j) : va_up (va_up f i a) j b = va_up (va_up f j b) i a := by
  funext q
  unfold va_up
  by_cases e : q = i
  · subst e; rw [if_neg h, if_pos rfl]; simp
  · simp [e]
theorem sRw_0 (w : VW) (k : Nat) (v : VRw) : sRw w k v k = (10, v.1) := by unfold sRw; rw [va_up_ne _ _ (by omega), va_up_ne _ _ (by omega), va_up_ne _ _ (by omega), va_up_ne _ _ (by omega), va_up_self]
theorem sRw_1 (w : VW) (k : Nat) (v : VRw) : sRw w k v (1 + k) = (32, v.2.1) := by unfold sRw; rw [va_up_ne _ _ (by omega), va_up_ne _ _ (by omega), va_up_ne _ _ (by omega), va_up_self]
theorem sRw_2 (w : VW) (k : Nat) (v : VRw) : sRw w k v (2 + k) = (48, v.2.2.1) := by unfold sRw; rw [va_up_ne _ _ (by omega), va_up_ne _ _ (by omega), va_up_self]
theorem sRw_3 (w : VW) (k : Nat) (v : VRw) : sRw w k v (3 + k) = (48, v.2.2.2.1) := by unfold sRw; rw [va_up_ne _ _ (by omega), va_up_self]
theorem sRw_4 (w : VW) (k : Nat) (v : VRw) : sRw w k v (4 + k) = (48, v.2.2.2.2) := by unfold sRw; rw [va_up_self]
theorem sRw_ne (w : VW) {k j : Nat} (v : VRw) (h : j < k ∨ k + 5 ≤ j) : sRw w k v j = w j := by unfold sRw; rw [va_up_ne _ _ (by omega), va_up_ne _ _ (by omega), va_up_ne _ _ (by omega), va_up_ne _ _ (by omega), va_up_ne _ _ (by omega)]
theorem sRw_ext {w w' : VW} {k : Nat} {v : VRw} (h0 : w' k = (10, v.1)) (h1 : w' (1 + k) = (32, v.2.1)) (h2 : w' (2 + k) = (48, v.2.2.1)) (h3 : w' (3 + k) = (48, v.2.2.2.1)) (h4 : w' (4 + k) = (48, v.2.2.2.2)) (h : ∀ j, j < k ∨ k + 5 ≤ j → w' j = w j) : w' = sRw w k v := by
  funext j
  by_cases e : j < k ∨ k + 5 ≤ j
  · rw [h j e, sRw_ne w v e]
  · rcases (show j = k ∨ j = 1 + k ∨ j = 2 + k ∨ j = 3 + k ∨ j = 4 + k by omega) with q | q | q | q | q <;> rw [q]
    · rw [h0, sRw_0]
    · rw [h1, sRw_1]
    · rw [h2, sRw_2]
    · rw [h3, sRw_3]
    · rw [h4, sRw_4]
theorem sRw_up (w : VW) (k : Nat) (a b : VRw) : sRw (sRw w k a) k b = sRw w k b := sRw_ext (sRw_0 _ _ _) (sRw_1 _ _ _) (sRw_2 _ _ _) (sRw_3 _ _ _) (sRw_4 _ _ _) (fun j h => by rw [sRw_ne _ _ h, sRw_ne _ _ h])
theorem sRw_u0 (w : VW) (k : Nat) (v : VRw) (f : Nat → Int32) : va_up (sRw w k v) k (10, f) = sRw w k (f, v.2) := sRw_ext (va_up_self _ _ _) (by rw [va_up_ne _ _ (by omega), sRw_1]) (by rw [va_up_ne _ _ (by omega), sRw_2]) (by rw [va_up_ne _ _ (by omega), sRw_3]) (by rw [va_up_ne _ _ (by omega), sRw_4]) (fun j h => by rw [va_up_ne _ _ (by omega), sRw_ne _ _ h])
theorem sRw_u1 (w : VW) (k : Nat) (v : VRw) (f : Nat → Int32) : va_up (sRw w k v) (1 + k) (32, f) = sRw w k (v.1, f, v.2.2) := sRw_ext (by rw [va_up_ne _ _ (by omega), sRw_0]) (va_up_self _ _ _) (by rw [va_up_ne _ _ (by omega), sRw_2]) (by rw [va_up_ne _ _ (by omega), sRw_3]) (by rw [va_up_ne _ _ (by omega), sRw_4]) (fun j h => by rw [va_up_ne _ _ (by omega), sRw_ne _ _ h])
theorem sRw_u2 (w : VW) (k : Nat) (v : VRw) (f : Nat → Int32) : va_up (sRw w k v) (2 + k) (48, f) = sRw w k (v.1, v.2.1, f, v.2.2.2) := sRw_ext (by rw [va_up_ne _ _ (by omega), sRw_0]) (by rw [va_up_ne _ _ (by omega), sRw_1]) (va_up_self _ _ _) (by rw [va_up_ne _ _ (by omega), sRw_3]) (by rw [va_up_ne _ _ (by omega), sRw_4]) (fun j h => by rw [va_up_ne _ _ (by omega), sRw_ne _ _ h])
theorem sRw_u3 (w : VW) (k : Nat) (v : VRw) (f : Nat → Int32) : va_up (sRw w k v) (3 + k) (48, f) = sRw w k (v.1, v.2.1, v.2.2.1, f, v.2.2.2.2) := sRw_ext (by rw [va_up_ne _ _ (by omega), sRw_0]) (by rw [va_up_ne _ _ (by omega), sRw_1]) (by rw [va_up_ne _ _ (by omega), sRw_2]) (va_up_self _ _ _) (by rw [va_up_ne _ _ (by omega), sRw_4]) (fun j h => by rw [va_up_ne _ _ (by omega), sRw_ne _ _ h])
theorem sRw_u4 (w : VW) (k : Nat) (v : VRw) (f : Nat → Int32) : va_up (sRw w k v) (4 + k) (48, f) = sRw w k (v.1, v.2.1, v.2.2.1, v.2.2.2.1, f) := sRw_ext (by rw [va_up_ne _ _ (by omega), sRw_0]) (by rw [va_up_ne _ _ (by omega), sRw_1]) (by rw [va_up_ne _ _ (by omega), sRw_2]) (by rw [va_up_ne _ _ (by omega), sRw_3]) (va_up_self _ _ _) (fun j h => by rw [va_up_ne _ _ (by omega), sRw_ne _ _ h])
/-- what stands in the class's cells hangs on the class's addresses alone -/
theorem cellA_cg {cy : Nat → ClassId} {ad ad' : Nat → Nat} {V V' : VA} {i : Nat} (hV : V'.1 = V.1) (ha : ∀ j, j < 114 → ad' j = ad j) (hi : i < 114) : cellA cy ad' V' i = cellA cy ad V i := by
  unfold cellA
  rw [hV]
  by_cases a1 : i < 6
  · rw [if_pos a1, if_pos a1]
    rcases (show i = 0 ∨ i = 1 ∨ i = 2 ∨ i = 3 ∨ i = 4 ∨ i = 5 by omega) with rfl | rfl | rfl | rfl | rfl | rfl
    · show cSp ad' _ = cSp ad _
      unfold cSp
      rw [ha 6 (by omega), ha 8 (by omega), ha 1 (by omega), ha 2 (by omega), ha 94 (by omega), ha 112 (by omega)]
    · show cSv cy ad' _ = cSv cy ad _
      unfold cSv
      have e : (fun i => some (ad' (6 + 2 * min (V.1.2.2.2.2.2.2.2.2 i) 7))) = (fun i => some (ad (6 + 2 * min (V.1.2.2.2.2.2.2.2.2 i) 7))) := by
        funext i
        rw [ha _ (by omega)]
      rw [e]
    · show cTx ad' _ = cTx ad _
      unfold cTx
      rw [ha 3 (by omega), ha 4 (by omega), ha 5 (by omega)]
    · rfl
    · rfl
    · rfl
  · rw [if_neg a1, if_neg a1]
    by_cases a2 : i < 22
    · rw [if_pos a2, if_pos a2]
      by_cases b : (i - 6) % 2 = 0
      · rw [if_pos b, if_pos b]
        unfold cSt
        rw [ha _ (by omega), ha _ (by omega), ha _ (by omega), ha _ (by omega)]
      · rw [if_neg b, if_neg b]
    · rw [if_neg a2, if_neg a2]
      by_cases a3 : i < 78
      · rw [if_pos a3, if_pos a3]
        unfold skC cSk
        rw [ha _ (by omega), ha _ (by omega), ha _ (by omega), ha _ (by omega), ha _ (by omega), ha _ (by omega)]
      · rw [if_neg a3, if_neg a3]
        by_cases a4 : i < 96
        · rw [if_pos a4, if_pos a4]
          by_cases b : (i - 78) % 2 = 0
          · rw [if_pos b, if_pos b]
            unfold cLy
            rw [ha _ (by omega)]
          · rw [if_neg b, if_neg b]
        · rw [if_neg a4, if_neg a4, if_pos hi, if_pos hi]
          by_cases b : (i - 96) % 2 = 0
          · rw [if_pos b, if_pos b]
            unfold cCk
            rw [ha _ (by omega)]
          · rw [if_neg b, if_neg b]
end
section
-- ===== the walk's context =====
abbrev GG : Type := va_G × (Nat → ClassId) × (Nat → Nat)
abbrev WX : Type := Program × Launch × Env × Room × State × MethodId × Array Value × List Frame × Method × Code × Nat × Nat
abbrev xp (X : WX) : Program := X.1
abbrev xl (X : WX) : Launch := X.2.1
abbrev xe (X : WX) : Env := X.2.2.1
abbrev xR (X : WX) : Room := X.2.2.2.1
abbrev xs (X : WX) : State := X.2.2.2.2.1
abbrev xm (X : WX) : MethodId := X.2.2.2.2.2.1
abbrev xa (X : WX) : Array Value := X.2.2.2.2.2.2.1
abbrev xb (X : WX) : List Frame := X.2.2.2.2.2.2.2.1
abbrev xM (X : WX) : Method := X.2.2.2.2.2.2.2.2.1
abbrev xc (X : WX) : Code := X.2.2.2.2.2.2.2.2.2.1
abbrev xk (X : WX) : Nat := X.2.2.2.2.2.2.2.2.2.2.1
abbrev xz (X : WX) : Nat := X.2.2.2.2.2.2.2.2.2.2.2
abbrev xW (X : WX) (H : Heap) (locs : List Loc) (Q : State → Prop) (g : JFrame) : Prop := W (xp X) (xl X) (xe X) (xR X) (xs X) (xm X) (xa X) (xb X) (xM X) (xc X) H locs (xk X) (xz X) Q g
abbrev nG (G : GG) : Nat := G.2.2 1000
def wld (G : GG) (V : VA) : va_W := (List.range (nG G)).map (fun i => (G.2.2 i, cellA G.2.1 G.2.2 V i))
def tysG (G : GG) : List (ClassId × FieldType) := [(G.2.1 0, .int), (G.2.1 1, .boolean), (G.2.1 2, .object "StickPairs$State")]
def Gok (G : GG) : Prop := 119 ≤ nG G ∧ ∀ i j, i < nG G → j < nG G → G.2.2 i = G.2.2 j → i = j
theorem nG_lt {G : GG} (h : Gok G) {q : Nat} (hq : q < 119) : q < nG G := Nat.lt_of_lt_of_le hq h.1
def AA (G : GG) (sz : Nat) : Nat → Prop := fun q => (∃ i, i < nG G ∧ q = G.2.2 i) ∨ sz ≤ q
def nestW : List Cond := (tables_1.filter (fun w => match w with
  | .methodLinkNest .. => true
  | .fieldLinkNest .. => true
  | .castable .. => true
  | .declares .. => true
  | _ => false))
def WK (G : GG) (U : State) : Prop := va_K G.1 vwCl (tysG G) U ∧ ∀ w ∈ nestW, va_Nw w U
theorem nestW_warm {w : Cond} (h : w ∈ nestW) {s U : State} (hW : s.WarmedH U.vm) (hZ : va_Nw w s) : va_Nw w U := by
  have h2 := (List.mem_filter.mp h).2
  cases w <;> first | (simp at h2; done) | exact hZ.warmM hW | exact hZ.warmF hW | exact hZ.warmC hW | exact hZ.warmD hW
theorem nestW_tab {w : Cond} (h : w ∈ nestW) : w.onTables = true := by
  have h2 := (List.mem_filter.mp h).2
  cases w <;> first | (simp at h2; done) | rfl
theorem WK.warm {G : GG} {s U : State} (hW : s.WarmedH U.vm) (h : WK G s) : WK G U := ⟨va_K.moved hW.alike h.1, fun w hw => nestW_warm hw hW (h.2 w hw)⟩
theorem WK.call {G : GG} {U : State} (g : JFrame) (mk : MethodId) (a : Array Value) (h : WK G U) : WK G (U.calling g mk a) := ⟨va_K.moved (u := U) (U := U.calling g mk a) (Vm.Alike.refl U.vm) h.1, fun w hw => va_Nw.same (u := U) (U := U.calling g mk a) (nestW_tab hw) rfl (h.2 w hw)⟩
def Cx (G : GG) (nL : Nat) (X : WX) (own : String) (cc : ByteArray) (d : Nat) : Prop :=
  (xp X).tables.exec = Jvm.exec ∧ (xc X).code = cc ∧ (xc X).maxLocals = nL ∧ (xs X).vm.findClass own = some (xm X).cls ∧ (∀ w ∈ gw, w.before (xa X) (xs X) = true) ∧ WK G (xs X) ∧ Gok G ∧ (xM X).locks = false ∧ d ≤ (xR X).frames ∧ 35 * d ≤ (xR X).locals ∧ xk X ≤ (xR X).cells ∧ xz X ≤ (xR X).slots
theorem wld_at (G : GG) (V : VA) {i : Nat} (h : i < nG G) : (wld G V)[i]? = some (G.2.2 i, cellA G.2.1 G.2.2 V i) := by
  unfold wld
  rw [List.getElem?_map, List.getElem?_range h]; rfl
theorem wld_len (G : GG) (V : VA) : (wld G V).length = nG G := by unfold wld; rw [List.length_map, List.length_range]
theorem wld_lt {G : GG} {V : VA} {i : Nat} {q : Nat × va_E} (h : (wld G V)[i]? = some q) : i < nG G := by
  have := (List.getElem?_eq_some_iff.mp h).1
  rw [wld_len] at this
  exact this
theorem wld_fst {G : GG} {V : VA} {i : Nat} {q : Nat × va_E} (h : (wld G V)[i]? = some q) : q = (G.2.2 i, cellA G.2.1 G.2.2 V i) := by
  rw [wld_at G V (wld_lt h)] at h
  exact (Option.some.inj h).symm
theorem wld_D {G : GG} (hG : Gok G) (V : VA) (sz : Nat) : va_D (AA G sz) (wld G V) :=
  ⟨fun i j p q hi hj e => by
    have h1 := wld_fst hi
    have h2 := wld_fst hj
    subst h1; subst h2
    exact hG.2 i j (wld_lt hi) (wld_lt hj) e,
   fun k q h => by
    have h1 := wld_fst h
    subst h1
    exact Or.inl ⟨k, wld_lt h, rfl⟩⟩
theorem wld_set {G : GG} {V V' : VA} {i : Nat} {x : va_E} (hi : i < nG G) (h : ∀ j, j < nG G → va_up (cellA G.2.1 G.2.2 V) i x j = cellA G.2.1 G.2.2 V' j) : (wld G V).set i (G.2.2 i, x) = wld G V' := by
  apply List.ext_getElem?
  intro j
  rw [List.getElem?_set]
  by_cases hj : j < nG G
  · rw [wld_at G V' hj, ← h j hj]
    by_cases e : i = j
    · subst e
      rw [if_pos rfl, if_pos (by rw [wld_len]; exact hi), va_up_self]
    · rw [if_neg e, wld_at G V hj, va_up_ne _ _ (fun z => e z.symm)]
  · have h1 : (wld G V')[j]? = none := List.getElem?_eq_none (by rw [wld_len]; omega)
    have h2 : (wld G V)[j]? = none := List.getElem?_eq_none (by rw [wld_len]; omega)
    rw [h1, if_neg (by omega), h2]
-- ===== the judgement: from here on the machine comes to Q, for the result that the program's picture sp has (none: nothing is said) =====
def J (G : GG) (nL : Nat) (X : WX) (Q : State → Prop) (V : VA) (pc : Nat) (L : List (Nat × Value)) (st : List Value) : Prop :=
  ∀ (H : Heap) (locs : List Loc) (ls : Array Slot), va_P G.1 vwCl (wld G V) H → va_S (AA G (xs X).heap.size) (xs X).heap H locs → lv_has ls nL L → xW X H locs Q (F0 (xm X) pc ls st)
def JS {ρ : Type} (G : GG) (nL : Nat) (X : WX) (Q : ρ → State → Prop) (sp : Option ρ) (V : VA) (pc : Nat) (L : List (Nat × Value)) (st : List Value) : Prop :=
  ∀ x, sp = some x → J G nL X (Q x) V pc L st
def ard (n : Nat) (f : Nat → Int32) (i : Int32) : Option Int32 := if i < 0 ∨ n ≤ i.toNatClampNeg then none else some (f i.toNatClampNeg)
def aup (n : Nat) (f : Nat → Int32) (i x : Int32) : Option (Nat → Int32) := if i < 0 ∨ n ≤ i.toNatClampNeg then none else some (upd f i.toNatClampNeg x)
def aupz (n : Nat) (f : Nat → Int32) (i x : Int32) : Option (Nat → Int32) := if i < 0 ∨ n ≤ i.toNatClampNeg then none else some (upd f i.toNatClampNeg (vp_nar .boolean x))
def acp (n0 n1 : Nat) (f g : Nat → Int32) (sp dp n : Int32) : Option (Nat → Int32) :=
  if sp < 0 ∨ dp < 0 ∨ n < 0 ∨ n0 < sp.toNatClampNeg + n.toNatClampNeg ∨ n1 < dp.toNatClampNeg + n.toNatClampNeg then none else some (va_cpy f g sp.toNatClampNeg dp.toNatClampNeg n.toNatClampNeg)
def rdp (n : Nat) (f : Nat → Nat) (i : Int32) : Option Nat := if i < 0 ∨ n ≤ i.toNatClampNeg then none else if 2 ≤ f i.toNatClampNeg ∧ f i.toNatClampNeg < 8 then some (f i.toNatClampNeg) else none
def wrp (n : Nat) (f : Nat → Nat) (i : Int32) (x : Nat) : Option (Nat → Nat) := if i < 0 ∨ n ≤ i.toNatClampNeg then none else if x < 8 then some (va_up f i.toNatClampNeg x) else none
def bck (x : Int32) : Option Int32 := if x = 0 ∨ x = 1 then some x else none
def dck (x : UInt64) : Option UInt64 := if x &&& 0x7fffffffffffffff ≤ 0x7ff0000000000000 then some x else none
def fck (x : UInt32) : Option UInt32 := if x &&& 0x7fffffff ≤ 0x7f800000 then some x else none
theorem ard_in {n : Nat} {f : Nat → Int32} {i x : Int32} (h : ard n f i = some x) : vp_in i n ∧ x = f i.toNatClampNeg := by
  unfold ard at h
  split at h
  · cases h
  · next q => cases h; exact ⟨q, rfl⟩
theorem aup_in {n : Nat} {f g : Nat → Int32} {i x : Int32} (h : aup n f i x = some g) : vp_in i n ∧ g = upd f i.toNatClampNeg x := by
  unfold aup at h
  split at h
  · cases h
  · next q => cases h; exact ⟨q, rfl⟩
theorem aupz_in {n : Nat} {f g : Nat → Int32} {i x : Int32} (h : aupz n f i x = some g) : vp_in i n ∧ g = upd f i.toNatClampNeg (vp_nar .boolean x) := by
  unfold aupz at h
  split at h
  · cases h
  · next q => cases h; exact ⟨q, rfl⟩
theorem rdp_in {n : Nat} {f : Nat → Nat} {i : Int32} {x : Nat} (h : rdp n f i = some x) : vp_in i n ∧ x = f i.toNatClampNeg ∧ 2 ≤ x ∧ x < 8 := by
  unfold rdp at h
  split at h
  · cases h
  · next q =>
    split at h
    · next q2 => cases h; exact ⟨q, rfl, q2⟩
    · cases h
theorem wrp_in {n : Nat} {f g : Nat → Nat} {i : Int32} {x : Nat} (h : wrp n f i x = some g) : vp_in i n ∧ g = va_up f i.toNatClampNeg x ∧ x < 8 := by
  unfold wrp at h
  split at h
  · cases h
  · next q =>
    split at h
    · next q2 => cases h; exact ⟨q, rfl, q2⟩
    · cases h
section
variable {ρ : Type} {G : GG} {nL : Nat} {X : WX} {Q : ρ → State → Prop} {sp : Option ρ} {V : VA} {L : List (Nat × Value)} {st : List Value} {own : String} {cc : ByteArray} {d : Nat}
theorem j_none {pc : Nat} : JS G nL X Q none V pc L st := fun _ h => by cases h
theorem j_bind {α : Type} {f : Option α} {k : α → Option ρ} {pc : Nat} (h : ∀ a, f = some a → JS G nL X Q (k a) V pc L st) : JS G nL X Q (f.bind k) V pc L st := by
  intro x hx
  cases e : f with
  | none => rw [e] at hx; cases hx
  | some a => rw [e] at hx; exact h a e x hx
theorem j_V {V' : VA} {pc : Nat} (h : V = V') (k : JS G nL X Q sp V' pc L st) : JS G nL X Q sp V pc L st := h ▸ k
theorem j_L {L' : List (Nat × Value)} {pc : Nat} (ks : List Nat) (hl : lv_pick L ks = L') (k : JS G nL X Q sp V pc L' st) : JS G nL X Q sp V pc L st := fun x0 h0 H locs ls hP hS h => k x0 h0 H locs ls hP hS (lv_sub h ks hl)
theorem j_iconst (C : Cx G nL X own cc d) {n : Int} {v : Int32} (pc : Nat) (hd : decode cc pc = .ok (.iconst n, 1)) (hv : Int32.ofInt n = v)
    (k : JS G nL X Q sp V (pc + 1) L (.int v :: st)) : JS G nL X Q sp V pc L st :=
  fun x0 h0 H locs ls hP hS hl => lv_iconst C.1 C.2.1 hd hv (k x0 h0 H locs ls hP hS hl)
theorem j_bipush (C : Cx G nL X own cc d) {n : Int} {v : Int32} (pc : Nat) (hd : decode cc pc = .ok (.bipush n, 2)) (hv : (Int8.ofInt n).toInt32 = v)
    (k : JS G nL X Q sp V (pc + 2) L (.int v :: st)) : JS G nL X Q sp V pc L st :=
  fun x0 h0 H locs ls hP hS hl => lv_bipush C.1 C.2.1 hd hv (k x0 h0 H locs ls hP hS hl)
theorem j_sipush (C : Cx G nL X own cc d) {n : Int} {v : Int32} (pc : Nat) (hd : decode cc pc = .ok (.sipush n, 3)) (hv : (Int16.ofInt n).toInt32 = v)
    (k : JS G nL X Q sp V (pc + 3) L (.int v :: st)) : JS G nL X Q sp V pc L st :=
  fun x0 h0 H locs ls hP hS hl => lv_sipush C.1 C.2.1 hd hv (k x0 h0 H locs ls hP hS hl)
theorem j_lconst (C : Cx G nL X own cc d) {n : Fin 2} {v : Int64} (pc : Nat) (hd : decode cc pc = .ok (.lconst n, 1)) (hv : Int64.ofNat (n : Nat) = v)
    (k : JS G nL X Q sp V (pc + 1) L (.long v :: st)) : JS G nL X Q sp V pc L st :=
  fun x0 h0 H locs ls hP hS hl => lv_lconst C.1 C.2.1 hd hv (k x0 h0 H locs ls hP hS hl)
theorem j_iload_n (C : Cx G nL X own cc d) {n : Fin 4} {x : Int32} (pc : Nat) (q : Nat) (hq : L[q]? = some ((n : Nat), .int x)) (hd : decode cc pc = .ok (.iload_n n, 1))
    (k : JS G nL X Q sp V (pc + 1) L (.int x :: st)) : JS G nL X Q sp V pc L st :=
  fun x0 h0 H locs ls hP hS hl => lv_iload_n C.1 C.2.1 hd rfl (lv_at hl q hq) (k x0 h0 H locs ls hP hS hl)
theorem j_iload (C : Cx G nL X own cc d) {n : Nat} {x : Int32} (pc : Nat) (q : Nat) (hq : L[q]? = some (n, .int x)) (hd : decode cc pc = .ok (.iload n, 2))
    (k : JS G nL X Q sp V (pc + 2) L (.int x :: st)) : JS G nL X Q sp V pc L st :=
  fun x0 h0 H locs ls hP hS hl => lv_iload C.1 C.2.1 hd (lv_at hl q hq) (k x0 h0 H locs ls hP hS hl)
theorem j_lload_n (C : Cx G nL X own cc d) {n : Fin 4} {x : Int64} (pc : Nat) (q : Nat) (hq : L[q]? = some ((n : Nat), .long x)) (hd : decode cc pc = .ok (.lload_n n, 1))
    (k : JS G nL X Q sp V (pc + 1) L (.long x :: st)) : JS G nL X Q sp V pc L st :=
  fun x0 h0 H locs ls hP hS hl => lv_lload_n C.1 C.2.1 hd rfl (lv_at hl q hq) (k x0 h0 H locs ls hP hS hl)
theorem j_lload (C : Cx G nL X own cc d) {n : Nat} {x : Int64} (pc : Nat) (q : Nat) (hq : L[q]? = some (n, .long x)) (hd : decode cc pc = .ok (.lload n, 2))
    (k : JS G nL X Q sp V (pc + 2) L (.long x :: st)) : JS G nL X Q sp V pc L st :=
  fun x0 h0 H locs ls hP hS hl => lv_lload C.1 C.2.1 hd (lv_at hl q hq) (k x0 h0 H locs ls hP hS hl)
theorem j_fload_n (C : Cx G nL X own cc d) {n : Fin 4} {x : UInt32} (pc : Nat) (q : Nat) (hq : L[q]? = some ((n : Nat), .float x)) (hd : decode cc pc = .ok (.fload_n n, 1))
    (k : JS G nL X Q sp V (pc + 1) L (.float x :: st)) : JS G nL X Q sp V pc L st :=
  fun x0 h0 H locs ls hP hS hl => lv_fload_n C.1 C.2.1 hd rfl (lv_at hl q hq) (k x0 h0 H locs ls hP hS hl)
theorem j_fload (C : Cx G nL X own cc d) {n : Nat} {x : UInt32} (pc : Nat) (q : Nat) (hq : L[q]? = some (n, .float x)) (hd : decode cc pc = .ok (.fload n, 2))
    (k : JS G nL X Q sp V (pc + 2) L (.float x :: st)) : JS G nL X Q sp V pc L st :=
  fun x0 h0 H locs ls hP hS hl => lv_fload C.1 C.2.1 hd (lv_at hl q hq) (k x0 h0 H locs ls hP hS hl)
theorem j_dload_n (C : Cx G nL X own cc d) {n : Fin 4} {x : UInt64} (pc : Nat) (q : Nat) (hq : L[q]? = some ((n : Nat), .double x)) (hd : decode cc pc = .ok (.dload_n n, 1))
    (k : JS G nL X Q sp V (pc + 1) L (.double x :: st)) : JS G nL X Q sp V pc L st :=
  fun x0 h0 H locs ls hP hS hl => lv_dload_n C.1 C.2.1 hd rfl (lv_at hl q hq) (k x0 h0 H locs ls hP hS hl)
theorem j_dload (C : Cx G nL X own cc d) {n : Nat} {x : UInt64} (pc : Nat) (q : Nat) (hq : L[q]? = some (n, .double x)) (hd : decode cc pc = .ok (.dload n, 2))
    (k : JS G nL X Q sp V (pc + 2) L (.double x :: st)) : JS G nL X Q sp V pc L st :=
  fun x0 h0 H locs ls hP hS hl => lv_dload C.1 C.2.1 hd (lv_at hl q hq) (k x0 h0 H locs ls hP hS hl)
theorem j_aload_n (C : Cx G nL X own cc d) {n : Fin 4} {x : Nat} (pc : Nat) (q : Nat) (hq : L[q]? = some ((n : Nat), .ref x)) (hd : decode cc pc = .ok (.aload_n n, 1))
    (k : JS G nL X Q sp V (pc + 1) L (.ref x :: st)) : JS G nL X Q sp V pc L st :=
  fun x0 h0 H locs ls hP hS hl => lv_aload_n C.1 C.2.1 hd rfl (lv_at hl q hq) (k x0 h0 H locs ls hP hS hl)
theorem j_aload (C : Cx G nL X own cc d) {n : Nat} {x : Nat} (pc : Nat) (q : Nat) (hq : L[q]? = some (n, .ref x)) (hd : decode cc pc = .ok (.aload n, 2))
    (k : JS G nL X Q sp V (pc + 2) L (.ref x :: st)) : JS G nL X Q sp V pc L st :=
  fun x0 h0 H locs ls hP hS hl => lv_aload C.1 C.2.1 hd (lv_at hl q hq) (k x0 h0 H locs ls hP hS hl)
theorem j_istore_n (C : Cx G nL X own cc d) {n : Fin 4} {i : Nat} {x : Int32} {L1 : List (Nat × Value)} (pc : Nat) (hi : (n : Nat) = i) (hd : decode cc pc = .ok (.istore_n n, 1)) (hn : i < nL) (hl : (i, Value.int x) :: L.filter (fun q => !(q.1 == i) && !(q.1 + 1 == i && q.2.category == 2)) = L1)
    (k : JS G nL X Q sp V (pc + 1) L1 st) : JS G nL X Q sp V pc L (.int x :: st) :=
  fun x0 h0 H locs ls hP hS h => lv_istore_n C.1 C.2.1 hd hi h hn hl (fun ls1 h1 => k x0 h0 H locs ls1 hP hS h1)
theorem j_istore (C : Cx G nL X own cc d) {i : Nat} {x : Int32} {L1 : List (Nat × Value)} (pc : Nat) (hd : decode cc pc = .ok (.istore i, 2)) (hn : i < nL) (hl : (i, Value.int x) :: L.filter (fun q => !(q.1 == i) && !(q.1 + 1 == i && q.2.category == 2)) = L1)
    (k : JS G nL X Q sp V (pc + 2) L1 st) : JS G nL X Q sp V pc L (.int x :: st) :=
  fun x0 h0 H locs ls hP hS h => lv_istore C.1 C.2.1 hd h hn hl (fun ls1 h1 => k x0 h0 H locs ls1 hP hS h1)
theorem j_fstore_n (C : Cx G nL X own cc d) {n : Fin 4} {i : Nat} {x : UInt32} {L1 : List (Nat × Value)} (pc : Nat) (hi : (n : Nat) = i) (hd : decode cc pc = .ok (.fstore_n n, 1)) (hn : i < nL) (hl : (i, Value.float x) :: L.filter (fun q => !(q.1 == i) && !(q.1 + 1 == i && q.2.category == 2)) = L1)
    (k : JS G nL X Q sp V (pc + 1) L1 st) : JS G nL X Q sp V pc L (.float x :: st) :=
  fun x0 h0 H locs ls hP hS h => lv_fstore_n C.1 C.2.1 hd hi h hn hl (fun ls1 h1 => k x0 h0 H locs ls1 hP hS h1)
theorem j_fstore (C : Cx G nL X own cc d) {i : Nat} {x : UInt32} {L1 : List (Nat × Value)} (pc : Nat) (hd : decode cc pc = .ok (.fstore i, 2)) (hn : i < nL) (hl : (i, Value.float x) :: L.filter (fun q => !(q.1 == i) && !(q.1 + 1 == i && q.2.category == 2)) = L1)
    (k : JS G nL X Q sp V (pc + 2) L1 st) : JS G nL X Q sp V pc L (.float x :: st) :=
  fun x0 h0 H locs ls hP hS h => lv_fstore C.1 C.2.1 hd h hn hl (fun ls1 h1 => k x0 h0 H locs ls1 hP hS h1)
theorem j_astore_n (C : Cx G nL X own cc d) {n : Fin 4} {i : Nat} {x : Nat} {L1 : List (Nat × Value)} (pc : Nat) (hi : (n : Nat) = i) (hd : decode cc pc = .ok (.astore_n n, 1)) (hn : i < nL) (hl : (i, Value.ref x) :: L.filter (fun q => !(q.1 == i) && !(q.1 + 1 == i && q.2.category == 2)) = L1)
    (k : JS G nL X Q sp V (pc + 1) L1 st) : JS G nL X Q sp V pc L (.ref x :: st) :=
  fun x0 h0 H locs ls hP hS h => lv_astore_n C.1 C.2.1 hd hi h hn hl (fun ls1 h1 => k x0 h0 H locs ls1 hP hS h1)
theorem j_astore (C : Cx G nL X own cc d) {i : Nat} {x : Nat} {L1 : List (Nat × Value)} (pc : Nat) (hd : decode cc pc = .ok (.astore i, 2)) (hn : i < nL) (hl : (i, Value.ref x) :: L.filter (fun q => !(q.1 == i) && !(q.1 + 1 == i && q.2.category == 2)) = L1)
    (k : JS G nL X Q sp V (pc + 2) L1 st) : JS G nL X Q sp V pc L (.ref x :: st) :=
  fun x0 h0 H locs ls hP hS h => lv_astore C.1 C.2.1 hd h hn hl (fun ls1 h1 => k x0 h0 H locs ls1 hP hS h1)
theorem j_lstore_n (C : Cx G nL X own cc d) {n : Fin 4} {i : Nat} {x : Int64} {L1 : List (Nat × Value)} (pc : Nat) (hi : (n : Nat) = i) (hd : decode cc pc = .ok (.lstore_n n, 1)) (hn : i + 1 < nL) (hl : (i, Value.long x) :: L.filter (fun q => !(q.1 == i) && (!(q.1 == i + 1) && !(q.1 + 1 == i && q.2.category == 2))) = L1)
    (k : JS G nL X Q sp V (pc + 1) L1 st) : JS G nL X Q sp V pc L (.long x :: st) :=
  fun x0 h0 H locs ls hP hS h => lv_lstore_n C.1 C.2.1 hd hi h hn hl (fun ls1 h1 => k x0 h0 H locs ls1 hP hS h1)
theorem j_lstore (C : Cx G nL X own cc d) {i : Nat} {x : Int64} {L1 : List (Nat × Value)} (pc : Nat) (hd : decode cc pc = .ok (.lstore i, 2)) (hn : i + 1 < nL) (hl : (i, Value.long x) :: L.filter (fun q => !(q.1 == i) && (!(q.1 == i + 1) && !(q.1 + 1 == i && q.2.category == 2))) = L1)
    (k : JS G nL X Q sp V (pc + 2) L1 st) : JS G nL X Q sp V pc L (.long x :: st) :=
  fun x0 h0 H locs ls hP hS h => lv_lstore C.1 C.2.1 hd h hn hl (fun ls1 h1 => k x0 h0 H locs ls1 hP hS h1)
theorem j_dstore_n (C : Cx G nL X own cc d) {n : Fin 4} {i : Nat} {x : UInt64} {L1 : List (Nat × Value)} (pc : Nat) (hi : (n : Nat) = i) (hd : decode cc pc = .ok (.dstore_n n, 1)) (hn : i + 1 < nL) (hl : (i, Value.double x) :: L.filter (fun q => !(q.1 == i) && (!(q.1 == i + 1) && !(q.1 + 1 == i && q.2.category == 2))) = L1)
    (k : JS G nL X Q sp V (pc + 1) L1 st) : JS G nL X Q sp V pc L (.double x :: st) :=
  fun x0 h0 H locs ls hP hS h => lv_dstore_n C.1 C.2.1 hd hi h hn hl (fun ls1 h1 => k x0 h0 H locs ls1 hP hS h1)
theorem j_dstore (C : Cx G nL X own cc d) {i : Nat} {x : UInt64} {L1 : List (Nat × Value)} (pc : Nat) (hd : decode cc pc = .ok (.dstore i, 2)) (hn : i + 1 < nL) (hl : (i, Value.double x) :: L.filter (fun q => !(q.1 == i) && (!(q.1 == i + 1) && !(q.1 + 1 == i && q.2.category == 2))) = L1)
    (k : JS G nL X Q sp V (pc + 2) L1 st) : JS G nL X Q sp V pc L (.double x :: st) :=
  fun x0 h0 H locs ls hP hS h => lv_dstore C.1 C.2.1 hd h hn hl (fun ls1 h1 => k x0 h0 H locs ls1 hP hS h1)
theorem j_iinc (C : Cx G nL X own cc d) {i : Nat} {n : Int} {x v : Int32} {L1 : List (Nat × Value)} (pc : Nat) (q : Nat) (hq : L[q]? = some (i, .int x)) (hd : decode cc pc = .ok (.iinc i n, 3)) (hv : x + Int32.ofInt n = v) (hn : i < nL) (hl : (i, Value.int v) :: L.filter (fun q => !(q.1 == i) && !(q.1 + 1 == i && q.2.category == 2)) = L1)
    (k : JS G nL X Q sp V (pc + 3) L1 st) : JS G nL X Q sp V pc L st :=
  fun x0 h0 H locs ls hP hS h => lv_iinc C.1 C.2.1 hd h hq hv hn hl (fun ls1 h1 => k x0 h0 H locs ls1 hP hS h1)
theorem j_iadd (C : Cx G nL X own cc d) {x y : Int32} (pc : Nat) (hd : decode cc pc = .ok (.iadd, 1)) 
    (k : JS G nL X Q sp V (pc + 1) L (.int (x + y) :: st)) : JS G nL X Q sp V pc L (.int y :: .int x :: st) :=
  fun x0 h0 H locs ls hP hS hl => lv_iadd C.1 C.2.1 hd  (k x0 h0 H locs ls hP hS hl)
theorem j_isub (C : Cx G nL X own cc d) {x y : Int32} (pc : Nat) (hd : decode cc pc = .ok (.isub, 1)) 
    (k : JS G nL X Q sp V (pc + 1) L (.int (x - y) :: st)) : JS G nL X Q sp V pc L (.int y :: .int x :: st) :=
  fun x0 h0 H locs ls hP hS hl => lv_isub C.1 C.2.1 hd  (k x0 h0 H locs ls hP hS hl)
theorem j_imul (C : Cx G nL X own cc d) {x y : Int32} (pc : Nat) (hd : decode cc pc = .ok (.imul, 1)) 
    (k : JS G nL X Q sp V (pc + 1) L (.int (x * y) :: st)) : JS G nL X Q sp V pc L (.int y :: .int x :: st) :=
  fun x0 h0 H locs ls hP hS hl => lv_imul C.1 C.2.1 hd  (k x0 h0 H locs ls hP hS hl)
theorem j_iand (C : Cx G nL X own cc d) {x y : Int32} (pc : Nat) (hd : decode cc pc = .ok (.iand, 1)) 
    (k : JS G nL X Q sp V (pc + 1) L (.int (x &&& y) :: st)) : JS G nL X Q sp V pc L (.int y :: .int x :: st) :=
  fun x0 h0 H locs ls hP hS hl => lv_iand C.1 C.2.1 hd  (k x0 h0 H locs ls hP hS hl)
theorem j_ishr (C : Cx G nL X own cc d) {x y : Int32} (pc : Nat) (hd : decode cc pc = .ok (.ishr, 1)) 
    (k : JS G nL X Q sp V (pc + 1) L (.int (x >>> (y &&& 31)) :: st)) : JS G nL X Q sp V pc L (.int y :: .int x :: st) :=
  fun x0 h0 H locs ls hP hS hl => lv_ishr C.1 C.2.1 hd  (k x0 h0 H locs ls hP hS hl)
theorem j_idiv (C : Cx G nL X own cc d) {x y : Int32} (pc : Nat) (hd : decode cc pc = .ok (.idiv, 1)) (hn : ¬ y = 0)
    (k : JS G nL X Q sp V (pc + 1) L (.int (x / y) :: st)) : JS G nL X Q sp V pc L (.int y :: .int x :: st) :=
  fun x0 h0 H locs ls hP hS hl => lv_idiv C.1 C.2.1 hd hn (k x0 h0 H locs ls hP hS hl)
theorem j_irem (C : Cx G nL X own cc d) {x y : Int32} (pc : Nat) (hd : decode cc pc = .ok (.irem, 1)) (hn : ¬ y = 0)
    (k : JS G nL X Q sp V (pc + 1) L (.int (x - x / y * y) :: st)) : JS G nL X Q sp V pc L (.int y :: .int x :: st) :=
  fun x0 h0 H locs ls hP hS hl => lv_irem C.1 C.2.1 hd hn (k x0 h0 H locs ls hP hS hl)
theorem j_ladd (C : Cx G nL X own cc d) {x y : Int64} (pc : Nat) (hd : decode cc pc = .ok (.ladd, 1)) 
    (k : JS G nL X Q sp V (pc + 1) L (.long (x + y) :: st)) : JS G nL X Q sp V pc L (.long y :: .long x :: st) :=
  fun x0 h0 H locs ls hP hS hl => lv_ladd C.1 C.2.1 hd  (k x0 h0 H locs ls hP hS hl)
theorem j_lmul (C : Cx G nL X own cc d) {x y : Int64} (pc : Nat) (hd : decode cc pc = .ok (.lmul, 1)) 
    (k : JS G nL X Q sp V (pc + 1) L (.long (x * y) :: st)) : JS G nL X Q sp V pc L (.long y :: .long x :: st) :=
  fun x0 h0 H locs ls hP hS hl => lv_lmul C.1 C.2.1 hd  (k x0 h0 H locs ls hP hS hl)
theorem j_lshl (C : Cx G nL X own cc d) {x : Int64} {y : Int32} (pc : Nat) (hd : decode cc pc = .ok (.lshl, 1)) 
    (k : JS G nL X Q sp V (pc + 1) L (.long (x <<< (y.toInt64 &&& 63)) :: st)) : JS G nL X Q sp V pc L (.int y :: .long x :: st) :=
  fun x0 h0 H locs ls hP hS hl => lv_lshl C.1 C.2.1 hd rfl (k x0 h0 H locs ls hP hS hl)
theorem j_i2l (C : Cx G nL X own cc d) {x : Int32} (pc : Nat) (hd : decode cc pc = .ok (.i2l, 1)) 
    (k : JS G nL X Q sp V (pc + 1) L (.long x.toInt64 :: st)) : JS G nL X Q sp V pc L (.int x :: st) :=
  fun x0 h0 H locs ls hP hS hl => lv_i2l C.1 C.2.1 hd rfl (k x0 h0 H locs ls hP hS hl)
theorem j_i2f (C : Cx G nL X own cc d) {x : Int32} (pc : Nat) (hd : decode cc pc = .ok (.i2f, 1)) 
    (k : JS G nL X Q sp V (pc + 1) L (.float (FP.i2f x) :: st)) : JS G nL X Q sp V pc L (.int x :: st) :=
  fun x0 h0 H locs ls hP hS hl => lv_i2f C.1 C.2.1 hd  (k x0 h0 H locs ls hP hS hl)
theorem j_i2d (C : Cx G nL X own cc d) {x : Int32} (pc : Nat) (hd : decode cc pc = .ok (.i2d, 1)) 
    (k : JS G nL X Q sp V (pc + 1) L (.double (FP.i2d x) :: st)) : JS G nL X Q sp V pc L (.int x :: st) :=
  fun x0 h0 H locs ls hP hS hl => lv_i2d C.1 C.2.1 hd  (k x0 h0 H locs ls hP hS hl)
theorem j_d2l (C : Cx G nL X own cc d) {x : UInt64} (pc : Nat) (hd : decode cc pc = .ok (.d2l, 1)) 
    (k : JS G nL X Q sp V (pc + 1) L (.long (FP.d2l x) :: st)) : JS G nL X Q sp V pc L (.double x :: st) :=
  fun x0 h0 H locs ls hP hS hl => lv_d2l C.1 C.2.1 hd  (k x0 h0 H locs ls hP hS hl)
theorem j_dconst0 (C : Cx G nL X own cc d) (pc : Nat) (hd : decode cc pc = .ok (.dconst 0, 1)) 
    (k : JS G nL X Q sp V (pc + 1) L (.double FP.dconst0 :: st)) : JS G nL X Q sp V pc L st :=
  fun x0 h0 H locs ls hP hS hl => lv_dconst0 C.1 C.2.1 hd  (k x0 h0 H locs ls hP hS hl)
theorem j_dconst1 (C : Cx G nL X own cc d) (pc : Nat) (hd : decode cc pc = .ok (.dconst 1, 1)) 
    (k : JS G nL X Q sp V (pc + 1) L (.double FP.dconst1 :: st)) : JS G nL X Q sp V pc L st :=
  fun x0 h0 H locs ls hP hS hl => lv_dconst1 C.1 C.2.1 hd  (k x0 h0 H locs ls hP hS hl)
theorem j_fconst0 (C : Cx G nL X own cc d) (pc : Nat) (hd : decode cc pc = .ok (.fconst 0, 1)) 
    (k : JS G nL X Q sp V (pc + 1) L (.float FP.fconst0 :: st)) : JS G nL X Q sp V pc L st :=
  fun x0 h0 H locs ls hP hS hl => lv_fconst0 C.1 C.2.1 hd  (k x0 h0 H locs ls hP hS hl)
theorem j_dcmp (C : Cx G nL X own cc d) {x y : UInt64} {op : CmpOp} (pc : Nat) (hd : decode cc pc = .ok (.dcmp op, 1)) 
    (k : JS G nL X Q sp V (pc + 1) L (.int (Op.cmpValue (FP.dcmp x y) op) :: st)) : JS G nL X Q sp V pc L (.double y :: .double x :: st) :=
  fun x0 h0 H locs ls hP hS hl => lv_dcmp C.1 C.2.1 hd  (k x0 h0 H locs ls hP hS hl)
theorem j_dup (C : Cx G nL X own cc d) {a : Value} (pc : Nat) (hd : decode cc pc = .ok (.dup, 1)) (ha : a.category = 1)
    (k : JS G nL X Q sp V (pc + 1) L (a :: a :: st)) : JS G nL X Q sp V pc L (a :: st) :=
  fun x0 h0 H locs ls hP hS hl => lv_dup C.1 C.2.1 hd ha (k x0 h0 H locs ls hP hS hl)
theorem j_pop (C : Cx G nL X own cc d) {a : Value} (pc : Nat) (hd : decode cc pc = .ok (.pop, 1)) (ha : a.category = 1)
    (k : JS G nL X Q sp V (pc + 1) L st) : JS G nL X Q sp V pc L (a :: st) :=
  fun x0 h0 H locs ls hP hS hl => lv_pop C.1 C.2.1 hd ha (k x0 h0 H locs ls hP hS hl)
theorem j_dup2 (C : Cx G nL X own cc d) {a b : Value} (pc : Nat) (hd : decode cc pc = .ok (.dup2, 1)) (ha : a.category = 1) (hb : b.category = 1)
    (k : JS G nL X Q sp V (pc + 1) L (a :: b :: a :: b :: st)) : JS G nL X Q sp V pc L (a :: b :: st) :=
  fun x0 h0 H locs ls hP hS hl => lv_dup2_11 C.1 C.2.1 hd ha hb (k x0 h0 H locs ls hP hS hl)
theorem dck_in {x y : UInt64} (h : dck x = some y) : vf_n64 x ∧ y = x := by
  unfold dck at h
  split at h
  · next q => cases h; exact ⟨q, rfl⟩
  · cases h
theorem fck_in {x y : UInt32} (h : fck x = some y) : vf_n32 x ∧ y = x := by
  unfold fck at h
  split at h
  · next q => cases h; exact ⟨q, rfl⟩
  · cases h
theorem j_dadd (C : Cx G nL X own cc d) {x y r : UInt64} (pc : Nat) (hr : dck (FP.dadd x y) = some r) (hd : decode cc pc = .ok (.dadd, 1))
    (k : JS G nL X Q sp V (pc + 1) L (.double r :: st)) : JS G nL X Q sp V pc L (.double y :: .double x :: st) :=
  fun x0 h0 H locs ls hP hS hl => lv_dadd C.1 C.2.1 hd (dck_in hr).1 (by rw [← (dck_in hr).2]; exact k x0 h0 H locs ls hP hS hl)
theorem j_dsub (C : Cx G nL X own cc d) {x y r : UInt64} (pc : Nat) (hr : dck (FP.dsub x y) = some r) (hd : decode cc pc = .ok (.dsub, 1))
    (k : JS G nL X Q sp V (pc + 1) L (.double r :: st)) : JS G nL X Q sp V pc L (.double y :: .double x :: st) :=
  fun x0 h0 H locs ls hP hS hl => lv_dsub C.1 C.2.1 hd (dck_in hr).1 (by rw [← (dck_in hr).2]; exact k x0 h0 H locs ls hP hS hl)
theorem j_dmul (C : Cx G nL X own cc d) {x y r : UInt64} (pc : Nat) (hr : dck (FP.dmul x y) = some r) (hd : decode cc pc = .ok (.dmul, 1))
    (k : JS G nL X Q sp V (pc + 1) L (.double r :: st)) : JS G nL X Q sp V pc L (.double y :: .double x :: st) :=
  fun x0 h0 H locs ls hP hS hl => lv_dmul C.1 C.2.1 hd (dck_in hr).1 (by rw [← (dck_in hr).2]; exact k x0 h0 H locs ls hP hS hl)
theorem j_ddiv (C : Cx G nL X own cc d) {x y r : UInt64} (pc : Nat) (hr : dck (FP.ddiv x y) = some r) (hd : decode cc pc = .ok (.ddiv, 1))
    (k : JS G nL X Q sp V (pc + 1) L (.double r :: st)) : JS G nL X Q sp V pc L (.double y :: .double x :: st) :=
  fun x0 h0 H locs ls hP hS hl => lv_ddiv C.1 C.2.1 hd (dck_in hr).1 (by rw [← (dck_in hr).2]; exact k x0 h0 H locs ls hP hS hl)
theorem j_fdiv (C : Cx G nL X own cc d) {x y r : UInt32} (pc : Nat) (hr : fck (FP.fdiv x y) = some r) (hd : decode cc pc = .ok (.fdiv, 1))
    (k : JS G nL X Q sp V (pc + 1) L (.float r :: st)) : JS G nL X Q sp V pc L (.float y :: .float x :: st) :=
  fun x0 h0 H locs ls hP hS hl => lv_fdiv C.1 C.2.1 hd (fck_in hr).1 (by rw [← (fck_in hr).2]; exact k x0 h0 H locs ls hP hS hl)
theorem j_f2d (C : Cx G nL X own cc d) {x : UInt32} {r : UInt64} (pc : Nat) (hr : dck (FP.f2d x) = some r) (hd : decode cc pc = .ok (.f2d, 1))
    (k : JS G nL X Q sp V (pc + 1) L (.double r :: st)) : JS G nL X Q sp V pc L (.float x :: st) :=
  fun x0 h0 H locs ls hP hS hl => lv_f2d C.1 C.2.1 hd (dck_in hr).1 (by rw [← (dck_in hr).2]; exact k x0 h0 H locs ls hP hS hl)
theorem j_ldc2 (C : Cx G nL X own cc d) {n : Nat} {v : Int64} (pc : Nat) (hd : decode cc pc = .ok (.ldc2_w n, 3)) (hw : Cond.constantLong own n v ∈ gw)
    (k : JS G nL X Q sp V (pc + 3) L (.long v :: st)) : JS G nL X Q sp V pc L st :=
  fun x0 h0 H locs ls hP hS hl => lv_ldc2 C.1 C.2.1 C.2.2.2.1 (C.2.2.2.2.1 _ hw) hd (k x0 h0 H locs ls hP hS hl)
theorem j_ldc2d (C : Cx G nL X own cc d) {n : Nat} {v : UInt64} (pc : Nat) (hd : decode cc pc = .ok (.ldc2_w n, 3)) (hw : Cond.constantDouble own n v ∈ gw)
    (k : JS G nL X Q sp V (pc + 3) L (.double v :: st)) : JS G nL X Q sp V pc L st :=
  fun x0 h0 H locs ls hP hS hl => lv_ldc2d C.1 C.2.1 C.2.2.2.1 (C.2.2.2.2.1 _ hw) hd (k x0 h0 H locs ls hP hS hl)
theorem j_ldc (C : Cx G nL X own cc d) {n : Nat} {v : Int32} (pc : Nat) (hd : decode cc pc = .ok (.ldc n, 2)) (hw : Cond.constant own n v ∈ gw)
    (k : JS G nL X Q sp V (pc + 2) L (.int v :: st)) : JS G nL X Q sp V pc L st :=
  fun x0 h0 H locs ls hP hS hl => lv_ldc C.1 C.2.1 C.2.2.2.1 (C.2.2.2.2.1 _ hw) hd (k x0 h0 H locs ls hP hS hl)
theorem j_icmp_lt (C : Cx G nL X own cc d) {x y : Int32} {off : Int} {A B : Option ρ} (pc : Nat) (tgt : Nat) (hd : decode cc pc = .ok (.if_icmp .lt off, 3)) (ht : (pc : Int) + off = (tgt : Int))
    (kA : x < y → JS G nL X Q A V tgt L st) (kB : ¬ x < y → JS G nL X Q B V (pc + 3) L st) : JS G nL X Q (if x < y then A else B) V pc L (.int y :: .int x :: st) := by
  intro x0 h0 H locs ls hP hS hl
  by_cases hc : x < y
  · rw [if_pos hc] at h0
    exact lv_icmp_lt C.1 C.2.1 hd ht (fun z => kA hc x0 h0 H locs ls hP hS hl) (fun z => absurd hc z)
  · rw [if_neg hc] at h0
    exact lv_icmp_lt C.1 C.2.1 hd ht (fun z => absurd z hc) (fun z => kB hc x0 h0 H locs ls hP hS hl)
theorem j_icmp_gt (C : Cx G nL X own cc d) {x y : Int32} {off : Int} {A B : Option ρ} (pc : Nat) (tgt : Nat) (hd : decode cc pc = .ok (.if_icmp .gt off, 3)) (ht : (pc : Int) + off = (tgt : Int))
    (kA : y < x → JS G nL X Q A V tgt L st) (kB : ¬ y < x → JS G nL X Q B V (pc + 3) L st) : JS G nL X Q (if y < x then A else B) V pc L (.int y :: .int x :: st) := by
  intro x0 h0 H locs ls hP hS hl
  by_cases hc : y < x
  · rw [if_pos hc] at h0
    exact lv_icmp_gt C.1 C.2.1 hd ht (fun z => kA hc x0 h0 H locs ls hP hS hl) (fun z => absurd hc z)
  · rw [if_neg hc] at h0
    exact lv_icmp_gt C.1 C.2.1 hd ht (fun z => absurd z hc) (fun z => kB hc x0 h0 H locs ls hP hS hl)
theorem j_icmp_eq (C : Cx G nL X own cc d) {x y : Int32} {off : Int} {A B : Option ρ} (pc : Nat) (tgt : Nat) (hd : decode cc pc = .ok (.if_icmp .eq off, 3)) (ht : (pc : Int) + off = (tgt : Int))
    (kA : x = y → JS G nL X Q A V tgt L st) (kB : ¬ x = y → JS G nL X Q B V (pc + 3) L st) : JS G nL X Q (if x = y then A else B) V pc L (.int y :: .int x :: st) := by
  intro x0 h0 H locs ls hP hS hl
  by_cases hc : x = y
  · rw [if_pos hc] at h0
    exact lv_icmp_eq C.1 C.2.1 hd ht (fun z => kA hc x0 h0 H locs ls hP hS hl) (fun z => absurd hc z)
  · rw [if_neg hc] at h0
    exact lv_icmp_eq C.1 C.2.1 hd ht (fun z => absurd z hc) (fun z => kB hc x0 h0 H locs ls hP hS hl)
theorem j_icmp_ge (C : Cx G nL X own cc d) {x y : Int32} {off : Int} {A B : Option ρ} (pc : Nat) (tgt : Nat) (hd : decode cc pc = .ok (.if_icmp .ge off, 3)) (ht : (pc : Int) + off = (tgt : Int))
    (kA : x < y → JS G nL X Q A V (pc + 3) L st) (kB : ¬ x < y → JS G nL X Q B V tgt L st) : JS G nL X Q (if x < y then A else B) V pc L (.int y :: .int x :: st) := by
  intro x0 h0 H locs ls hP hS hl
  by_cases hc : x < y
  · rw [if_pos hc] at h0
    exact lv_icmp_ge C.1 C.2.1 hd ht (fun z => absurd z (Int32.not_le.mpr hc)) (fun z => kA hc x0 h0 H locs ls hP hS hl)
  · rw [if_neg hc] at h0
    exact lv_icmp_ge C.1 C.2.1 hd ht (fun z => kB hc x0 h0 H locs ls hP hS hl) (fun z => absurd (Int32.not_le.mp z) hc)
theorem j_icmp_le (C : Cx G nL X own cc d) {x y : Int32} {off : Int} {A B : Option ρ} (pc : Nat) (tgt : Nat) (hd : decode cc pc = .ok (.if_icmp .le off, 3)) (ht : (pc : Int) + off = (tgt : Int))
    (kA : y < x → JS G nL X Q A V (pc + 3) L st) (kB : ¬ y < x → JS G nL X Q B V tgt L st) : JS G nL X Q (if y < x then A else B) V pc L (.int y :: .int x :: st) := by
  intro x0 h0 H locs ls hP hS hl
  by_cases hc : y < x
  · rw [if_pos hc] at h0
    exact lv_icmp_le C.1 C.2.1 hd ht (fun z => absurd z (Int32.not_le.mpr hc)) (fun z => kA hc x0 h0 H locs ls hP hS hl)
  · rw [if_neg hc] at h0
    exact lv_icmp_le C.1 C.2.1 hd ht (fun z => kB hc x0 h0 H locs ls hP hS hl) (fun z => absurd (Int32.not_le.mp z) hc)
theorem j_icmp_ne (C : Cx G nL X own cc d) {x y : Int32} {off : Int} {A B : Option ρ} (pc : Nat) (tgt : Nat) (hd : decode cc pc = .ok (.if_icmp .ne off, 3)) (ht : (pc : Int) + off = (tgt : Int))
    (kA : x = y → JS G nL X Q A V (pc + 3) L st) (kB : ¬ x = y → JS G nL X Q B V tgt L st) : JS G nL X Q (if x = y then A else B) V pc L (.int y :: .int x :: st) := by
  intro x0 h0 H locs ls hP hS hl
  by_cases hc : x = y
  · rw [if_pos hc] at h0
    exact lv_icmp_ne C.1 C.2.1 hd ht (fun z => absurd z (fun w => w hc)) (fun z => kA hc x0 h0 H locs ls hP hS hl)
  · rw [if_neg hc] at h0
    exact lv_icmp_ne C.1 C.2.1 hd ht (fun z => kB hc x0 h0 H locs ls hP hS hl) (fun z => absurd z hc)
theorem j_if_eq (C : Cx G nL X own cc d) {x : Int32} {off : Int} {A B : Option ρ} (pc : Nat) (tgt : Nat) (hd : decode cc pc = .ok (.ifCond .eq off, 3)) (ht : (pc : Int) + off = (tgt : Int))
    (kA : x = 0 → JS G nL X Q A V tgt L st) (kB : ¬ x = 0 → JS G nL X Q B V (pc + 3) L st) : JS G nL X Q (if x = 0 then A else B) V pc L (.int x :: st) := by
  intro x0 h0 H locs ls hP hS hl
  by_cases hc : x = 0
  · rw [if_pos hc] at h0
    exact lv_if_eq C.1 C.2.1 hd ht (fun z => kA hc x0 h0 H locs ls hP hS hl) (fun z => absurd hc z)
  · rw [if_neg hc] at h0
    exact lv_if_eq C.1 C.2.1 hd ht (fun z => absurd z hc) (fun z => kB hc x0 h0 H locs ls hP hS hl)
theorem j_if_lt (C : Cx G nL X own cc d) {x : Int32} {off : Int} {A B : Option ρ} (pc : Nat) (tgt : Nat) (hd : decode cc pc = .ok (.ifCond .lt off, 3)) (ht : (pc : Int) + off = (tgt : Int))
    (kA : x < 0 → JS G nL X Q A V tgt L st) (kB : ¬ x < 0 → JS G nL X Q B V (pc + 3) L st) : JS G nL X Q (if x < 0 then A else B) V pc L (.int x :: st) := by
  intro x0 h0 H locs ls hP hS hl
  by_cases hc : x < 0
  · rw [if_pos hc] at h0
    exact lv_if_lt C.1 C.2.1 hd ht (fun z => kA hc x0 h0 H locs ls hP hS hl) (fun z => absurd hc z)
  · rw [if_neg hc] at h0
    exact lv_if_lt C.1 C.2.1 hd ht (fun z => absurd z hc) (fun z => kB hc x0 h0 H locs ls hP hS hl)
theorem j_if_gt (C : Cx G nL X own cc d) {x : Int32} {off : Int} {A B : Option ρ} (pc : Nat) (tgt : Nat) (hd : decode cc pc = .ok (.ifCond .gt off, 3)) (ht : (pc : Int) + off = (tgt : Int))
    (kA : 0 < x → JS G nL X Q A V tgt L st) (kB : ¬ 0 < x → JS G nL X Q B V (pc + 3) L st) : JS G nL X Q (if 0 < x then A else B) V pc L (.int x :: st) := by
  intro x0 h0 H locs ls hP hS hl
  by_cases hc : 0 < x
  · rw [if_pos hc] at h0
    exact lv_if_gt C.1 C.2.1 hd ht (fun z => kA hc x0 h0 H locs ls hP hS hl) (fun z => absurd hc z)
  · rw [if_neg hc] at h0
    exact lv_if_gt C.1 C.2.1 hd ht (fun z => absurd z hc) (fun z => kB hc x0 h0 H locs ls hP hS hl)
theorem j_if_ne (C : Cx G nL X own cc d) {x : Int32} {off : Int} {A B : Option ρ} (pc : Nat) (tgt : Nat) (hd : decode cc pc = .ok (.ifCond .ne off, 3)) (ht : (pc : Int) + off = (tgt : Int))
    (kA : x = 0 → JS G nL X Q A V (pc + 3) L st) (kB : ¬ x = 0 → JS G nL X Q B V tgt L st) : JS G nL X Q (if x = 0 then A else B) V pc L (.int x :: st) := by
  intro x0 h0 H locs ls hP hS hl
  by_cases hc : x = 0
  · rw [if_pos hc] at h0
    exact lv_if_ne C.1 C.2.1 hd ht (fun z => absurd z (fun w => w hc)) (fun z => kA hc x0 h0 H locs ls hP hS hl)
  · rw [if_neg hc] at h0
    exact lv_if_ne C.1 C.2.1 hd ht (fun z => kB hc x0 h0 H locs ls hP hS hl) (fun z => absurd z hc)
theorem j_if_ge (C : Cx G nL X own cc d) {x : Int32} {off : Int} {A B : Option ρ} (pc : Nat) (tgt : Nat) (hd : decode cc pc = .ok (.ifCond .ge off, 3)) (ht : (pc : Int) + off = (tgt : Int))
    (kA : x < 0 → JS G nL X Q A V (pc + 3) L st) (kB : ¬ x < 0 → JS G nL X Q B V tgt L st) : JS G nL X Q (if x < 0 then A else B) V pc L (.int x :: st) := by
  intro x0 h0 H locs ls hP hS hl
  by_cases hc : x < 0
  · rw [if_pos hc] at h0
    exact lv_if_ge C.1 C.2.1 hd ht (fun z => absurd z (Int32.not_le.mpr hc)) (fun z => kA hc x0 h0 H locs ls hP hS hl)
  · rw [if_neg hc] at h0
    exact lv_if_ge C.1 C.2.1 hd ht (fun z => kB hc x0 h0 H locs ls hP hS hl) (fun z => absurd (Int32.not_le.mp z) hc)
theorem j_if_le (C : Cx G nL X own cc d) {x : Int32} {off : Int} {A B : Option ρ} (pc : Nat) (tgt : Nat) (hd : decode cc pc = .ok (.ifCond .le off, 3)) (ht : (pc : Int) + off = (tgt : Int))
    (kA : 0 < x → JS G nL X Q A V (pc + 3) L st) (kB : ¬ 0 < x → JS G nL X Q B V tgt L st) : JS G nL X Q (if 0 < x then A else B) V pc L (.int x :: st) := by
  intro x0 h0 H locs ls hP hS hl
  by_cases hc : 0 < x
  · rw [if_pos hc] at h0
    exact lv_if_le C.1 C.2.1 hd ht (fun z => absurd z (Int32.not_le.mpr hc)) (fun z => kA hc x0 h0 H locs ls hP hS hl)
  · rw [if_neg hc] at h0
    exact lv_if_le C.1 C.2.1 hd ht (fun z => kB hc x0 h0 H locs ls hP hS hl) (fun z => absurd (Int32.not_le.mp z) hc)
theorem j_goto (C : Cx G nL X own cc d) {off : Int} (pc tgt : Nat) (hd : decode cc pc = .ok (.goto off, 3)) (ht : (pc : Int) + off = (tgt : Int)) (k : JS G nL X Q sp V tgt L st) : JS G nL X Q sp V pc L st :=
  fun x0 h0 H locs ls hP hS hl => lv_goto C.1 C.2.1 hd ht (k x0 h0 H locs ls hP hS hl)
theorem j_ifnull (C : Cx G nL X own cc d) {off : Int} {x : Nat} (pc : Nat) (hd : decode cc pc = .ok (.ifnull off, 3)) (k : JS G nL X Q sp V (pc + 3) L st) : JS G nL X Q sp V pc L (.ref x :: st) :=
  fun x0 h0 H locs ls hP hS hl => lv_ifnull C.1 C.2.1 hd (k x0 h0 H locs ls hP hS hl)
theorem j_iald (C : Cx G nL X own cc d) {n : Nat} {f : Nat → Int32} {i x : Int32} {a : Nat} (pc q : Nat) (hq : q < nG G) (ha : a = G.2.2 q) (hc : cellA G.2.1 G.2.2 V q = cI (G.2.1 0) n f) (hr : ard n f i = some x) (hd : decode cc pc = .ok (.iaload, 1))
    (k : JS G nL X Q sp V (pc + 1) L (.int x :: st)) : JS G nL X Q sp V pc L (.int i :: .ref a :: st) := by
  intro x0 h0 H locs ls hP hS hl
  obtain ⟨hin, rfl⟩ := ard_in hr
  subst ha
  exact va_iald C.1 C.2.1 C.2.2.2.2.2.1.1 hP q 0 (by rw [wld_at G V hq, hc]) rfl hin hd (k x0 h0 H locs ls hP hS hl)
theorem j_zald (C : Cx G nL X own cc d) {n : Nat} {f : Nat → Int32} {i x : Int32} {a : Nat} (pc q : Nat) (hq : q < nG G) (ha : a = G.2.2 q) (hc : cellA G.2.1 G.2.2 V q = cI (G.2.1 1) n f) (hr : ard n f i = some x) (hd : decode cc pc = .ok (.baload, 1))
    (k : JS G nL X Q sp V (pc + 1) L (.int x :: st)) : JS G nL X Q sp V pc L (.int i :: .ref a :: st) := by
  intro x0 h0 H locs ls hP hS hl
  obtain ⟨hin, rfl⟩ := ard_in hr
  subst ha
  exact va_zald C.1 C.2.1 C.2.2.2.2.2.1.1 hP q 1 (by rw [wld_at G V hq, hc]) rfl hin hd (k x0 h0 H locs ls hP hS hl)
theorem j_aald (C : Cx G nL X own cc d) {v : VSp} {i : Int32} {a x : Nat} (pc : Nat) (ha : a = G.2.2 1) (hc : cellA G.2.1 G.2.2 V 1 = cSv G.2.1 G.2.2 v) (hr : rdp 6 v.2.2 i = some x) (hd : decode cc pc = .ok (.aaload, 1))
    (k : JS G nL X Q sp V (pc + 1) L (.ref (G.2.2 (6 + 2 * x)) :: st)) : JS G nL X Q sp V pc L (.int i :: .ref a :: st) := by
  intro x0 h0 H locs ls hP hS hl
  obtain ⟨hin, rfl, -, hx8⟩ := rdp_in hr
  subst ha
  have k2 : JS G nL X Q sp V (pc + 1) L (.ref (G.2.2 (6 + 2 * min (v.2.2 i.toNatClampNeg) 7)) :: st) := by rw [Nat.min_eq_left (by omega)]; exact k
  clear k
  have k := k2
  exact va_aldq (f := fun i => some (G.2.2 (6 + 2 * min (v.2.2 i) 7))) C.1 C.2.1 C.2.2.2.2.2.1.1 hP 1 2 (by rw [wld_at G V (nG_lt C.2.2.2.2.2.2.1 (by omega)), hc]; rfl) rfl hin hd (k x0 h0 H locs ls hP hS hl)
theorem j_iast (C : Cx G nL X own cc d) {n : Nat} {f g : Nat → Int32} {i x : Int32} {a : Nat} {V1 : VA} (pc q : Nat) (hq : q < nG G) (ha : a = G.2.2 q) (hc : cellA G.2.1 G.2.2 V q = cI (G.2.1 0) n f) (hr : aup n f i x = some g) (hu : ∀ j, j < nG G → va_up (cellA G.2.1 G.2.2 V) q (cI (G.2.1 0) n g) j = cellA G.2.1 G.2.2 V1 j) (hd : decode cc pc = .ok (.iastore, 1))
    (k : JS G nL X Q sp V1 (pc + 1) L st) : JS G nL X Q sp V pc L (.int x :: .int i :: .ref a :: st) := by
  intro x0 h0 H locs ls hP hS hl
  obtain ⟨hin, rfl⟩ := aup_in hr
  subst ha
  exact va_iast C.1 C.2.1 C.2.2.2.2.2.1.1 hP (wld_D C.2.2.2.2.2.2.1 V _) hS q 0 (by rw [wld_at G V hq, hc]) rfl hin hd (fun H1 locs1 hP1 _ hS1 => k x0 h0 H1 locs1 ls (by rw [← wld_set hq hu]; exact hP1) hS1 hl)
theorem j_zast (C : Cx G nL X own cc d) {n : Nat} {f g : Nat → Int32} {i x : Int32} {a : Nat} {V1 : VA} (pc q : Nat) (hq : q < nG G) (ha : a = G.2.2 q) (hc : cellA G.2.1 G.2.2 V q = cI (G.2.1 1) n f) (hr : aupz n f i x = some g) (hu : ∀ j, j < nG G → va_up (cellA G.2.1 G.2.2 V) q (cI (G.2.1 1) n g) j = cellA G.2.1 G.2.2 V1 j) (hd : decode cc pc = .ok (.bastore, 1))
    (k : JS G nL X Q sp V1 (pc + 1) L st) : JS G nL X Q sp V pc L (.int x :: .int i :: .ref a :: st) := by
  intro x0 h0 H locs ls hP hS hl
  obtain ⟨hin, rfl⟩ := aupz_in hr
  subst ha
  exact va_zast C.1 C.2.1 C.2.2.2.2.2.1.1 hP (wld_D C.2.2.2.2.2.2.1 V _) hS q 1 (by rw [wld_at G V hq, hc]) rfl hin hd (fun H1 locs1 hP1 _ hS1 => k x0 h0 H1 locs1 ls (by rw [← wld_set hq hu]; exact hP1) hS1 hl)
theorem j_alen (C : Cx G nL X own cc d) {n : Nat} {f : Nat → Int32} {a : Nat} {v : Int32} (pc q : Nat) (hq : q < nG G) (ha : a = G.2.2 q) (hc : cellA G.2.1 G.2.2 V q = cI (G.2.1 0) n f) (hv : Int32.ofNat n = v) (hd : decode cc pc = .ok (.arraylength, 1))
    (k : JS G nL X Q sp V (pc + 1) L (.int v :: st)) : JS G nL X Q sp V pc L (.ref a :: st) := by
  intro x0 h0 H locs ls hP hS hl
  subst ha
  exact va_alen C.1 C.2.1 C.2.2.2.2.2.1.1 hP q 0 (by rw [wld_at G V hq, hc]) rfl hv hd (k x0 h0 H locs ls hP hS hl)
/-- a field is read: by the class's number, its place there -/
theorem j_get (C : Cx G nL X own cc d) {ci n N index a : Nat} {CN ref : String} {T : u_T} {fs : List Value} {v : Value} (pc q : Nat) (hq : q < nG G) (ha : a = G.2.2 q) (hc : cellA G.2.1 G.2.2 V q = .inr (ci, fs)) (hcl : vwCl[ci]? = some (CN, T, N)) (hin : ∀ w ∈ u_ws CN T N, w ∈ gw) (hk : n < N) (hlink : Cond.fieldLink own index CN (T n).2.1 (T n).2.2.1 ∈ gw) (hT : (T n).1 = CN) (hv : fs[n]? = some v) (hd : decode cc pc = .ok (.getfield index, 3))
    (k : JS G nL X Q sp V (pc + 3) L (v :: st)) : JS G nL X Q sp V pc L (.ref a :: st) := by
  intro x0 h0 H locs ls hP hS hl
  subst ha
  exact va_get C.1 C.2.1 C.2.2.2.2.1 hin C.2.2.2.1 C.2.2.2.2.2.1.1 hP q (by rw [wld_at G V hq, hc]) hcl n hk (C.2.2.2.2.1 _ hlink) (fun x h => by rw [hT] at h; exact h) hv hd (k x0 h0 H locs ls hP hS hl)
theorem j_getN (C : Cx G nL X own cc d) {ci n N index a : Nat} {CN ref host : String} {T : u_T} {fs : List Value} {v : Value} (pc q : Nat) (hq : q < nG G) (ha : a = G.2.2 q) (hc : cellA G.2.1 G.2.2 V q = .inr (ci, fs)) (hcl : vwCl[ci]? = some (CN, T, N)) (hin : ∀ w ∈ u_ws CN T N, w ∈ gw) (hk : n < N) (hlink : Cond.fieldLinkNest own index CN (T n).2.1 (T n).2.2.1 host ∈ nestW) (hT : (T n).1 = CN) (hv : fs[n]? = some v) (hd : decode cc pc = .ok (.getfield index, 3))
    (k : JS G nL X Q sp V (pc + 3) L (v :: st)) : JS G nL X Q sp V pc L (.ref a :: st) := by
  intro x0 h0 H locs ls hP hS hl
  subst ha
  exact va_getN C.1 C.2.1 C.2.2.2.2.1 hin C.2.2.2.1 C.2.2.2.2.2.1.1 hP q (by rw [wld_at G V hq, hc]) hcl n hk ((C.2.2.2.2.2.1.2 _ hlink).use rfl) (fun x h => by rw [hT] at h; exact h) hv hd (k x0 h0 H locs ls hP hS hl)
theorem j_put (C : Cx G nL X own cc d) {ci n N index a : Nat} {CN : String} {T : u_T} {ty0 : Nat → FieldType} {ty : FieldType} {fs : List Value} {v : Value} {V1 : VA} (pc q : Nat) (hq : q < nG G) (ha : a = G.2.2 q) (hc : cellA G.2.1 G.2.2 V q = .inr (ci, fs)) (hcl : vwCl[ci]? = some (CN, T, N)) (hin : ∀ w ∈ u_ws CN T N, w ∈ gw) (hty : ∀ k, k < N → parseFieldDescriptor (T k).2.2.1 = some (ty0 k)) (hnm : ∀ a, a < N → ∀ b, b < N → a ≠ b → (T a).2.1 ≠ (T b).2.1)
    (hk : n < N) (hlink : Cond.fieldLink own index CN (T n).2.1 (T n).2.2.1 ∈ gw) (hT : (T n).1 = CN) (hfin : (T n).2.2.2 = false) (htd : ty0 n = ty) (hnv : narrow ty v = v) (hfit : fits ty v = true) (hl0 : n < fs.length) (hu : ∀ j, j < nG G → va_up (cellA G.2.1 G.2.2 V) q (.inr (ci, fs.set n v)) j = cellA G.2.1 G.2.2 V1 j) (hd : decode cc pc = .ok (.putfield index, 3))
    (k : JS G nL X Q sp V1 (pc + 3) L st) : JS G nL X Q sp V pc L (v :: .ref a :: st) := by
  intro x0 h0 H locs ls hP hS hl
  subst ha
  exact va_put C.1 C.2.1 C.2.2.2.2.1 hin ty0 hty hnm C.2.2.2.1 C.2.2.2.2.2.1.1 hP (wld_D C.2.2.2.2.2.2.1 V _) hS q (by rw [wld_at G V hq, hc]) hcl n hk (C.2.2.2.2.1 _ hlink) (fun x h => by rw [hT] at h; exact h) hfin (by rw [hty n hk, htd]) hnv hfit hl0 hd (fun H1 locs1 hP1 _ hS1 => k x0 h0 H1 locs1 ls (by rw [← wld_set hq hu]; exact hP1) hS1 hl)
end
-- ===== contracts =====
abbrev RM (d : Nat) : Room := { frames := d, cells := 0, slots := 0, locals := 35 * d }
def PcW (G : GG) (V : VA) (sz : Nat) : State → Prop := fun U => U.heap.size = sz ∧ va_P G.1 vwCl (wld G V) U.heap ∧ WK G U
def QR (G : GG) (sz : Nat) (rv : Option Value) (V : VA) : Array Value → State → Outcome → State → Prop := fun _ st oc t => (oc = .returned rv ∧ va_P G.1 vwCl (wld G V) t.heap) ∧ va_F (AA G sz) st t
def Ct (l : Launch) (y : MethodName) (cc : ByteArray) (nL : Nat) (ret : Option FieldType) (d : Nat) (as : List Value) (G : GG) (V : VA) (rv : Option Value) (V1 : VA) : Prop :=
  ∀ sz, Met l y (gws y cc nL ret) (RM d) (va_Pc as (PcW G V sz)) (QR G sz rv V1) 0 0 (AA G sz)
def QM {ρ : Type} (G : GG) (X : WX) (rv : ρ → Option Value) (fin : ρ → VA) (x : ρ) : State → Prop := MQ (xb X) (QR G (xs X).heap.size (rv x) (fin x)) (xa X) (xs X) (xk X) (xz X) (AA G (xs X).heap.size)
theorem ct_of {ρ : Type} {l : Launch} {y : MethodName} {cc : ByteArray} {nL : Nat} {ret : Option FieldType} {d : Nat} {as : List Value} {G : GG} {V : VA} {rv : ρ → Option Value} {fin : ρ → VA} {sp : Option ρ} {own : String}
    (hG : Gok G) (hy : plainFor y = true) (hown : y.cls = own) (hsl : (lg_sl as).length ≤ nL)
    (body : ∀ X : WX, Cx G nL X own cc d → (xM X).sig.returnType = ret → xl X = l → JS G nL X (QM G X rv fin) sp V 0 (lv_args 0 as) []) {x : ρ} (hx : sp = some x) : Ct l y cc nL ret d as G V (rv x) (fin x) := by
  intro sz
  refine va_MetF (cc := cc) (maxL := nL) (ret := ret) hy rfl ?_
  intro p e s m args below meth c s₁ B hml hv
  obtain ⟨rfl, hsz, hP, hK⟩ := hv
  have hts := atoms_spec (ws := gws y cc nL ret) B.pre
  have hown2 : s.vm.findClass own = some m.cls := hown ▸ findClass_of_methodNamed B.named
  have C : Cx G nL (p, l, e, RM d, s, m, as.toArray, below, meth, c, 0, 0) own cc d := ⟨B.exec, B.bytes, hml, hown2, fun w h => hts w (List.mem_cons_of_mem _ h), hK, hG, B.notSynchronized, Nat.le_refl _, Nat.le_refl _, Nat.le_refl _, Nat.le_refl _⟩
  have hl := lv_entry as hsl
  subst hsz
  have K := body _ C B.returns rfl x hx s.heap [] _ hP va_S.rf hl
  rw [lg_entry_eq]
  exact K
section
variable {ρ : Type} {G : GG} {nL : Nat} {X : WX} {rv : ρ → Option Value} {fin : ρ → VA} {x : ρ} {V : VA} {L : List (Nat × Value)} {st : List Value} {own : String} {cc : ByteArray} {d : Nat}
theorem q_end {H : Heap} {locs : List Loc} {r : Option Value} (hrv : rv x = r) (hf : fin x = V) (hP : va_P G.1 vwCl (wld G V) H) (hS : va_S (AA G (xs X).heap.size) (xs X).heap H locs) : ∀ t : State, t.heap = H → (xs X).WarmedH t.vm → QR G (xs X).heap.size (rv x) (fin x) (xa X) (xs X) (.returned r) t :=
  fun t ht _ => ⟨⟨by rw [hrv], by rw [hf, ht]; exact hP⟩, hS.F ht⟩
theorem j_iret (C : Cx G nL X own cc d) {v : Int32} (pc : Nat) (hr : (xM X).sig.returnType = some .int) (hrv : rv x = some (.int v)) (hf : fin x = V) (hd : decode cc pc = .ok (.ireturn, 1)) : JS G nL X (QM G X rv fin) (some x) V pc L [.int v] := by
  intro x0 h0 H locs ls hP hS hl
  cases h0
  exact W.iret C.1 C.2.1 hr (q_end hrv hf hP hS) hS.2.2 hd C.2.2.2.2.2.2.2.1
theorem j_zret (C : Cx G nL X own cc d) {v : Int32} (pc : Nat) (hr : (xM X).sig.returnType = some .boolean) (hn : narrow .boolean (.int v) = .int v) (hrv : rv x = some (.int v)) (hf : fin x = V) (hd : decode cc pc = .ok (.ireturn, 1)) : JS G nL X (QM G X rv fin) (some x) V pc L [.int v] := by
  intro x0 h0 H locs ls hP hS hl
  cases h0
  exact W.zret C.1 C.2.1 hr hn (q_end hrv hf hP hS) hS.2.2 hd C.2.2.2.2.2.2.2.1
theorem j_lret (C : Cx G nL X own cc d) {v : Int64} (pc : Nat) (hr : (xM X).sig.returnType = some .long) (hrv : rv x = some (.long v)) (hf : fin x = V) (hd : decode cc pc = .ok (.lreturn, 1)) : JS G nL X (QM G X rv fin) (some x) V pc L [.long v] := by
  intro x0 h0 H locs ls hP hS hl
  cases h0
  exact W.lret C.1 C.2.1 hr (q_end hrv hf hP hS) hS.2.2 hd C.2.2.2.2.2.2.2.1
theorem j_fret (C : Cx G nL X own cc d) {v : UInt32} (pc : Nat) (hr : (xM X).sig.returnType = some .float) (hrv : rv x = some (.float v)) (hf : fin x = V) (hd : decode cc pc = .ok (.freturn, 1)) : JS G nL X (QM G X rv fin) (some x) V pc L [.float v] := by
  intro x0 h0 H locs ls hP hS hl
  cases h0
  exact W.fret C.1 C.2.1 hr (q_end hrv hf hP hS) hS.2.2 hd C.2.2.2.2.2.2.2.1
theorem j_dret (C : Cx G nL X own cc d) {v : UInt64} (pc : Nat) (hr : (xM X).sig.returnType = some .double) (hrv : rv x = some (.double v)) (hf : fin x = V) (hd : decode cc pc = .ok (.dreturn, 1)) : JS G nL X (QM G X rv fin) (some x) V pc L [.double v] := by
  intro x0 h0 H locs ls hP hS hl
  cases h0
  exact W.dret C.1 C.2.1 hr (q_end hrv hf hP hS) hS.2.2 hd C.2.2.2.2.2.2.2.1
theorem j_vret (C : Cx G nL X own cc d) (pc : Nat) (hr : (xM X).sig.returnType = none) (hrv : rv x = none) (hf : fin x = V) (hd : decode cc pc = .ok (.return_, 1)) : JS G nL X (QM G X rv fin) (some x) V pc L [] := by
  intro x0 h0 H locs ls hP hS hl
  cases h0
  exact W.vret C.1 C.2.1 hr (q_end hrv hf hP hS) hS.2.2 hd C.2.2.2.2.2.2.2.1
theorem bck_in {x y : Int32} (h : bck x = some y) : narrow .boolean (.int y) = .int y ∧ y = x := by
  unfold bck at h
  split at h
  · next q => cases h; rcases q with q | q <;> (subst q; exact ⟨rfl, rfl⟩)
  · cases h
end
-- ===== calls =====
section
variable {ρ : Type} {G : GG} {nL : Nat} {X : WX} {Q : ρ → State → Prop} {sp : Option ρ} {V V1 V2 : VA} {L : List (Nat × Value)} {st : List Value} {own : String} {cc : ByteArray} {d d1 : Nat}
variable {y : MethodName} {bytes : ByteArray} {maxL index n : Nat} {ret : Option FieldType} {As : List Value} {rv : Option Value}
/-- what a callee's own words are, and its name's plainness -/
def KY (y : MethodName) (bytes : ByteArray) (maxL : Nat) (ret : Option FieldType) (n : Nat) : Prop :=
  Cond.code y bytes maxL ret ∈ gw ∧ Cond.initialized y.cls ∈ gw ∧ maxL ≤ 16 ∧ (y.cls ≠ "java/lang/invoke/MethodHandle" ∧ y.cls ≠ "java/lang/invoke/VarHandle" ∧ (parseMethodDescriptor y.desc).map (fun d => d.parameters.length) = some n)
theorem fb_PcW (as : List Value) (sz : Nat) : FrameBlind (va_Pc as (PcW G V sz)) := fun a U g mk q => ⟨q.1, q.2.1, q.2.2.1, q.2.2.2.call g mk a⟩
theorem pc_at {H : Heap} (C : Cx G nL X own cc d) (hP : va_P G.1 vwCl (wld G V) H) : ∀ U : State, U.heap = H → (xs X).WarmedH U.vm → (va_Pc As (PcW G V H.size)) As.toArray U :=
  fun U hU hW => ⟨rfl, by rw [hU], by rw [hU]; exact hP, C.2.2.2.2.2.1.warm hW⟩
theorem j_go {H : Heap} {locs : List Loc} {ls : Array Slot} {pc : Nat} {st0 : List Value} {as : Array Value} {x0 : ρ}
    (hr : va_Run (xp X) (xl X) (xe X) (xR X) (xs X) (xm X) (xa X) (xb X) (xM X) (xc X) H locs (xk X) (xz X) 0 0 (F0 (xm X) pc ls st0) st (QR G H.size rv V1 as) (AA G H.size))
    (hS : va_S (AA G (xs X).heap.size) (xs X).heap H locs) (hV : V1 = V2) (h0 : sp = some x0) (hl : lv_has ls nL L)
    (k : JS G nL X Q sp V2 (pc + 3) L (rv.toList ++ st)) : xW X H locs (Q x0) (F0 (xm X) pc ls st0) := by
  subst hV
  intro T hT X9
  obtain ⟨v, st₀, t, T', L9, hh, X', hL, e1, e2, ⟨⟨hv, hp⟩, hz, hk⟩, st9⟩ := hr T hT X9
  cases hv
  rw [hh] at hz hk
  have hA : ∀ q, AA G H.size q → AA G (xs X).heap.size q := fun q h => h.elim Or.inl (fun h => Or.inr (Nat.le_trans hS.1 h))
  obtain ⟨t2, a1, b1⟩ := k x0 h0 t.heap (locs ++ L9) ls hp ⟨Nat.le_trans hS.1 hz, fun q h1 h2 => (hk q (Nat.lt_of_lt_of_le h1 hS.1) (fun z => h2 (hA q z))).trans (hS.2.1 q h1 h2), fun q hq => by
      rcases List.mem_append.mp hq with h | h
      · exact hS.2.2 q h
      · exact hA _ (hL q h)⟩ hl T' e1 X'
  exact ⟨t2, st9 t2 a1, b1⟩
theorem kb_of (C : Cx G nL X own cc d) (hK : KY y bytes maxL ret n) (hlink : Cond.methodLink own index y ∈ gw) (hd : d1 + 1 ≤ d) : CallB (xR X) (xs X) (xa X) own index y bytes maxL ret (gws y bytes maxL ret) (RM d1) 0 0 n := by
  refine callB_of n C.2.2.2.2.1 (gws_in hK.1) rfl rfl rfl (C.2.2.2.2.1 _ hK.2.1) (C.2.2.2.2.1 _ hlink) hK.2.2.2 ⟨?_, ?_⟩
  · have := C.2.2.2.2.2.2.2.2.1
    show d1 + 1 ≤ _
    omega
  · have h1 := C.2.2.2.2.2.2.2.2.2.1
    have h2 := hK.2.2.1
    show 8 + (maxL + 11) + 35 * d1 ≤ _
    omega
theorem j_callV (C : Cx G nL X own cc d) (hK : KY y bytes maxL ret n) {b q ci : Nat} {cd : String × u_T × Nat} {fs : List Value} (pc : Nat) (hct : Ct (xl X) y bytes maxL ret d1 (.ref b :: As) G V rv V1) (hV : V1 = V2) (hq : q < nG G) (hb : b = G.2.2 q) (hc : cellA G.2.1 G.2.2 V q = .inr (ci, fs)) (hcl : vwCl[ci]? = some cd) (hcn : cd.1 = y.cls)
    (hlink : Cond.methodLink own index y ∈ gw) (hi : Cond.instanceMethod y ∈ gw) (hs : Cond.selects y.cls y y ∈ gw) (hdd : d1 + 1 ≤ d) (hn : As.length = n) (hst : (st.map fun v => v.category).sum ≤ 8) (hd : decode cc pc = .ok (.invokevirtual index, 3))
    (k : JS G nL X Q sp V2 (pc + 3) L (rv.toList ++ st)) {st0 : List Value} (h0 : st0 = As.reverse ++ .ref b :: st) : JS G nL X Q sp V pc L st0 := by
  subst h0
  intro x0 h0 H locs ls hP hS hl
  have hc2 : (wld G V)[q]? = some (b, .inr (ci, fs)) := by rw [wld_at G V hq, hc, hb]
  exact j_go (va_runV ⟨C.1, C.2.1, C.2.2.1, C.2.2.2.1, C.2.2.2.2.1⟩ (hct H.size) ⟨kb_of C hK hlink hdd, C.2.2.2.2.1 _ hi, C.2.2.2.2.1 _ hs⟩ ⟨fb_PcW _ _, hcn ▸ va_recv C.2.2.2.2.2.1.1 hP hcl hc2, pc_at C hP⟩ rfl hn hl.1 rfl (lv_room hst) hd ⟨C.2.2.2.2.2.2.2.2.2.2.1, C.2.2.2.2.2.2.2.2.2.2.2⟩) hS hV h0 hl k
theorem j_callS (C : Cx G nL X own cc d) (hK : KY y bytes maxL ret n) (pc : Nat) (hct : Ct (xl X) y bytes maxL ret d1 As G V rv V1) (hV : V1 = V2) (hlink : Cond.methodLink own index y ∈ gw) (hi : Cond.static y ∈ gw) (hdd : d1 + 1 ≤ d) (hn : As.length = n) (hst : (st.map fun v => v.category).sum ≤ 8) (hd : decode cc pc = .ok (.invokestatic index, 3))
    (k : JS G nL X Q sp V2 (pc + 3) L (rv.toList ++ st)) {st0 : List Value} (h0 : st0 = As.reverse ++ st) : JS G nL X Q sp V pc L st0 := by
  subst h0
  intro x0 h0 H locs ls hP hS hl
  exact j_go (va_runS ⟨C.1, C.2.1, C.2.2.1, C.2.2.2.1, C.2.2.2.2.1⟩ (hct H.size) ⟨kb_of C hK hlink hdd, C.2.2.2.2.1 _ hi⟩ ⟨fb_PcW _ _, pc_at C hP⟩ rfl hn hl.1 rfl (lv_room hst) hd ⟨C.2.2.2.2.2.2.2.2.2.2.1, C.2.2.2.2.2.2.2.2.2.2.2⟩) hS hV h0 hl k
theorem j_callSN (C : Cx G nL X own cc d) (hK : KY y bytes maxL ret n) {host : String} (pc : Nat) (hct : Ct (xl X) y bytes maxL ret d1 As G V rv V1) (hV : V1 = V2) (hlink : Cond.methodLinkNest own index y host ∈ nestW) (hi : Cond.static y ∈ gw) (hdd : d1 + 1 ≤ d) (hn : As.length = n) (hst : (st.map fun v => v.category).sum ≤ 8) (hd : decode cc pc = .ok (.invokestatic index, 3))
    (k : JS G nL X Q sp V2 (pc + 3) L (rv.toList ++ st)) {st0 : List Value} (h0 : st0 = As.reverse ++ st) : JS G nL X Q sp V pc L st0 := by
  subst h0
  intro x0 h0 H locs ls hP hS hl
  have hcn : va_CN (xR X) (xs X) (xa X) own index y host bytes maxL ret (gws y bytes maxL ret) (RM d1) 0 0 n := by
    refine va_cnB n C.2.2.2.2.1 (gws_in hK.1) rfl rfl rfl (C.2.2.2.2.2.1.2 _ hlink) (C.2.2.2.2.1 _ hK.2.1) hK.2.2.2 ⟨?_, ?_⟩
    · have := C.2.2.2.2.2.2.2.2.1
      show d1 + 1 ≤ _
      omega
    · have h1 := C.2.2.2.2.2.2.2.2.2.1
      have h2 := hK.2.2.1
      show 8 + (maxL + 11) + 35 * d1 ≤ _
      omega
  exact j_go (va_runSN ⟨C.1, C.2.1, C.2.2.1, C.2.2.2.1, C.2.2.2.2.1⟩ (hct H.size) ⟨hcn, C.2.2.2.2.1 _ hi, trivial⟩ ⟨fb_PcW _ _, pc_at C hP⟩ rfl hn hl.1 rfl (lv_room hst) hd ⟨C.2.2.2.2.2.2.2.2.2.2.1, C.2.2.2.2.2.2.2.2.2.2.2⟩) hS hV h0 hl k
end
end
section
def FL (own : String) (index : Nat) (CN n dd : String) : Prop := Cond.fieldLink own index CN n dd ∈ gw ∨ ∃ host, Cond.fieldLinkNest own index CN n dd host ∈ nestW
theorem iw0 : ∀ w ∈ u_ws RX0 TX0 3, w ∈ gw := by
  show ∀ w ∈ [u_lay RX0 TX0 0, u_lay RX0 TX0 1, u_lay RX0 TX0 2], w ∈ gw
  exact (List.forall_mem_cons.mpr ⟨gwm (i := 116) (by decide +kernel) (by decide +kernel), (List.forall_mem_cons.mpr ⟨gwm (i := 118) (by decide +kernel) (by decide +kernel), (List.forall_mem_cons.mpr ⟨gwm (i := 120) (by decide +kernel) (by decide +kernel), (fun _ h => nomatch h)⟩)⟩)⟩)
theorem iw1 : ∀ w ∈ u_ws RX1 TX1 7, w ∈ gw := by
  show ∀ w ∈ [u_lay RX1 TX1 0, u_lay RX1 TX1 1, u_lay RX1 TX1 2, u_lay RX1 TX1 3, u_lay RX1 TX1 4, u_lay RX1 TX1 5, u_lay RX1 TX1 6], w ∈ gw
  exact (List.forall_mem_cons.mpr ⟨gwm (i := 90) (by decide +kernel) (by decide +kernel), (List.forall_mem_cons.mpr ⟨gwm (i := 92) (by decide +kernel) (by decide +kernel), (List.forall_mem_cons.mpr ⟨gwm (i := 94) (by decide +kernel) (by decide +kernel), (List.forall_mem_cons.mpr ⟨gwm (i := 96) (by decide +kernel) (by decide +kernel), (List.forall_mem_cons.mpr ⟨gwm (i := 98) (by decide +kernel) (by decide +kernel), (List.forall_mem_cons.mpr ⟨gwm (i := 100) (by decide +kernel) (by decide +kernel), (List.forall_mem_cons.mpr ⟨gwm (i := 102) (by decide +kernel) (by decide +kernel), (fun _ h => nomatch h)⟩)⟩)⟩)⟩)⟩)⟩)⟩)
theorem iw2 : ∀ w ∈ u_ws RX2 TX2 9, w ∈ gw := by
  show ∀ w ∈ [u_lay RX2 TX2 0, u_lay RX2 TX2 1, u_lay RX2 TX2 2, u_lay RX2 TX2 3, u_lay RX2 TX2 4, u_lay RX2 TX2 5, u_lay RX2 TX2 6, u_lay RX2 TX2 7, u_lay RX2 TX2 8], w ∈ gw
  exact (List.forall_mem_cons.mpr ⟨gwm (i := 139) (by decide +kernel) (by decide +kernel), (List.forall_mem_cons.mpr ⟨gwm (i := 141) (by decide +kernel) (by decide +kernel), (List.forall_mem_cons.mpr ⟨gwm (i := 143) (by decide +kernel) (by decide +kernel), (List.forall_mem_cons.mpr ⟨gwm (i := 145) (by decide +kernel) (by decide +kernel), (List.forall_mem_cons.mpr ⟨gwm (i := 147) (by decide +kernel) (by decide +kernel), (List.forall_mem_cons.mpr ⟨gwm (i := 149) (by decide +kernel) (by decide +kernel), (List.forall_mem_cons.mpr ⟨gwm (i := 151) (by decide +kernel) (by decide +kernel), (List.forall_mem_cons.mpr ⟨gwm (i := 153) (by decide +kernel) (by decide +kernel), (List.forall_mem_cons.mpr ⟨gwm (i := 155) (by decide +kernel) (by decide +kernel), (fun _ h => nomatch h)⟩)⟩)⟩)⟩)⟩)⟩)⟩)⟩)⟩)
theorem iw3 : ∀ w ∈ u_ws RX3 TX3 6, w ∈ gw := by
  show ∀ w ∈ [u_lay RX3 TX3 0, u_lay RX3 TX3 1, u_lay RX3 TX3 2, u_lay RX3 TX3 3, u_lay RX3 TX3 4, u_lay RX3 TX3 5], w ∈ gw
  exact (List.forall_mem_cons.mpr ⟨gwm (i := 59) (by decide +kernel) (by decide +kernel), (List.forall_mem_cons.mpr ⟨gwm (i := 61) (by decide +kernel) (by decide +kernel), (List.forall_mem_cons.mpr ⟨gwm (i := 63) (by decide +kernel) (by decide +kernel), (List.forall_mem_cons.mpr ⟨gwm (i := 65) (by decide +kernel) (by decide +kernel), (List.forall_mem_cons.mpr ⟨gwm (i := 67) (by decide +kernel) (by decide +kernel), (List.forall_mem_cons.mpr ⟨gwm (i := 69) (by decide +kernel) (by decide +kernel), (fun _ h => nomatch h)⟩)⟩)⟩)⟩)⟩)⟩)
theorem iw4 : ∀ w ∈ u_ws RX4 TX4 7, w ∈ gw := by
  show ∀ w ∈ [u_lay RX4 TX4 0, u_lay RX4 TX4 1, u_lay RX4 TX4 2, u_lay RX4 TX4 3, u_lay RX4 TX4 4, u_lay RX4 TX4 5, u_lay RX4 TX4 6], w ∈ gw
  exact (List.forall_mem_cons.mpr ⟨gwm (i := 168) (by decide +kernel) (by decide +kernel), (List.forall_mem_cons.mpr ⟨gwm (i := 170) (by decide +kernel) (by decide +kernel), (List.forall_mem_cons.mpr ⟨gwm (i := 172) (by decide +kernel) (by decide +kernel), (List.forall_mem_cons.mpr ⟨gwm (i := 174) (by decide +kernel) (by decide +kernel), (List.forall_mem_cons.mpr ⟨gwm (i := 176) (by decide +kernel) (by decide +kernel), (List.forall_mem_cons.mpr ⟨gwm (i := 178) (by decide +kernel) (by decide +kernel), (List.forall_mem_cons.mpr ⟨gwm (i := 180) (by decide +kernel) (by decide +kernel), (fun _ h => nomatch h)⟩)⟩)⟩)⟩)⟩)⟩)⟩)
theorem iw5 : ∀ w ∈ u_ws RX5 TX5 8, w ∈ gw := by
  show ∀ w ∈ [u_lay RX5 TX5 0, u_lay RX5 TX5 1, u_lay RX5 TX5 2, u_lay RX5 TX5 3, u_lay RX5 TX5 4, u_lay RX5 TX5 5, u_lay RX5 TX5 6, u_lay RX5 TX5 7], w ∈ gw
  exact (List.forall_mem_cons.mpr ⟨gwm (i := 194) (by decide +kernel) (by decide +kernel), (List.forall_mem_cons.mpr ⟨gwm (i := 196) (by decide +kernel) (by decide +kernel), (List.forall_mem_cons.mpr ⟨gwm (i := 198) (by decide +kernel) (by decide +kernel), (List.forall_mem_cons.mpr ⟨gwm (i := 200) (by decide +kernel) (by decide +kernel), (List.forall_mem_cons.mpr ⟨gwm (i := 202) (by decide +kernel) (by decide +kernel), (List.forall_mem_cons.mpr ⟨gwm (i := 204) (by decide +kernel) (by decide +kernel), (List.forall_mem_cons.mpr ⟨gwm (i := 206) (by decide +kernel) (by decide +kernel), (List.forall_mem_cons.mpr ⟨gwm (i := 208) (by decide +kernel) (by decide +kernel), (fun _ h => nomatch h)⟩)⟩)⟩)⟩)⟩)⟩)⟩)⟩)
section
variable {ρ : Type} {G : GG} {nL : Nat} {X : WX} {Q : ρ → State → Prop} {sp : Option ρ} {V : VA} {L : List (Nat × Value)} {st : List Value} {own : String} {cc : ByteArray} {d : Nat} {c0 : VC} {w : VW} {k : Nat}
theorem j_fget (C : Cx G nL X own cc d) {ci n N index a : Nat} {CN : String} {T : u_T} {fs : List Value} {v : Value} (pc q : Nat) (hq : q < nG G) (ha : a = G.2.2 q) (hc : cellA G.2.1 G.2.2 V q = .inr (ci, fs)) (hcl : vwCl[ci]? = some (CN, T, N)) (hin : ∀ w ∈ u_ws CN T N, w ∈ gw) (hk : n < N) (hlink : FL own index CN (T n).2.1 (T n).2.2.1) (hT : (T n).1 = CN) (hv : fs[n]? = some v) (hd : decode cc pc = .ok (.getfield index, 3))
    (kk : JS G nL X Q sp V (pc + 3) L (v :: st)) : JS G nL X Q sp V pc L (.ref a :: st) := by
  rcases hlink with h | ⟨host, h⟩
  · exact j_get C pc q hq ha hc hcl hin hk (ref := CN) h hT hv hd kk
  · exact j_getN C pc q hq ha hc hcl hin hk (ref := CN) h hT hv hd kk
theorem g_Sk0 (C : Cx G nL X own cc d) (hk : k < 8) (pc : Nat) {index : Nat} (hl : FL own index RX3 "sizes" "[I") (hd : decode cc pc = .ok (.getfield index, 3))
    (kk : JS G nL X Q sp (c0, w) (pc + 3) L (.ref (G.2.2 (23 + 7 * k)) :: st)) : JS G nL X Q sp (c0, w) pc L (.ref (G.2.2 (22 + 7 * k)) :: st) := by
  exact j_fget C pc (22 + 7 * k) (nG_lt C.2.2.2.2.2.2.1 (by omega)) rfl (at_sk (j := 0) hk (by omega)) (ci := 3) (n := 0) rfl iw3 (by omega) hl rfl rfl hd kk
theorem g_Sk1 (C : Cx G nL X own cc d) (hk : k < 8) (pc : Nat) {index : Nat} (hl : FL own index RX3 "ranks" "[I") (hd : decode cc pc = .ok (.getfield index, 3))
    (kk : JS G nL X Q sp (c0, w) (pc + 3) L (.ref (G.2.2 (24 + 7 * k)) :: st)) : JS G nL X Q sp (c0, w) pc L (.ref (G.2.2 (22 + 7 * k)) :: st) := by
  exact j_fget C pc (22 + 7 * k) (nG_lt C.2.2.2.2.2.2.1 (by omega)) rfl (at_sk (j := 0) hk (by omega)) (ci := 3) (n := 1) rfl iw3 (by omega) hl rfl rfl hd kk
theorem g_Sk2 (C : Cx G nL X own cc d) (hk : k < 8) (pc : Nat) {index : Nat} (hl : FL own index RX3 "delays" "[I") (hd : decode cc pc = .ok (.getfield index, 3))
    (kk : JS G nL X Q sp (c0, w) (pc + 3) L (.ref (G.2.2 (25 + 7 * k)) :: st)) : JS G nL X Q sp (c0, w) pc L (.ref (G.2.2 (22 + 7 * k)) :: st) := by
  exact j_fget C pc (22 + 7 * k) (nG_lt C.2.2.2.2.2.2.1 (by omega)) rfl (at_sk (j := 0) hk (by omega)) (ci := 3) (n := 2) rfl iw3 (by omega) hl rfl rfl hd kk
theorem g_Sk3 (C : Cx G nL X own cc d) (hk : k < 8) (pc : Nat) {index : Nat} (hl : FL own index RX3 "reads" "[I") (hd : decode cc pc = .ok (.getfield index, 3))
    (kk : JS G nL X Q sp (c0, w) (pc + 3) L (.ref (G.2.2 (26 + 7 * k)) :: st)) : JS G nL X Q sp (c0, w) pc L (.ref (G.2.2 (22 + 7 * k)) :: st) := by
  exact j_fget C pc (22 + 7 * k) (nG_lt C.2.2.2.2.2.2.1 (by omega)) rfl (at_sk (j := 0) hk (by omega)) (ci := 3) (n := 3) rfl iw3 (by omega) hl rfl rfl hd kk
theorem g_Sk4 (C : Cx G nL X own cc d) (hk : k < 8) (pc : Nat) {index : Nat} (hl : FL own index RX3 "failed" "[Z") (hd : decode cc pc = .ok (.getfield index, 3))
    (kk : JS G nL X Q sp (c0, w) (pc + 3) L (.ref (G.2.2 (27 + 7 * k)) :: st)) : JS G nL X Q sp (c0, w) pc L (.ref (G.2.2 (22 + 7 * k)) :: st) := by
  exact j_fget C pc (22 + 7 * k) (nG_lt C.2.2.2.2.2.2.1 (by omega)) rfl (at_sk (j := 0) hk (by omega)) (ci := 3) (n := 4) rfl iw3 (by omega) hl rfl rfl hd kk
theorem g_Sk5 (C : Cx G nL X own cc d) (hk : k < 8) (pc : Nat) {index : Nat} (hl : FL own index RX3 "mapped" "[Z") (hd : decode cc pc = .ok (.getfield index, 3))
    (kk : JS G nL X Q sp (c0, w) (pc + 3) L (.ref (G.2.2 (28 + 7 * k)) :: st)) : JS G nL X Q sp (c0, w) pc L (.ref (G.2.2 (22 + 7 * k)) :: st) := by
  exact j_fget C pc (22 + 7 * k) (nG_lt C.2.2.2.2.2.2.1 (by omega)) rfl (at_sk (j := 0) hk (by omega)) (ci := 3) (n := 5) rfl iw3 (by omega) hl rfl rfl hd kk
theorem g_Ly0 (C : Cx G nL X own cc d) (hk : k < 9) {v : VLy} (hv : c0.2.1 k = v) (pc : Nat) {index : Nat} (hl : FL own index RX1 "kind" "I") (hd : decode cc pc = .ok (.getfield index, 3))
    (kk : JS G nL X Q sp (c0, w) (pc + 3) L (.int v.1 :: st)) : JS G nL X Q sp (c0, w) pc L (.ref (G.2.2 (78 + 2 * k)) :: st) := by
  subst hv
  exact j_fget C pc (78 + 2 * k) (nG_lt C.2.2.2.2.2.2.1 (by omega)) rfl (at_ly hk) (ci := 1) (n := 0) rfl iw1 (by omega) hl rfl rfl hd kk
theorem g_Ly1 (C : Cx G nL X own cc d) (hk : k < 9) (pc : Nat) {index : Nat} (hl : FL own index RX1 "sizes" "[I") (hd : decode cc pc = .ok (.getfield index, 3))
    (kk : JS G nL X Q sp (c0, w) (pc + 3) L (.ref (G.2.2 (79 + 2 * k)) :: st)) : JS G nL X Q sp (c0, w) pc L (.ref (G.2.2 (78 + 2 * k)) :: st) := by
  exact j_fget C pc (78 + 2 * k) (nG_lt C.2.2.2.2.2.2.1 (by omega)) rfl (at_ly hk) (ci := 1) (n := 1) rfl iw1 (by omega) hl rfl rfl hd kk
theorem g_Ly2 (C : Cx G nL X own cc d) (hk : k < 9) {v : VLy} (hv : c0.2.1 k = v) (pc : Nat) {index : Nat} (hl : FL own index RX1 "room0" "I") (hd : decode cc pc = .ok (.getfield index, 3))
    (kk : JS G nL X Q sp (c0, w) (pc + 3) L (.int v.2.2.1 :: st)) : JS G nL X Q sp (c0, w) pc L (.ref (G.2.2 (78 + 2 * k)) :: st) := by
  subst hv
  exact j_fget C pc (78 + 2 * k) (nG_lt C.2.2.2.2.2.2.1 (by omega)) rfl (at_ly hk) (ci := 1) (n := 2) rfl iw1 (by omega) hl rfl rfl hd kk
theorem g_Ly3 (C : Cx G nL X own cc d) (hk : k < 9) {v : VLy} (hv : c0.2.1 k = v) (pc : Nat) {index : Nat} (hl : FL own index RX1 "room1" "I") (hd : decode cc pc = .ok (.getfield index, 3))
    (kk : JS G nL X Q sp (c0, w) (pc + 3) L (.int v.2.2.2.1 :: st)) : JS G nL X Q sp (c0, w) pc L (.ref (G.2.2 (78 + 2 * k)) :: st) := by
  subst hv
  exact j_fget C pc (78 + 2 * k) (nG_lt C.2.2.2.2.2.2.1 (by omega)) rfl (at_ly hk) (ci := 1) (n := 3) rfl iw1 (by omega) hl rfl rfl hd kk
theorem g_Ly4 (C : Cx G nL X own cc d) (hk : k < 9) {v : VLy} (hv : c0.2.1 k = v) (pc : Nat) {index : Nat} (hl : FL own index RX1 "lesserRoom" "I") (hd : decode cc pc = .ok (.getfield index, 3))
    (kk : JS G nL X Q sp (c0, w) (pc + 3) L (.int v.2.2.2.2.1 :: st)) : JS G nL X Q sp (c0, w) pc L (.ref (G.2.2 (78 + 2 * k)) :: st) := by
  subst hv
  exact j_fget C pc (78 + 2 * k) (nG_lt C.2.2.2.2.2.2.1 (by omega)) rfl (at_ly hk) (ci := 1) (n := 4) rfl iw1 (by omega) hl rfl rfl hd kk
theorem g_Ly5 (C : Cx G nL X own cc d) (hk : k < 9) {v : VLy} (hv : c0.2.1 k = v) (pc : Nat) {index : Nat} (hl : FL own index RX1 "blocks" "I") (hd : decode cc pc = .ok (.getfield index, 3))
    (kk : JS G nL X Q sp (c0, w) (pc + 3) L (.int v.2.2.2.2.2.1 :: st)) : JS G nL X Q sp (c0, w) pc L (.ref (G.2.2 (78 + 2 * k)) :: st) := by
  subst hv
  exact j_fget C pc (78 + 2 * k) (nG_lt C.2.2.2.2.2.2.1 (by omega)) rfl (at_ly hk) (ci := 1) (n := 5) rfl iw1 (by omega) hl rfl rfl hd kk
theorem g_Ly6 (C : Cx G nL X own cc d) (hk : k < 9) {v : VLy} (hv : c0.2.1 k = v) (pc : Nat) {index : Nat} (hl : FL own index RX1 "wide" "I") (hd : decode cc pc = .ok (.getfield index, 3))
    (kk : JS G nL X Q sp (c0, w) (pc + 3) L (.int v.2.2.2.2.2.2 :: st)) : JS G nL X Q sp (c0, w) pc L (.ref (G.2.2 (78 + 2 * k)) :: st) := by
  subst hv
  exact j_fget C pc (78 + 2 * k) (nG_lt C.2.2.2.2.2.2.1 (by omega)) rfl (at_ly hk) (ci := 1) (n := 6) rfl iw1 (by omega) hl rfl rfl hd kk
theorem g_Ck0 (C : Cx G nL X own cc d) (hk : k < 9) (pc : Nat) {index : Nat} (hl : FL own index RX0 "free" "[I") (hd : decode cc pc = .ok (.getfield index, 3))
    (kk : JS G nL X Q sp (c0, w) (pc + 3) L (.ref (G.2.2 (97 + 2 * k)) :: st)) : JS G nL X Q sp (c0, w) pc L (.ref (G.2.2 (96 + 2 * k)) :: st) := by
  exact j_fget C pc (96 + 2 * k) (nG_lt C.2.2.2.2.2.2.1 (by omega)) rfl (at_ck hk) (ci := 0) (n := 0) rfl iw0 (by omega) hl rfl rfl hd kk
theorem g_Ck1 (C : Cx G nL X own cc d) (hk : k < 9) {v : VCk} (hv : c0.2.2.1 k = v) (pc : Nat) {index : Nat} (hl : FL own index RX0 "tick" "I") (hd : decode cc pc = .ok (.getfield index, 3))
    (kk : JS G nL X Q sp (c0, w) (pc + 3) L (.int v.2.1 :: st)) : JS G nL X Q sp (c0, w) pc L (.ref (G.2.2 (96 + 2 * k)) :: st) := by
  subst hv
  exact j_fget C pc (96 + 2 * k) (nG_lt C.2.2.2.2.2.2.1 (by omega)) rfl (at_ck hk) (ci := 0) (n := 1) rfl iw0 (by omega) hl rfl rfl hd kk
theorem g_Ck2 (C : Cx G nL X own cc d) (hk : k < 9) {v : VCk} (hv : c0.2.2.1 k = v) (pc : Nat) {index : Nat} (hl : FL own index RX0 "waited" "I") (hd : decode cc pc = .ok (.getfield index, 3))
    (kk : JS G nL X Q sp (c0, w) (pc + 3) L (.int v.2.2 :: st)) : JS G nL X Q sp (c0, w) pc L (.ref (G.2.2 (96 + 2 * k)) :: st) := by
  subst hv
  exact j_fget C pc (96 + 2 * k) (nG_lt C.2.2.2.2.2.2.1 (by omega)) rfl (at_ck hk) (ci := 0) (n := 2) rfl iw0 (by omega) hl rfl rfl hd kk
theorem g_St0 (C : Cx G nL X own cc d) (hk : k < 8) (pc : Nat) {index : Nat} (hl : FL own index RX2 "sticks" "LStickPairs$Sticks;") (hd : decode cc pc = .ok (.getfield index, 3))
    (kk : JS G nL X Q sp (c0, w) (pc + 3) L (.ref (G.2.2 (22 + 7 * k)) :: st)) : JS G nL X Q sp (c0, w) pc L (.ref (G.2.2 (6 + 2 * k)) :: st) := by
  exact j_fget C pc (6 + 2 * k) (nG_lt C.2.2.2.2.2.2.1 (by omega)) rfl (at_st hk) (ci := 2) (n := 0) rfl iw2 (by omega) hl rfl rfl hd kk
theorem g_St1 (C : Cx G nL X own cc d) (hk : k < 8) (pc : Nat) {index : Nat} (hl : FL own index RX2 "layout" "LStickPairs$Layout;") (hd : decode cc pc = .ok (.getfield index, 3))
    (kk : JS G nL X Q sp (c0, w) (pc + 3) L (.ref (G.2.2 (78 + 2 * k)) :: st)) : JS G nL X Q sp (c0, w) pc L (.ref (G.2.2 (6 + 2 * k)) :: st) := by
  exact j_fget C pc (6 + 2 * k) (nG_lt C.2.2.2.2.2.2.1 (by omega)) rfl (at_st hk) (ci := 2) (n := 1) rfl iw2 (by omega) hl rfl rfl hd kk
theorem g_St2 (C : Cx G nL X own cc d) (hk : k < 8) (pc : Nat) {index : Nat} (hl : FL own index RX2 "clock" "LStickPairs$Clock;") (hd : decode cc pc = .ok (.getfield index, 3))
    (kk : JS G nL X Q sp (c0, w) (pc + 3) L (.ref (G.2.2 (96 + 2 * k)) :: st)) : JS G nL X Q sp (c0, w) pc L (.ref (G.2.2 (6 + 2 * k)) :: st) := by
  exact j_fget C pc (6 + 2 * k) (nG_lt C.2.2.2.2.2.2.1 (by omega)) rfl (at_st hk) (ci := 2) (n := 2) rfl iw2 (by omega) hl rfl rfl hd kk
theorem g_St3 (C : Cx G nL X own cc d) (hk : k < 8) (pc : Nat) {index : Nat} (hl : FL own index RX2 "values" "[I") (hd : decode cc pc = .ok (.getfield index, 3))
    (kk : JS G nL X Q sp (c0, w) (pc + 3) L (.ref (G.2.2 (7 + 2 * k)) :: st)) : JS G nL X Q sp (c0, w) pc L (.ref (G.2.2 (6 + 2 * k)) :: st) := by
  exact j_fget C pc (6 + 2 * k) (nG_lt C.2.2.2.2.2.2.1 (by omega)) rfl (at_st hk) (ci := 2) (n := 3) rfl iw2 (by omega) hl rfl rfl hd kk
theorem g_St4 (C : Cx G nL X own cc d) (hk : k < 8) {v : VI5} (hv : c0.2.2.2.2.1 k = v) (pc : Nat) {index : Nat} (hl : FL own index RX2 "mapSetting" "I") (hd : decode cc pc = .ok (.getfield index, 3))
    (kk : JS G nL X Q sp (c0, w) (pc + 3) L (.int v.1 :: st)) : JS G nL X Q sp (c0, w) pc L (.ref (G.2.2 (6 + 2 * k)) :: st) := by
  subst hv
  exact j_fget C pc (6 + 2 * k) (nG_lt C.2.2.2.2.2.2.1 (by omega)) rfl (at_st hk) (ci := 2) (n := 4) rfl iw2 (by omega) hl rfl rfl hd kk
theorem g_St5 (C : Cx G nL X own cc d) (hk : k < 8) {v : VI5} (hv : c0.2.2.2.2.1 k = v) (pc : Nat) {index : Nat} (hl : FL own index RX2 "pairSetting" "I") (hd : decode cc pc = .ok (.getfield index, 3))
    (kk : JS G nL X Q sp (c0, w) (pc + 3) L (.int v.2.1 :: st)) : JS G nL X Q sp (c0, w) pc L (.ref (G.2.2 (6 + 2 * k)) :: st) := by
  subst hv
  exact j_fget C pc (6 + 2 * k) (nG_lt C.2.2.2.2.2.2.1 (by omega)) rfl (at_st hk) (ci := 2) (n := 5) rfl iw2 (by omega) hl rfl rfl hd kk
theorem g_St6 (C : Cx G nL X own cc d) (hk : k < 8) {v : VI5} (hv : c0.2.2.2.2.1 k = v) (pc : Nat) {index : Nat} (hl : FL own index RX2 "blocksRead" "I") (hd : decode cc pc = .ok (.getfield index, 3))
    (kk : JS G nL X Q sp (c0, w) (pc + 3) L (.int v.2.2.1 :: st)) : JS G nL X Q sp (c0, w) pc L (.ref (G.2.2 (6 + 2 * k)) :: st) := by
  subst hv
  exact j_fget C pc (6 + 2 * k) (nG_lt C.2.2.2.2.2.2.1 (by omega)) rfl (at_st hk) (ci := 2) (n := 6) rfl iw2 (by omega) hl rfl rfl hd kk
theorem g_St7 (C : Cx G nL X own cc d) (hk : k < 8) {v : VI5} (hv : c0.2.2.2.2.1 k = v) (pc : Nat) {index : Nat} (hl : FL own index RX2 "pairsRead" "I") (hd : decode cc pc = .ok (.getfield index, 3))
    (kk : JS G nL X Q sp (c0, w) (pc + 3) L (.int v.2.2.2.1 :: st)) : JS G nL X Q sp (c0, w) pc L (.ref (G.2.2 (6 + 2 * k)) :: st) := by
  subst hv
  exact j_fget C pc (6 + 2 * k) (nG_lt C.2.2.2.2.2.2.1 (by omega)) rfl (at_st hk) (ci := 2) (n := 7) rfl iw2 (by omega) hl rfl rfl hd kk
theorem g_St8 (C : Cx G nL X own cc d) (hk : k < 8) {v : VI5} (hv : c0.2.2.2.2.1 k = v) (pc : Nat) {index : Nat} (hl : FL own index RX2 "starts" "I") (hd : decode cc pc = .ok (.getfield index, 3))
    (kk : JS G nL X Q sp (c0, w) (pc + 3) L (.int v.2.2.2.2 :: st)) : JS G nL X Q sp (c0, w) pc L (.ref (G.2.2 (6 + 2 * k)) :: st) := by
  subst hv
  exact j_fget C pc (6 + 2 * k) (nG_lt C.2.2.2.2.2.2.1 (by omega)) rfl (at_st hk) (ci := 2) (n := 8) rfl iw2 (by omega) hl rfl rfl hd kk
theorem g_Tx0 (C : Cx G nL X own cc d) (pc : Nat) {index : Nat} (hl : FL own index RX4 "codes" "[I") (hd : decode cc pc = .ok (.getfield index, 3))
    (kk : JS G nL X Q sp (c0, w) (pc + 3) L (.ref (G.2.2 3) :: st)) : JS G nL X Q sp (c0, w) pc L (.ref (G.2.2 2) :: st) := by
  exact j_fget C pc 2 (nG_lt C.2.2.2.2.2.2.1 (by omega)) rfl (at_sp (j := 2) (by omega)) (ci := 4) (n := 0) rfl iw4 (by omega) hl rfl rfl hd kk
theorem g_Tx1 (C : Cx G nL X own cc d) {v : VTx} (hv : c0.2.2.2.2.2.1 = v) (pc : Nat) {index : Nat} (hl : FL own index RX4 "length" "I") (hd : decode cc pc = .ok (.getfield index, 3))
    (kk : JS G nL X Q sp (c0, w) (pc + 3) L (.int v.2.1 :: st)) : JS G nL X Q sp (c0, w) pc L (.ref (G.2.2 2) :: st) := by
  subst hv
  exact j_fget C pc 2 (nG_lt C.2.2.2.2.2.2.1 (by omega)) rfl (at_sp (j := 2) (by omega)) (ci := 4) (n := 1) rfl iw4 (by omega) hl rfl rfl hd kk
theorem g_Tx2 (C : Cx G nL X own cc d) (pc : Nat) {index : Nat} (hl : FL own index RX4 "firsts" "[I") (hd : decode cc pc = .ok (.getfield index, 3))
    (kk : JS G nL X Q sp (c0, w) (pc + 3) L (.ref (G.2.2 4) :: st)) : JS G nL X Q sp (c0, w) pc L (.ref (G.2.2 2) :: st) := by
  exact j_fget C pc 2 (nG_lt C.2.2.2.2.2.2.1 (by omega)) rfl (at_sp (j := 2) (by omega)) (ci := 4) (n := 2) rfl iw4 (by omega) hl rfl rfl hd kk
theorem g_Tx3 (C : Cx G nL X own cc d) (pc : Nat) {index : Nat} (hl : FL own index RX4 "lasts" "[I") (hd : decode cc pc = .ok (.getfield index, 3))
    (kk : JS G nL X Q sp (c0, w) (pc + 3) L (.ref (G.2.2 5) :: st)) : JS G nL X Q sp (c0, w) pc L (.ref (G.2.2 2) :: st) := by
  exact j_fget C pc 2 (nG_lt C.2.2.2.2.2.2.1 (by omega)) rfl (at_sp (j := 2) (by omega)) (ci := 4) (n := 3) rfl iw4 (by omega) hl rfl rfl hd kk
theorem g_Tx4 (C : Cx G nL X own cc d) {v : VTx} (hv : c0.2.2.2.2.2.1 = v) (pc : Nat) {index : Nat} (hl : FL own index RX4 "part" "I") (hd : decode cc pc = .ok (.getfield index, 3))
    (kk : JS G nL X Q sp (c0, w) (pc + 3) L (.int v.2.2.2.2.1 :: st)) : JS G nL X Q sp (c0, w) pc L (.ref (G.2.2 2) :: st) := by
  subst hv
  exact j_fget C pc 2 (nG_lt C.2.2.2.2.2.2.1 (by omega)) rfl (at_sp (j := 2) (by omega)) (ci := 4) (n := 4) rfl iw4 (by omega) hl rfl rfl hd kk
theorem g_Tx5 (C : Cx G nL X own cc d) {v : VTx} (hv : c0.2.2.2.2.2.1 = v) (pc : Nat) {index : Nat} (hl : FL own index RX4 "ranged" "Z") (hd : decode cc pc = .ok (.getfield index, 3))
    (kk : JS G nL X Q sp (c0, w) (pc + 3) L (.int v.2.2.2.2.2.1 :: st)) : JS G nL X Q sp (c0, w) pc L (.ref (G.2.2 2) :: st) := by
  subst hv
  exact j_fget C pc 2 (nG_lt C.2.2.2.2.2.2.1 (by omega)) rfl (at_sp (j := 2) (by omega)) (ci := 4) (n := 5) rfl iw4 (by omega) hl rfl rfl hd kk
theorem g_Tx6 (C : Cx G nL X own cc d) {v : VTx} (hv : c0.2.2.2.2.2.1 = v) (pc : Nat) {index : Nat} (hl : FL own index RX4 "number" "I") (hd : decode cc pc = .ok (.getfield index, 3))
    (kk : JS G nL X Q sp (c0, w) (pc + 3) L (.int v.2.2.2.2.2.2 :: st)) : JS G nL X Q sp (c0, w) pc L (.ref (G.2.2 2) :: st) := by
  subst hv
  exact j_fget C pc 2 (nG_lt C.2.2.2.2.2.2.1 (by omega)) rfl (at_sp (j := 2) (by omega)) (ci := 4) (n := 6) rfl iw4 (by omega) hl rfl rfl hd kk
theorem g_Sp0 (C : Cx G nL X own cc d) (pc : Nat) {index : Nat} (hl : FL own index RX5 "now" "LStickPairs$State;") (hd : decode cc pc = .ok (.getfield index, 3))
    (kk : JS G nL X Q sp (c0, w) (pc + 3) L (.ref (G.2.2 6) :: st)) : JS G nL X Q sp (c0, w) pc L (.ref (G.2.2 0) :: st) := by
  exact j_fget C pc 0 (nG_lt C.2.2.2.2.2.2.1 (by omega)) rfl (at_sp (j := 0) (by omega)) (ci := 5) (n := 0) rfl iw5 (by omega) hl rfl rfl hd kk
theorem g_Sp1 (C : Cx G nL X own cc d) (pc : Nat) {index : Nat} (hl : FL own index RX5 "snapshot" "LStickPairs$State;") (hd : decode cc pc = .ok (.getfield index, 3))
    (kk : JS G nL X Q sp (c0, w) (pc + 3) L (.ref (G.2.2 8) :: st)) : JS G nL X Q sp (c0, w) pc L (.ref (G.2.2 0) :: st) := by
  exact j_fget C pc 0 (nG_lt C.2.2.2.2.2.2.1 (by omega)) rfl (at_sp (j := 0) (by omega)) (ci := 5) (n := 1) rfl iw5 (by omega) hl rfl rfl hd kk
theorem g_Sp2 (C : Cx G nL X own cc d) (pc : Nat) {index : Nat} (hl : FL own index RX5 "hasSnapshot" "Z") (hd : decode cc pc = .ok (.getfield index, 3))
    (kk : JS G nL X Q sp (c0, w) (pc + 3) L (.int c0.2.2.2.2.2.2.1 :: st)) : JS G nL X Q sp (c0, w) pc L (.ref (G.2.2 0) :: st) := by
  exact j_fget C pc 0 (nG_lt C.2.2.2.2.2.2.1 (by omega)) rfl (at_sp (j := 0) (by omega)) (ci := 5) (n := 2) rfl iw5 (by omega) hl rfl rfl hd kk
theorem g_Sp3 (C : Cx G nL X own cc d) (pc : Nat) {index : Nat} (hl : FL own index RX5 "saved" "[LStickPairs$State;") (hd : decode cc pc = .ok (.getfield index, 3))
    (kk : JS G nL X Q sp (c0, w) (pc + 3) L (.ref (G.2.2 1) :: st)) : JS G nL X Q sp (c0, w) pc L (.ref (G.2.2 0) :: st) := by
  exact j_fget C pc 0 (nG_lt C.2.2.2.2.2.2.1 (by omega)) rfl (at_sp (j := 0) (by omega)) (ci := 5) (n := 3) rfl iw5 (by omega) hl rfl rfl hd kk
theorem g_Sp4 (C : Cx G nL X own cc d) (pc : Nat) {index : Nat} (hl : FL own index RX5 "savedCount" "I") (hd : decode cc pc = .ok (.getfield index, 3))
    (kk : JS G nL X Q sp (c0, w) (pc + 3) L (.int c0.2.2.2.2.2.2.2.1 :: st)) : JS G nL X Q sp (c0, w) pc L (.ref (G.2.2 0) :: st) := by
  exact j_fget C pc 0 (nG_lt C.2.2.2.2.2.2.1 (by omega)) rfl (at_sp (j := 0) (by omega)) (ci := 5) (n := 4) rfl iw5 (by omega) hl rfl rfl hd kk
theorem g_Sp5 (C : Cx G nL X own cc d) (pc : Nat) {index : Nat} (hl : FL own index RX5 "text" "LStickPairs$Text;") (hd : decode cc pc = .ok (.getfield index, 3))
    (kk : JS G nL X Q sp (c0, w) (pc + 3) L (.ref (G.2.2 2) :: st)) : JS G nL X Q sp (c0, w) pc L (.ref (G.2.2 0) :: st) := by
  exact j_fget C pc 0 (nG_lt C.2.2.2.2.2.2.1 (by omega)) rfl (at_sp (j := 0) (by omega)) (ci := 5) (n := 5) rfl iw5 (by omega) hl rfl rfl hd kk
theorem g_Sp6 (C : Cx G nL X own cc d) (pc : Nat) {index : Nat} (hl : FL own index RX5 "trialLayout" "LStickPairs$Layout;") (hd : decode cc pc = .ok (.getfield index, 3))
    (kk : JS G nL X Q sp (c0, w) (pc + 3) L (.ref (G.2.2 94) :: st)) : JS G nL X Q sp (c0, w) pc L (.ref (G.2.2 0) :: st) := by
  exact j_fget C pc 0 (nG_lt C.2.2.2.2.2.2.1 (by omega)) rfl (at_sp (j := 0) (by omega)) (ci := 5) (n := 6) rfl iw5 (by omega) hl rfl rfl hd kk
theorem g_Sp7 (C : Cx G nL X own cc d) (pc : Nat) {index : Nat} (hl : FL own index RX5 "trialClock" "LStickPairs$Clock;") (hd : decode cc pc = .ok (.getfield index, 3))
    (kk : JS G nL X Q sp (c0, w) (pc + 3) L (.ref (G.2.2 112) :: st)) : JS G nL X Q sp (c0, w) pc L (.ref (G.2.2 0) :: st) := by
  exact j_fget C pc 0 (nG_lt C.2.2.2.2.2.2.1 (by omega)) rfl (at_sp (j := 0) (by omega)) (ci := 5) (n := 7) rfl iw5 (by omega) hl rfl rfl hd kk
theorem p_Ly0 (C : Cx G nL X own cc d) (hk : k < 9) {v : VLy} {x : Int32} (pc : Nat) {index : Nat} (hl : Cond.fieldLink own index RX1 "kind" "I" ∈ gw) (hd : decode cc pc = .ok (.putfield index, 3))
    (kk : JS G nL X Q sp (sLy c0 k (x, v.2), w) (pc + 3) L st) : JS G nL X Q sp (sLy c0 k v, w) pc L (.int x :: .ref (G.2.2 (78 + 2 * k)) :: st) :=
  j_put C pc (78 + 2 * k) (nG_lt C.2.2.2.2.2.2.1 (by omega)) rfl (at_ly hk) (ci := 1) (n := 0) rfl iw1 tyX1_ok nmX1 (by omega) hl rfl rfl rfl rfl rfl (Nat.le_of_ble_eq_true rfl) (by have h := up_ly (n0 := nG G) (cy := G.2.1) (ad := G.2.2) (c := sLy c0 k v) (w := w) (v := (x, v.2)) hk (by rw [sLy_get]); rw [sLy_up] at h; rw [sLy_get]; exact h) hd kk
theorem p_Ly2 (C : Cx G nL X own cc d) (hk : k < 9) {v : VLy} {x : Int32} (pc : Nat) {index : Nat} (hl : Cond.fieldLink own index RX1 "room0" "I" ∈ gw) (hd : decode cc pc = .ok (.putfield index, 3))
    (kk : JS G nL X Q sp (sLy c0 k (v.1, v.2.1, x, v.2.2.2), w) (pc + 3) L st) : JS G nL X Q sp (sLy c0 k v, w) pc L (.int x :: .ref (G.2.2 (78 + 2 * k)) :: st) :=
  j_put C pc (78 + 2 * k) (nG_lt C.2.2.2.2.2.2.1 (by omega)) rfl (at_ly hk) (ci := 1) (n := 2) rfl iw1 tyX1_ok nmX1 (by omega) hl rfl rfl rfl rfl rfl (Nat.le_of_ble_eq_true rfl) (by have h := up_ly (n0 := nG G) (cy := G.2.1) (ad := G.2.2) (c := sLy c0 k v) (w := w) (v := (v.1, v.2.1, x, v.2.2.2)) hk (by rw [sLy_get]); rw [sLy_up] at h; rw [sLy_get]; exact h) hd kk
theorem p_Ly3 (C : Cx G nL X own cc d) (hk : k < 9) {v : VLy} {x : Int32} (pc : Nat) {index : Nat} (hl : Cond.fieldLink own index RX1 "room1" "I" ∈ gw) (hd : decode cc pc = .ok (.putfield index, 3))
    (kk : JS G nL X Q sp (sLy c0 k (v.1, v.2.1, v.2.2.1, x, v.2.2.2.2), w) (pc + 3) L st) : JS G nL X Q sp (sLy c0 k v, w) pc L (.int x :: .ref (G.2.2 (78 + 2 * k)) :: st) :=
  j_put C pc (78 + 2 * k) (nG_lt C.2.2.2.2.2.2.1 (by omega)) rfl (at_ly hk) (ci := 1) (n := 3) rfl iw1 tyX1_ok nmX1 (by omega) hl rfl rfl rfl rfl rfl (Nat.le_of_ble_eq_true rfl) (by have h := up_ly (n0 := nG G) (cy := G.2.1) (ad := G.2.2) (c := sLy c0 k v) (w := w) (v := (v.1, v.2.1, v.2.2.1, x, v.2.2.2.2)) hk (by rw [sLy_get]); rw [sLy_up] at h; rw [sLy_get]; exact h) hd kk
theorem p_Ly4 (C : Cx G nL X own cc d) (hk : k < 9) {v : VLy} {x : Int32} (pc : Nat) {index : Nat} (hl : Cond.fieldLink own index RX1 "lesserRoom" "I" ∈ gw) (hd : decode cc pc = .ok (.putfield index, 3))
    (kk : JS G nL X Q sp (sLy c0 k (v.1, v.2.1, v.2.2.1, v.2.2.2.1, x, v.2.2.2.2.2), w) (pc + 3) L st) : JS G nL X Q sp (sLy c0 k v, w) pc L (.int x :: .ref (G.2.2 (78 + 2 * k)) :: st) :=
  j_put C pc (78 + 2 * k) (nG_lt C.2.2.2.2.2.2.1 (by omega)) rfl (at_ly hk) (ci := 1) (n := 4) rfl iw1 tyX1_ok nmX1 (by omega) hl rfl rfl rfl rfl rfl (Nat.le_of_ble_eq_true rfl) (by have h := up_ly (n0 := nG G) (cy := G.2.1) (ad := G.2.2) (c := sLy c0 k v) (w := w) (v := (v.1, v.2.1, v.2.2.1, v.2.2.2.1, x, v.2.2.2.2.2)) hk (by rw [sLy_get]); rw [sLy_up] at h; rw [sLy_get]; exact h) hd kk
theorem p_Ly5 (C : Cx G nL X own cc d) (hk : k < 9) {v : VLy} {x : Int32} (pc : Nat) {index : Nat} (hl : Cond.fieldLink own index RX1 "blocks" "I" ∈ gw) (hd : decode cc pc = .ok (.putfield index, 3))
    (kk : JS G nL X Q sp (sLy c0 k (v.1, v.2.1, v.2.2.1, v.2.2.2.1, v.2.2.2.2.1, x, v.2.2.2.2.2.2), w) (pc + 3) L st) : JS G nL X Q sp (sLy c0 k v, w) pc L (.int x :: .ref (G.2.2 (78 + 2 * k)) :: st) :=
  j_put C pc (78 + 2 * k) (nG_lt C.2.2.2.2.2.2.1 (by omega)) rfl (at_ly hk) (ci := 1) (n := 5) rfl iw1 tyX1_ok nmX1 (by omega) hl rfl rfl rfl rfl rfl (Nat.le_of_ble_eq_true rfl) (by have h := up_ly (n0 := nG G) (cy := G.2.1) (ad := G.2.2) (c := sLy c0 k v) (w := w) (v := (v.1, v.2.1, v.2.2.1, v.2.2.2.1, v.2.2.2.2.1, x, v.2.2.2.2.2.2)) hk (by rw [sLy_get]); rw [sLy_up] at h; rw [sLy_get]; exact h) hd kk
theorem p_Ly6 (C : Cx G nL X own cc d) (hk : k < 9) {v : VLy} {x : Int32} (pc : Nat) {index : Nat} (hl : Cond.fieldLink own index RX1 "wide" "I" ∈ gw) (hd : decode cc pc = .ok (.putfield index, 3))
    (kk : JS G nL X Q sp (sLy c0 k (v.1, v.2.1, v.2.2.1, v.2.2.2.1, v.2.2.2.2.1, v.2.2.2.2.2.1, x), w) (pc + 3) L st) : JS G nL X Q sp (sLy c0 k v, w) pc L (.int x :: .ref (G.2.2 (78 + 2 * k)) :: st) :=
  j_put C pc (78 + 2 * k) (nG_lt C.2.2.2.2.2.2.1 (by omega)) rfl (at_ly hk) (ci := 1) (n := 6) rfl iw1 tyX1_ok nmX1 (by omega) hl rfl rfl rfl rfl rfl (Nat.le_of_ble_eq_true rfl) (by have h := up_ly (n0 := nG G) (cy := G.2.1) (ad := G.2.2) (c := sLy c0 k v) (w := w) (v := (v.1, v.2.1, v.2.2.1, v.2.2.2.1, v.2.2.2.2.1, v.2.2.2.2.2.1, x)) hk (by rw [sLy_get]); rw [sLy_up] at h; rw [sLy_get]; exact h) hd kk
theorem p_Ck1 (C : Cx G nL X own cc d) (hk : k < 9) {v : VCk} {x : Int32} (pc : Nat) {index : Nat} (hl : Cond.fieldLink own index RX0 "tick" "I" ∈ gw) (hd : decode cc pc = .ok (.putfield index, 3))
    (kk : JS G nL X Q sp (sCk c0 k (v.1, x, v.2.2), w) (pc + 3) L st) : JS G nL X Q sp (sCk c0 k v, w) pc L (.int x :: .ref (G.2.2 (96 + 2 * k)) :: st) :=
  j_put C pc (96 + 2 * k) (nG_lt C.2.2.2.2.2.2.1 (by omega)) rfl (at_ck hk) (ci := 0) (n := 1) rfl iw0 tyX0_ok nmX0 (by omega) hl rfl rfl rfl rfl rfl (Nat.le_of_ble_eq_true rfl) (by have h := up_ck (n0 := nG G) (cy := G.2.1) (ad := G.2.2) (c := sCk c0 k v) (w := w) (v := (v.1, x, v.2.2)) hk (by rw [sCk_get]); rw [sCk_up] at h; rw [sCk_get]; exact h) hd kk
theorem p_Ck2 (C : Cx G nL X own cc d) (hk : k < 9) {v : VCk} {x : Int32} (pc : Nat) {index : Nat} (hl : Cond.fieldLink own index RX0 "waited" "I" ∈ gw) (hd : decode cc pc = .ok (.putfield index, 3))
    (kk : JS G nL X Q sp (sCk c0 k (v.1, v.2.1, x), w) (pc + 3) L st) : JS G nL X Q sp (sCk c0 k v, w) pc L (.int x :: .ref (G.2.2 (96 + 2 * k)) :: st) :=
  j_put C pc (96 + 2 * k) (nG_lt C.2.2.2.2.2.2.1 (by omega)) rfl (at_ck hk) (ci := 0) (n := 2) rfl iw0 tyX0_ok nmX0 (by omega) hl rfl rfl rfl rfl rfl (Nat.le_of_ble_eq_true rfl) (by have h := up_ck (n0 := nG G) (cy := G.2.1) (ad := G.2.2) (c := sCk c0 k v) (w := w) (v := (v.1, v.2.1, x)) hk (by rw [sCk_get]); rw [sCk_up] at h; rw [sCk_get]; exact h) hd kk
theorem p_St4 (C : Cx G nL X own cc d) (hk : k < 8) {v : VSt} {x : Int32} (pc : Nat) {index : Nat} (hl : Cond.fieldLink own index RX2 "mapSetting" "I" ∈ gw) (hd : decode cc pc = .ok (.putfield index, 3))
    (kk : JS G nL X Q sp (sSt c0 k (v.1, v.2.1, v.2.2.1, v.2.2.2.1, (x, v.2.2.2.2.2)), w) (pc + 3) L st) : JS G nL X Q sp (sSt c0 k v, w) pc L (.int x :: .ref (G.2.2 (6 + 2 * k)) :: st) :=
  j_put C pc (6 + 2 * k) (nG_lt C.2.2.2.2.2.2.1 (by omega)) rfl (at_st hk) (ci := 2) (n := 4) rfl iw2 tyX2_ok nmX2 (by omega) hl rfl rfl rfl rfl rfl (Nat.le_of_ble_eq_true rfl) (by have h := up_st (n0 := nG G) (cy := G.2.1) (ad := G.2.2) (c := sSt c0 k v) (w := w) (v := (x, v.2.2.2.2.2)) hk; rw [sSt_sI5] at h; rw [sSt_g5]; exact h) hd kk
theorem p_St5 (C : Cx G nL X own cc d) (hk : k < 8) {v : VSt} {x : Int32} (pc : Nat) {index : Nat} (hl : Cond.fieldLink own index RX2 "pairSetting" "I" ∈ gw) (hd : decode cc pc = .ok (.putfield index, 3))
    (kk : JS G nL X Q sp (sSt c0 k (v.1, v.2.1, v.2.2.1, v.2.2.2.1, (v.2.2.2.2.1, x, v.2.2.2.2.2.2)), w) (pc + 3) L st) : JS G nL X Q sp (sSt c0 k v, w) pc L (.int x :: .ref (G.2.2 (6 + 2 * k)) :: st) :=
  j_put C pc (6 + 2 * k) (nG_lt C.2.2.2.2.2.2.1 (by omega)) rfl (at_st hk) (ci := 2) (n := 5) rfl iw2 tyX2_ok nmX2 (by omega) hl rfl rfl rfl rfl rfl (Nat.le_of_ble_eq_true rfl) (by have h := up_st (n0 := nG G) (cy := G.2.1) (ad := G.2.2) (c := sSt c0 k v) (w := w) (v := (v.2.2.2.2.1, x, v.2.2.2.2.2.2)) hk; rw [sSt_sI5] at h; rw [sSt_g5]; exact h) hd kk
theorem p_St6 (C : Cx G nL X own cc d) (hk : k < 8) {v : VSt} {x : Int32} (pc : Nat) {index : Nat} (hl : Cond.fieldLink own index RX2 "blocksRead" "I" ∈ gw) (hd : decode cc pc = .ok (.putfield index, 3))
    (kk : JS G nL X Q sp (sSt c0 k (v.1, v.2.1, v.2.2.1, v.2.2.2.1, (v.2.2.2.2.1, v.2.2.2.2.2.1, x, v.2.2.2.2.2.2.2)), w) (pc + 3) L st) : JS G nL X Q sp (sSt c0 k v, w) pc L (.int x :: .ref (G.2.2 (6 + 2 * k)) :: st) :=
  j_put C pc (6 + 2 * k) (nG_lt C.2.2.2.2.2.2.1 (by omega)) rfl (at_st hk) (ci := 2) (n := 6) rfl iw2 tyX2_ok nmX2 (by omega) hl rfl rfl rfl rfl rfl (Nat.le_of_ble_eq_true rfl) (by have h := up_st (n0 := nG G) (cy := G.2.1) (ad := G.2.2) (c := sSt c0 k v) (w := w) (v := (v.2.2.2.2.1, v.2.2.2.2.2.1, x, v.2.2.2.2.2.2.2)) hk; rw [sSt_sI5] at h; rw [sSt_g5]; exact h) hd kk
theorem p_St7 (C : Cx G nL X own cc d) (hk : k < 8) {v : VSt} {x : Int32} (pc : Nat) {index : Nat} (hl : Cond.fieldLink own index RX2 "pairsRead" "I" ∈ gw) (hd : decode cc pc = .ok (.putfield index, 3))
    (kk : JS G nL X Q sp (sSt c0 k (v.1, v.2.1, v.2.2.1, v.2.2.2.1, (v.2.2.2.2.1, v.2.2.2.2.2.1, v.2.2.2.2.2.2.1, x, v.2.2.2.2.2.2.2.2)), w) (pc + 3) L st) : JS G nL X Q sp (sSt c0 k v, w) pc L (.int x :: .ref (G.2.2 (6 + 2 * k)) :: st) :=
  j_put C pc (6 + 2 * k) (nG_lt C.2.2.2.2.2.2.1 (by omega)) rfl (at_st hk) (ci := 2) (n := 7) rfl iw2 tyX2_ok nmX2 (by omega) hl rfl rfl rfl rfl rfl (Nat.le_of_ble_eq_true rfl) (by have h := up_st (n0 := nG G) (cy := G.2.1) (ad := G.2.2) (c := sSt c0 k v) (w := w) (v := (v.2.2.2.2.1, v.2.2.2.2.2.1, v.2.2.2.2.2.2.1, x, v.2.2.2.2.2.2.2.2)) hk; rw [sSt_sI5] at h; rw [sSt_g5]; exact h) hd kk
theorem p_St8 (C : Cx G nL X own cc d) (hk : k < 8) {v : VSt} {x : Int32} (pc : Nat) {index : Nat} (hl : Cond.fieldLink own index RX2 "starts" "I" ∈ gw) (hd : decode cc pc = .ok (.putfield index, 3))
    (kk : JS G nL X Q sp (sSt c0 k (v.1, v.2.1, v.2.2.1, v.2.2.2.1, (v.2.2.2.2.1, v.2.2.2.2.2.1, v.2.2.2.2.2.2.1, v.2.2.2.2.2.2.2.1, x)), w) (pc + 3) L st) : JS G nL X Q sp (sSt c0 k v, w) pc L (.int x :: .ref (G.2.2 (6 + 2 * k)) :: st) :=
  j_put C pc (6 + 2 * k) (nG_lt C.2.2.2.2.2.2.1 (by omega)) rfl (at_st hk) (ci := 2) (n := 8) rfl iw2 tyX2_ok nmX2 (by omega) hl rfl rfl rfl rfl rfl (Nat.le_of_ble_eq_true rfl) (by have h := up_st (n0 := nG G) (cy := G.2.1) (ad := G.2.2) (c := sSt c0 k v) (w := w) (v := (v.2.2.2.2.1, v.2.2.2.2.2.1, v.2.2.2.2.2.2.1, v.2.2.2.2.2.2.2.1, x)) hk; rw [sSt_sI5] at h; rw [sSt_g5]; exact h) hd kk
theorem p_Tx1 (C : Cx G nL X own cc d) {v : VTx} {x : Int32} (pc : Nat) {index : Nat} (hl : Cond.fieldLink own index RX4 "length" "I" ∈ gw) (hd : decode cc pc = .ok (.putfield index, 3))
    (kk : JS G nL X Q sp (sTx c0 (v.1, x, v.2.2), w) (pc + 3) L st) : JS G nL X Q sp (sTx c0 v, w) pc L (.int x :: .ref (G.2.2 2) :: st) :=
  j_put C pc 2 (nG_lt C.2.2.2.2.2.2.1 (by omega)) rfl (at_sp (j := 2) (by omega)) (ci := 4) (n := 1) rfl iw4 tyX4_ok nmX4 (by omega) hl rfl rfl rfl rfl rfl (Nat.le_of_ble_eq_true rfl) (fun j hj => up_sp (cy := G.2.1) (ad := G.2.2) (c := sTx c0 v) (w := w) (t := (v.1, x, v.2.2)) (v := c0.2.2.2.2.2.2) (j0 := 2) (by omega) (by intro i hi he; rcases (show i = 0 ∨ i = 1 ∨ i = 3 ∨ i = 4 ∨ i = 5 by omega) with rfl | rfl | rfl | rfl | rfl <;> rfl) j hj) hd kk
theorem p_Tx4 (C : Cx G nL X own cc d) {v : VTx} {x : Int32} (pc : Nat) {index : Nat} (hl : Cond.fieldLink own index RX4 "part" "I" ∈ gw) (hd : decode cc pc = .ok (.putfield index, 3))
    (kk : JS G nL X Q sp (sTx c0 (v.1, v.2.1, v.2.2.1, v.2.2.2.1, x, v.2.2.2.2.2), w) (pc + 3) L st) : JS G nL X Q sp (sTx c0 v, w) pc L (.int x :: .ref (G.2.2 2) :: st) :=
  j_put C pc 2 (nG_lt C.2.2.2.2.2.2.1 (by omega)) rfl (at_sp (j := 2) (by omega)) (ci := 4) (n := 4) rfl iw4 tyX4_ok nmX4 (by omega) hl rfl rfl rfl rfl rfl (Nat.le_of_ble_eq_true rfl) (fun j hj => up_sp (cy := G.2.1) (ad := G.2.2) (c := sTx c0 v) (w := w) (t := (v.1, v.2.1, v.2.2.1, v.2.2.2.1, x, v.2.2.2.2.2)) (v := c0.2.2.2.2.2.2) (j0 := 2) (by omega) (by intro i hi he; rcases (show i = 0 ∨ i = 1 ∨ i = 3 ∨ i = 4 ∨ i = 5 by omega) with rfl | rfl | rfl | rfl | rfl <;> rfl) j hj) hd kk
theorem p_Tx5 (C : Cx G nL X own cc d) {v : VTx} {x : Int32} (pc : Nat) {index : Nat} (hn : narrow .boolean (.int x) = .int x) (hf : fits .boolean (.int x) = true) (hl : Cond.fieldLink own index RX4 "ranged" "Z" ∈ gw) (hd : decode cc pc = .ok (.putfield index, 3))
    (kk : JS G nL X Q sp (sTx c0 (v.1, v.2.1, v.2.2.1, v.2.2.2.1, v.2.2.2.2.1, x, v.2.2.2.2.2.2), w) (pc + 3) L st) : JS G nL X Q sp (sTx c0 v, w) pc L (.int x :: .ref (G.2.2 2) :: st) :=
  j_put C pc 2 (nG_lt C.2.2.2.2.2.2.1 (by omega)) rfl (at_sp (j := 2) (by omega)) (ci := 4) (n := 5) rfl iw4 tyX4_ok nmX4 (by omega) hl rfl rfl rfl hn hf (Nat.le_of_ble_eq_true rfl) (fun j hj => up_sp (cy := G.2.1) (ad := G.2.2) (c := sTx c0 v) (w := w) (t := (v.1, v.2.1, v.2.2.1, v.2.2.2.1, v.2.2.2.2.1, x, v.2.2.2.2.2.2)) (v := c0.2.2.2.2.2.2) (j0 := 2) (by omega) (by intro i hi he; rcases (show i = 0 ∨ i = 1 ∨ i = 3 ∨ i = 4 ∨ i = 5 by omega) with rfl | rfl | rfl | rfl | rfl <;> rfl) j hj) hd kk
theorem p_Tx6 (C : Cx G nL X own cc d) {v : VTx} {x : Int32} (pc : Nat) {index : Nat} (hl : Cond.fieldLink own index RX4 "number" "I" ∈ gw) (hd : decode cc pc = .ok (.putfield index, 3))
    (kk : JS G nL X Q sp (sTx c0 (v.1, v.2.1, v.2.2.1, v.2.2.2.1, v.2.2.2.2.1, v.2.2.2.2.2.1, x), w) (pc + 3) L st) : JS G nL X Q sp (sTx c0 v, w) pc L (.int x :: .ref (G.2.2 2) :: st) :=
  j_put C pc 2 (nG_lt C.2.2.2.2.2.2.1 (by omega)) rfl (at_sp (j := 2) (by omega)) (ci := 4) (n := 6) rfl iw4 tyX4_ok nmX4 (by omega) hl rfl rfl rfl rfl rfl (Nat.le_of_ble_eq_true rfl) (fun j hj => up_sp (cy := G.2.1) (ad := G.2.2) (c := sTx c0 v) (w := w) (t := (v.1, v.2.1, v.2.2.1, v.2.2.2.1, v.2.2.2.2.1, v.2.2.2.2.2.1, x)) (v := c0.2.2.2.2.2.2) (j0 := 2) (by omega) (by intro i hi he; rcases (show i = 0 ∨ i = 1 ∨ i = 3 ∨ i = 4 ∨ i = 5 by omega) with rfl | rfl | rfl | rfl | rfl <;> rfl) j hj) hd kk
theorem p_Sp2 (C : Cx G nL X own cc d) {x : Int32} (pc : Nat) {index : Nat} (hn : narrow .boolean (.int x) = .int x) (hf : fits .boolean (.int x) = true) (hl : Cond.fieldLink own index RX5 "hasSnapshot" "Z" ∈ gw) (hd : decode cc pc = .ok (.putfield index, 3))
    (kk : JS G nL X Q sp (sSp c0 (x, c0.2.2.2.2.2.2.2), w) (pc + 3) L st) : JS G nL X Q sp (c0, w) pc L (.int x :: .ref (G.2.2 0) :: st) :=
  j_put C pc 0 (nG_lt C.2.2.2.2.2.2.1 (by omega)) rfl (at_sp (j := 0) (by omega)) (ci := 5) (n := 2) rfl iw5 tyX5_ok nmX5 (by omega) hl rfl rfl rfl hn hf (Nat.le_of_ble_eq_true rfl) (fun j hj => up_sp (cy := G.2.1) (ad := G.2.2) (c := c0) (w := w) (t := c0.2.2.2.2.2.1) (v := (x, c0.2.2.2.2.2.2.2)) (j0 := 0) (by omega) (by intro i hi he; rcases (show i = 1 ∨ i = 2 ∨ i = 3 ∨ i = 4 ∨ i = 5 by omega) with rfl | rfl | rfl | rfl | rfl <;> rfl) j hj) hd kk
theorem p_Sp4 (C : Cx G nL X own cc d) {x : Int32} (pc : Nat) {index : Nat} (hl : Cond.fieldLink own index RX5 "savedCount" "I" ∈ gw) (hd : decode cc pc = .ok (.putfield index, 3))
    (kk : JS G nL X Q sp (sSp c0 (c0.2.2.2.2.2.2.1, x, c0.2.2.2.2.2.2.2.2), w) (pc + 3) L st) : JS G nL X Q sp (c0, w) pc L (.int x :: .ref (G.2.2 0) :: st) :=
  j_put C pc 0 (nG_lt C.2.2.2.2.2.2.1 (by omega)) rfl (at_sp (j := 0) (by omega)) (ci := 5) (n := 4) rfl iw5 tyX5_ok nmX5 (by omega) hl rfl rfl rfl rfl rfl (Nat.le_of_ble_eq_true rfl) (fun j hj => up_sp (cy := G.2.1) (ad := G.2.2) (c := c0) (w := w) (t := c0.2.2.2.2.2.1) (v := (c0.2.2.2.2.2.2.1, x, c0.2.2.2.2.2.2.2.2)) (j0 := 0) (by omega) (by intro i hi he; rcases (show i = 1 ∨ i = 2 ∨ i = 3 ∨ i = 4 ∨ i = 5 by omega) with rfl | rfl | rfl | rfl | rfl <;> rfl) j hj) hd kk
theorem a_Sk1 (hk : k < 8) {v : VSk} (hv : c0.1 k = v) : cellA G.2.1 G.2.2 (c0, w) (23 + 7 * k) = cI (G.2.1 0) 4 v.1 := (by subst hv; exact at_sk (j := 1) hk (by omega))
theorem l_Sk1 (C : Cx G nL X own cc d) (hk : k < 8) {v : VSk} (hv : c0.1 k = v) {i x : Int32} (pc : Nat) (hr : ard 4 v.1 i = some x) (hd : decode cc pc = .ok (.iaload, 1))
    (kk : JS G nL X Q sp (c0, w) (pc + 1) L (.int x :: st)) : JS G nL X Q sp (c0, w) pc L (.int i :: .ref (G.2.2 (23 + 7 * k)) :: st) :=
  j_iald C pc (23 + 7 * k) (nG_lt C.2.2.2.2.2.2.1 (by omega)) rfl (a_Sk1 hk hv) hr hd kk
theorem b_Sk1 (hk : k < 8) {v : VSk} (f : Nat → Int32) : ∀ j, j < nG G → va_up (cellA G.2.1 G.2.2 (sSk c0 k v, w)) (23 + 7 * k) (cI (G.2.1 0) 4 f) j = cellA G.2.1 G.2.2 (sSk c0 k (f, v.2), w) j := (by have h := up_sk (n0 := nG G) (cy := G.2.1) (ad := G.2.2) (c := sSk c0 k v) (w := w) (v := (f, v.2)) (j0 := 1) hk (by omega) (by intro i hi he; rw [sSk_get]; rcases (show i = 0 ∨ i = 2 ∨ i = 3 ∨ i = 4 ∨ i = 5 ∨ i = 6 by omega) with rfl | rfl | rfl | rfl | rfl | rfl <;> rfl); rw [sSk_up] at h; exact h)
theorem t_Sk1 (C : Cx G nL X own cc d) (hk : k < 8) {v : VSk} {i x : Int32} {f : Nat → Int32} (pc : Nat) (hr : aup 4 v.1 i x = some f) (hd : decode cc pc = .ok (.iastore, 1))
    (kk : JS G nL X Q sp (sSk c0 k (f, v.2), w) (pc + 1) L st) : JS G nL X Q sp (sSk c0 k v, w) pc L (.int x :: .int i :: .ref (G.2.2 (23 + 7 * k)) :: st) :=
  j_iast C pc (23 + 7 * k) (nG_lt C.2.2.2.2.2.2.1 (by omega)) rfl (a_Sk1 hk (sSk_get _ _ _)) hr (b_Sk1 hk f) hd kk
theorem a_Sk2 (hk : k < 8) {v : VSk} (hv : c0.1 k = v) : cellA G.2.1 G.2.2 (c0, w) (24 + 7 * k) = cI (G.2.1 0) 4 v.2.1 := (by subst hv; exact at_sk (j := 2) hk (by omega))
theorem l_Sk2 (C : Cx G nL X own cc d) (hk : k < 8) {v : VSk} (hv : c0.1 k = v) {i x : Int32} (pc : Nat) (hr : ard 4 v.2.1 i = some x) (hd : decode cc pc = .ok (.iaload, 1))
    (kk : JS G nL X Q sp (c0, w) (pc + 1) L (.int x :: st)) : JS G nL X Q sp (c0, w) pc L (.int i :: .ref (G.2.2 (24 + 7 * k)) :: st) :=
  j_iald C pc (24 + 7 * k) (nG_lt C.2.2.2.2.2.2.1 (by omega)) rfl (a_Sk2 hk hv) hr hd kk
theorem b_Sk2 (hk : k < 8) {v : VSk} (f : Nat → Int32) : ∀ j, j < nG G → va_up (cellA G.2.1 G.2.2 (sSk c0 k v, w)) (24 + 7 * k) (cI (G.2.1 0) 4 f) j = cellA G.2.1 G.2.2 (sSk c0 k (v.1, f, v.2.2), w) j := (by have h := up_sk (n0 := nG G) (cy := G.2.1) (ad := G.2.2) (c := sSk c0 k v) (w := w) (v := (v.1, f, v.2.2)) (j0 := 2) hk (by omega) (by intro i hi he; rw [sSk_get]; rcases (show i = 0 ∨ i = 1 ∨ i = 3 ∨ i = 4 ∨ i = 5 ∨ i = 6 by omega) with rfl | rfl | rfl | rfl | rfl | rfl <;> rfl); rw [sSk_up] at h; exact h)
theorem t_Sk2 (C : Cx G nL X own cc d) (hk : k < 8) {v : VSk} {i x : Int32} {f : Nat → Int32} (pc : Nat) (hr : aup 4 v.2.1 i x = some f) (hd : decode cc pc = .ok (.iastore, 1))
    (kk : JS G nL X Q sp (sSk c0 k (v.1, f, v.2.2), w) (pc + 1) L st) : JS G nL X Q sp (sSk c0 k v, w) pc L (.int x :: .int i :: .ref (G.2.2 (24 + 7 * k)) :: st) :=
  j_iast C pc (24 + 7 * k) (nG_lt C.2.2.2.2.2.2.1 (by omega)) rfl (a_Sk2 hk (sSk_get _ _ _)) hr (b_Sk2 hk f) hd kk
theorem a_Sk3 (hk : k < 8) {v : VSk} (hv : c0.1 k = v) : cellA G.2.1 G.2.2 (c0, w) (25 + 7 * k) = cI (G.2.1 0) 4 v.2.2.1 := (by subst hv; exact at_sk (j := 3) hk (by omega))
theorem l_Sk3 (C : Cx G nL X own cc d) (hk : k < 8) {v : VSk} (hv : c0.1 k = v) {i x : Int32} (pc : Nat) (hr : ard 4 v.2.2.1 i = some x) (hd : decode cc pc = .ok (.iaload, 1))
    (kk : JS G nL X Q sp (c0, w) (pc + 1) L (.int x :: st)) : JS G nL X Q sp (c0, w) pc L (.int i :: .ref (G.2.2 (25 + 7 * k)) :: st) :=
  j_iald C pc (25 + 7 * k) (nG_lt C.2.2.2.2.2.2.1 (by omega)) rfl (a_Sk3 hk hv) hr hd kk
theorem b_Sk3 (hk : k < 8) {v : VSk} (f : Nat → Int32) : ∀ j, j < nG G → va_up (cellA G.2.1 G.2.2 (sSk c0 k v, w)) (25 + 7 * k) (cI (G.2.1 0) 4 f) j = cellA G.2.1 G.2.2 (sSk c0 k (v.1, v.2.1, f, v.2.2.2), w) j := (by have h := up_sk (n0 := nG G) (cy := G.2.1) (ad := G.2.2) (c := sSk c0 k v) (w := w) (v := (v.1, v.2.1, f, v.2.2.2)) (j0 := 3) hk (by omega) (by intro i hi he; rw [sSk_get]; rcases (show i = 0 ∨ i = 1 ∨ i = 2 ∨ i = 4 ∨ i = 5 ∨ i = 6 by omega) with rfl | rfl | rfl | rfl | rfl | rfl <;> rfl); rw [sSk_up] at h; exact h)
theorem t_Sk3 (C : Cx G nL X own cc d) (hk : k < 8) {v : VSk} {i x : Int32} {f : Nat → Int32} (pc : Nat) (hr : aup 4 v.2.2.1 i x = some f) (hd : decode cc pc = .ok (.iastore, 1))
    (kk : JS G nL X Q sp (sSk c0 k (v.1, v.2.1, f, v.2.2.2), w) (pc + 1) L st) : JS G nL X Q sp (sSk c0 k v, w) pc L (.int x :: .int i :: .ref (G.2.2 (25 + 7 * k)) :: st) :=
  j_iast C pc (25 + 7 * k) (nG_lt C.2.2.2.2.2.2.1 (by omega)) rfl (a_Sk3 hk (sSk_get _ _ _)) hr (b_Sk3 hk f) hd kk
theorem a_Sk4 (hk : k < 8) {v : VSk} (hv : c0.1 k = v) : cellA G.2.1 G.2.2 (c0, w) (26 + 7 * k) = cI (G.2.1 0) 4 v.2.2.2.1 := (by subst hv; exact at_sk (j := 4) hk (by omega))
theorem l_Sk4 (C : Cx G nL X own cc d) (hk : k < 8) {v : VSk} (hv : c0.1 k = v) {i x : Int32} (pc : Nat) (hr : ard 4 v.2.2.2.1 i = some x) (hd : decode cc pc = .ok (.iaload, 1))
    (kk : JS G nL X Q sp (c0, w) (pc + 1) L (.int x :: st)) : JS G nL X Q sp (c0, w) pc L (.int i :: .ref (G.2.2 (26 + 7 * k)) :: st) :=
  j_iald C pc (26 + 7 * k) (nG_lt C.2.2.2.2.2.2.1 (by omega)) rfl (a_Sk4 hk hv) hr hd kk
theorem b_Sk4 (hk : k < 8) {v : VSk} (f : Nat → Int32) : ∀ j, j < nG G → va_up (cellA G.2.1 G.2.2 (sSk c0 k v, w)) (26 + 7 * k) (cI (G.2.1 0) 4 f) j = cellA G.2.1 G.2.2 (sSk c0 k (v.1, v.2.1, v.2.2.1, f, v.2.2.2.2), w) j := (by have h := up_sk (n0 := nG G) (cy := G.2.1) (ad := G.2.2) (c := sSk c0 k v) (w := w) (v := (v.1, v.2.1, v.2.2.1, f, v.2.2.2.2)) (j0 := 4) hk (by omega) (by intro i hi he; rw [sSk_get]; rcases (show i = 0 ∨ i = 1 ∨ i = 2 ∨ i = 3 ∨ i = 5 ∨ i = 6 by omega) with rfl | rfl | rfl | rfl | rfl | rfl <;> rfl); rw [sSk_up] at h; exact h)
theorem t_Sk4 (C : Cx G nL X own cc d) (hk : k < 8) {v : VSk} {i x : Int32} {f : Nat → Int32} (pc : Nat) (hr : aup 4 v.2.2.2.1 i x = some f) (hd : decode cc pc = .ok (.iastore, 1))
    (kk : JS G nL X Q sp (sSk c0 k (v.1, v.2.1, v.2.2.1, f, v.2.2.2.2), w) (pc + 1) L st) : JS G nL X Q sp (sSk c0 k v, w) pc L (.int x :: .int i :: .ref (G.2.2 (26 + 7 * k)) :: st) :=
  j_iast C pc (26 + 7 * k) (nG_lt C.2.2.2.2.2.2.1 (by omega)) rfl (a_Sk4 hk (sSk_get _ _ _)) hr (b_Sk4 hk f) hd kk
theorem a_Sk5 (hk : k < 8) {v : VSk} (hv : c0.1 k = v) : cellA G.2.1 G.2.2 (c0, w) (27 + 7 * k) = cI (G.2.1 1) 4 v.2.2.2.2.1 := (by subst hv; exact at_sk (j := 5) hk (by omega))
theorem l_Sk5 (C : Cx G nL X own cc d) (hk : k < 8) {v : VSk} (hv : c0.1 k = v) {i x : Int32} (pc : Nat) (hr : ard 4 v.2.2.2.2.1 i = some x) (hd : decode cc pc = .ok (.baload, 1))
    (kk : JS G nL X Q sp (c0, w) (pc + 1) L (.int x :: st)) : JS G nL X Q sp (c0, w) pc L (.int i :: .ref (G.2.2 (27 + 7 * k)) :: st) :=
  j_zald C pc (27 + 7 * k) (nG_lt C.2.2.2.2.2.2.1 (by omega)) rfl (a_Sk5 hk hv) hr hd kk
theorem b_Sk5 (hk : k < 8) {v : VSk} (f : Nat → Int32) : ∀ j, j < nG G → va_up (cellA G.2.1 G.2.2 (sSk c0 k v, w)) (27 + 7 * k) (cI (G.2.1 1) 4 f) j = cellA G.2.1 G.2.2 (sSk c0 k (v.1, v.2.1, v.2.2.1, v.2.2.2.1, f, v.2.2.2.2.2), w) j := (by have h := up_sk (n0 := nG G) (cy := G.2.1) (ad := G.2.2) (c := sSk c0 k v) (w := w) (v := (v.1, v.2.1, v.2.2.1, v.2.2.2.1, f, v.2.2.2.2.2)) (j0 := 5) hk (by omega) (by intro i hi he; rw [sSk_get]; rcases (show i = 0 ∨ i = 1 ∨ i = 2 ∨ i = 3 ∨ i = 4 ∨ i = 6 by omega) with rfl | rfl | rfl | rfl | rfl | rfl <;> rfl); rw [sSk_up] at h; exact h)
theorem t_Sk5 (C : Cx G nL X own cc d) (hk : k < 8) {v : VSk} {i x : Int32} {f : Nat → Int32} (pc : Nat) (hr : aupz 4 v.2.2.2.2.1 i x = some f) (hd : decode cc pc = .ok (.bastore, 1))
    (kk : JS G nL X Q sp (sSk c0 k (v.1, v.2.1, v.2.2.1, v.2.2.2.1, f, v.2.2.2.2.2), w) (pc + 1) L st) : JS G nL X Q sp (sSk c0 k v, w) pc L (.int x :: .int i :: .ref (G.2.2 (27 + 7 * k)) :: st) :=
  j_zast C pc (27 + 7 * k) (nG_lt C.2.2.2.2.2.2.1 (by omega)) rfl (a_Sk5 hk (sSk_get _ _ _)) hr (b_Sk5 hk f) hd kk
theorem a_Sk6 (hk : k < 8) {v : VSk} (hv : c0.1 k = v) : cellA G.2.1 G.2.2 (c0, w) (28 + 7 * k) = cI (G.2.1 1) 4 v.2.2.2.2.2 := (by subst hv; exact at_sk (j := 6) hk (by omega))
theorem l_Sk6 (C : Cx G nL X own cc d) (hk : k < 8) {v : VSk} (hv : c0.1 k = v) {i x : Int32} (pc : Nat) (hr : ard 4 v.2.2.2.2.2 i = some x) (hd : decode cc pc = .ok (.baload, 1))
    (kk : JS G nL X Q sp (c0, w) (pc + 1) L (.int x :: st)) : JS G nL X Q sp (c0, w) pc L (.int i :: .ref (G.2.2 (28 + 7 * k)) :: st) :=
  j_zald C pc (28 + 7 * k) (nG_lt C.2.2.2.2.2.2.1 (by omega)) rfl (a_Sk6 hk hv) hr hd kk
theorem b_Sk6 (hk : k < 8) {v : VSk} (f : Nat → Int32) : ∀ j, j < nG G → va_up (cellA G.2.1 G.2.2 (sSk c0 k v, w)) (28 + 7 * k) (cI (G.2.1 1) 4 f) j = cellA G.2.1 G.2.2 (sSk c0 k (v.1, v.2.1, v.2.2.1, v.2.2.2.1, v.2.2.2.2.1, f), w) j := (by have h := up_sk (n0 := nG G) (cy := G.2.1) (ad := G.2.2) (c := sSk c0 k v) (w := w) (v := (v.1, v.2.1, v.2.2.1, v.2.2.2.1, v.2.2.2.2.1, f)) (j0 := 6) hk (by omega) (by intro i hi he; rw [sSk_get]; rcases (show i = 0 ∨ i = 1 ∨ i = 2 ∨ i = 3 ∨ i = 4 ∨ i = 5 by omega) with rfl | rfl | rfl | rfl | rfl | rfl <;> rfl); rw [sSk_up] at h; exact h)
theorem t_Sk6 (C : Cx G nL X own cc d) (hk : k < 8) {v : VSk} {i x : Int32} {f : Nat → Int32} (pc : Nat) (hr : aupz 4 v.2.2.2.2.2 i x = some f) (hd : decode cc pc = .ok (.bastore, 1))
    (kk : JS G nL X Q sp (sSk c0 k (v.1, v.2.1, v.2.2.1, v.2.2.2.1, v.2.2.2.2.1, f), w) (pc + 1) L st) : JS G nL X Q sp (sSk c0 k v, w) pc L (.int x :: .int i :: .ref (G.2.2 (28 + 7 * k)) :: st) :=
  j_zast C pc (28 + 7 * k) (nG_lt C.2.2.2.2.2.2.1 (by omega)) rfl (a_Sk6 hk (sSk_get _ _ _)) hr (b_Sk6 hk f) hd kk
theorem a_Ly1 (hk : k < 9) {v : VLy} (hv : c0.2.1 k = v) : cellA G.2.1 G.2.2 (c0, w) (79 + 2 * k) = cI (G.2.1 0) 4 v.2.1 := (by subst hv; exact at_lr hk)
theorem l_Ly1 (C : Cx G nL X own cc d) (hk : k < 9) {v : VLy} (hv : c0.2.1 k = v) {i x : Int32} (pc : Nat) (hr : ard 4 v.2.1 i = some x) (hd : decode cc pc = .ok (.iaload, 1))
    (kk : JS G nL X Q sp (c0, w) (pc + 1) L (.int x :: st)) : JS G nL X Q sp (c0, w) pc L (.int i :: .ref (G.2.2 (79 + 2 * k)) :: st) :=
  j_iald C pc (79 + 2 * k) (nG_lt C.2.2.2.2.2.2.1 (by omega)) rfl (a_Ly1 hk hv) hr hd kk
theorem b_Ly1 (hk : k < 9) {v : VLy} (f : Nat → Int32) : ∀ j, j < nG G → va_up (cellA G.2.1 G.2.2 (sLy c0 k v, w)) (79 + 2 * k) (cI (G.2.1 0) 4 f) j = cellA G.2.1 G.2.2 (sLy c0 k (v.1, f, v.2.2), w) j := (by have h := up_lr (n0 := nG G) (cy := G.2.1) (ad := G.2.2) (c := sLy c0 k v) (w := w) (v := v) (f := f) hk (sLy_get _ _ _); rw [sLy_up] at h; exact h)
theorem t_Ly1 (C : Cx G nL X own cc d) (hk : k < 9) {v : VLy} {i x : Int32} {f : Nat → Int32} (pc : Nat) (hr : aup 4 v.2.1 i x = some f) (hd : decode cc pc = .ok (.iastore, 1))
    (kk : JS G nL X Q sp (sLy c0 k (v.1, f, v.2.2), w) (pc + 1) L st) : JS G nL X Q sp (sLy c0 k v, w) pc L (.int x :: .int i :: .ref (G.2.2 (79 + 2 * k)) :: st) :=
  j_iast C pc (79 + 2 * k) (nG_lt C.2.2.2.2.2.2.1 (by omega)) rfl (a_Ly1 hk (sLy_get _ _ _)) hr (b_Ly1 hk f) hd kk
theorem a_Ck0 (hk : k < 9) {v : VCk} (hv : c0.2.2.1 k = v) : cellA G.2.1 G.2.2 (c0, w) (97 + 2 * k) = cI (G.2.1 0) 8 v.1 := (by subst hv; exact at_cr hk)
theorem l_Ck0 (C : Cx G nL X own cc d) (hk : k < 9) {v : VCk} (hv : c0.2.2.1 k = v) {i x : Int32} (pc : Nat) (hr : ard 8 v.1 i = some x) (hd : decode cc pc = .ok (.iaload, 1))
    (kk : JS G nL X Q sp (c0, w) (pc + 1) L (.int x :: st)) : JS G nL X Q sp (c0, w) pc L (.int i :: .ref (G.2.2 (97 + 2 * k)) :: st) :=
  j_iald C pc (97 + 2 * k) (nG_lt C.2.2.2.2.2.2.1 (by omega)) rfl (a_Ck0 hk hv) hr hd kk
theorem b_Ck0 (hk : k < 9) {v : VCk} (f : Nat → Int32) : ∀ j, j < nG G → va_up (cellA G.2.1 G.2.2 (sCk c0 k v, w)) (97 + 2 * k) (cI (G.2.1 0) 8 f) j = cellA G.2.1 G.2.2 (sCk c0 k (f, v.2), w) j := (by have h := up_cr (n0 := nG G) (cy := G.2.1) (ad := G.2.2) (c := sCk c0 k v) (w := w) (v := v) (f := f) hk (sCk_get _ _ _); rw [sCk_up] at h; exact h)
theorem t_Ck0 (C : Cx G nL X own cc d) (hk : k < 9) {v : VCk} {i x : Int32} {f : Nat → Int32} (pc : Nat) (hr : aup 8 v.1 i x = some f) (hd : decode cc pc = .ok (.iastore, 1))
    (kk : JS G nL X Q sp (sCk c0 k (f, v.2), w) (pc + 1) L st) : JS G nL X Q sp (sCk c0 k v, w) pc L (.int x :: .int i :: .ref (G.2.2 (97 + 2 * k)) :: st) :=
  j_iast C pc (97 + 2 * k) (nG_lt C.2.2.2.2.2.2.1 (by omega)) rfl (a_Ck0 hk (sCk_get _ _ _)) hr (b_Ck0 hk f) hd kk
theorem a_St3 (hk : k < 8) {v : Nat → Int32} (hv : c0.2.2.2.1 k = v) : cellA G.2.1 G.2.2 (c0, w) (7 + 2 * k) = cI (G.2.1 0) 48 v := (by subst hv; exact at_vl hk)
theorem l_St3 (C : Cx G nL X own cc d) (hk : k < 8) {v : Nat → Int32} (hv : c0.2.2.2.1 k = v) {i x : Int32} (pc : Nat) (hr : ard 48 v i = some x) (hd : decode cc pc = .ok (.iaload, 1))
    (kk : JS G nL X Q sp (c0, w) (pc + 1) L (.int x :: st)) : JS G nL X Q sp (c0, w) pc L (.int i :: .ref (G.2.2 (7 + 2 * k)) :: st) :=
  j_iald C pc (7 + 2 * k) (nG_lt C.2.2.2.2.2.2.1 (by omega)) rfl (a_St3 hk hv) hr hd kk
theorem b_St3 (hk : k < 8) {v : VSt} (f : Nat → Int32) : ∀ j, j < nG G → va_up (cellA G.2.1 G.2.2 (sSt c0 k v, w)) (7 + 2 * k) (cI (G.2.1 0) 48 f) j = cellA G.2.1 G.2.2 (sSt c0 k (v.1, v.2.1, v.2.2.1, f, v.2.2.2.2), w) j := (by have h := up_vl (n0 := nG G) (cy := G.2.1) (ad := G.2.2) (c := sSt c0 k v) (w := w) (v := f) hk; rw [sSt_sVl] at h; exact h)
theorem t_St3 (C : Cx G nL X own cc d) (hk : k < 8) {v : VSt} {i x : Int32} {f : Nat → Int32} (pc : Nat) (hr : aup 48 v.2.2.2.1 i x = some f) (hd : decode cc pc = .ok (.iastore, 1))
    (kk : JS G nL X Q sp (sSt c0 k (v.1, v.2.1, v.2.2.1, f, v.2.2.2.2), w) (pc + 1) L st) : JS G nL X Q sp (sSt c0 k v, w) pc L (.int x :: .int i :: .ref (G.2.2 (7 + 2 * k)) :: st) :=
  j_iast C pc (7 + 2 * k) (nG_lt C.2.2.2.2.2.2.1 (by omega)) rfl (a_St3 hk (sSt_g4 _ _ _)) hr (b_St3 hk f) hd kk
theorem a_Tx0 {v : VTx} (hv : c0.2.2.2.2.2.1 = v) : cellA G.2.1 G.2.2 (c0, w) 3 = cI (G.2.1 0) 60 v.1 := (by subst hv; exact at_sp (j := 3) (by omega))
theorem l_Tx0 (C : Cx G nL X own cc d) {v : VTx} (hv : c0.2.2.2.2.2.1 = v) {i x : Int32} (pc : Nat) (hr : ard 60 v.1 i = some x) (hd : decode cc pc = .ok (.iaload, 1))
    (kk : JS G nL X Q sp (c0, w) (pc + 1) L (.int x :: st)) : JS G nL X Q sp (c0, w) pc L (.int i :: .ref (G.2.2 3) :: st) :=
  j_iald C pc 3 (nG_lt C.2.2.2.2.2.2.1 (by omega)) rfl (a_Tx0 hv) hr hd kk
theorem b_Tx0 {v : VTx} (f : Nat → Int32) : ∀ j, j < nG G → va_up (cellA G.2.1 G.2.2 (sTx c0 v, w)) 3 (cI (G.2.1 0) 60 f) j = cellA G.2.1 G.2.2 (sTx c0 (f, v.2), w) j := (fun j hj => up_sp (cy := G.2.1) (ad := G.2.2) (c := sTx c0 v) (w := w) (t := (f, v.2)) (v := c0.2.2.2.2.2.2) (j0 := 3) (by omega) (by intro i hi he; rcases (show i = 0 ∨ i = 1 ∨ i = 2 ∨ i = 4 ∨ i = 5 by omega) with rfl | rfl | rfl | rfl | rfl <;> rfl) j hj)
theorem t_Tx0 (C : Cx G nL X own cc d) {v : VTx} {i x : Int32} {f : Nat → Int32} (pc : Nat) (hr : aup 60 v.1 i x = some f) (hd : decode cc pc = .ok (.iastore, 1))
    (kk : JS G nL X Q sp (sTx c0 (f, v.2), w) (pc + 1) L st) : JS G nL X Q sp (sTx c0 v, w) pc L (.int x :: .int i :: .ref (G.2.2 3) :: st) :=
  j_iast C pc 3 (nG_lt C.2.2.2.2.2.2.1 (by omega)) rfl (a_Tx0 rfl) hr (b_Tx0 f) hd kk
theorem a_Tx2 {v : VTx} (hv : c0.2.2.2.2.2.1 = v) : cellA G.2.1 G.2.2 (c0, w) 4 = cI (G.2.1 0) 30 v.2.2.1 := (by subst hv; exact at_sp (j := 4) (by omega))
theorem l_Tx2 (C : Cx G nL X own cc d) {v : VTx} (hv : c0.2.2.2.2.2.1 = v) {i x : Int32} (pc : Nat) (hr : ard 30 v.2.2.1 i = some x) (hd : decode cc pc = .ok (.iaload, 1))
    (kk : JS G nL X Q sp (c0, w) (pc + 1) L (.int x :: st)) : JS G nL X Q sp (c0, w) pc L (.int i :: .ref (G.2.2 4) :: st) :=
  j_iald C pc 4 (nG_lt C.2.2.2.2.2.2.1 (by omega)) rfl (a_Tx2 hv) hr hd kk
theorem b_Tx2 {v : VTx} (f : Nat → Int32) : ∀ j, j < nG G → va_up (cellA G.2.1 G.2.2 (sTx c0 v, w)) 4 (cI (G.2.1 0) 30 f) j = cellA G.2.1 G.2.2 (sTx c0 (v.1, v.2.1, f, v.2.2.2), w) j := (fun j hj => up_sp (cy := G.2.1) (ad := G.2.2) (c := sTx c0 v) (w := w) (t := (v.1, v.2.1, f, v.2.2.2)) (v := c0.2.2.2.2.2.2) (j0 := 4) (by omega) (by intro i hi he; rcases (show i = 0 ∨ i = 1 ∨ i = 2 ∨ i = 3 ∨ i = 5 by omega) with rfl | rfl | rfl | rfl | rfl <;> rfl) j hj)
theorem t_Tx2 (C : Cx G nL X own cc d) {v : VTx} {i x : Int32} {f : Nat → Int32} (pc : Nat) (hr : aup 30 v.2.2.1 i x = some f) (hd : decode cc pc = .ok (.iastore, 1))
    (kk : JS G nL X Q sp (sTx c0 (v.1, v.2.1, f, v.2.2.2), w) (pc + 1) L st) : JS G nL X Q sp (sTx c0 v, w) pc L (.int x :: .int i :: .ref (G.2.2 4) :: st) :=
  j_iast C pc 4 (nG_lt C.2.2.2.2.2.2.1 (by omega)) rfl (a_Tx2 rfl) hr (b_Tx2 f) hd kk
theorem a_Tx3 {v : VTx} (hv : c0.2.2.2.2.2.1 = v) : cellA G.2.1 G.2.2 (c0, w) 5 = cI (G.2.1 0) 30 v.2.2.2.1 := (by subst hv; exact at_sp (j := 5) (by omega))
theorem l_Tx3 (C : Cx G nL X own cc d) {v : VTx} (hv : c0.2.2.2.2.2.1 = v) {i x : Int32} (pc : Nat) (hr : ard 30 v.2.2.2.1 i = some x) (hd : decode cc pc = .ok (.iaload, 1))
    (kk : JS G nL X Q sp (c0, w) (pc + 1) L (.int x :: st)) : JS G nL X Q sp (c0, w) pc L (.int i :: .ref (G.2.2 5) :: st) :=
  j_iald C pc 5 (nG_lt C.2.2.2.2.2.2.1 (by omega)) rfl (a_Tx3 hv) hr hd kk
theorem b_Tx3 {v : VTx} (f : Nat → Int32) : ∀ j, j < nG G → va_up (cellA G.2.1 G.2.2 (sTx c0 v, w)) 5 (cI (G.2.1 0) 30 f) j = cellA G.2.1 G.2.2 (sTx c0 (v.1, v.2.1, v.2.2.1, f, v.2.2.2.2), w) j := (fun j hj => up_sp (cy := G.2.1) (ad := G.2.2) (c := sTx c0 v) (w := w) (t := (v.1, v.2.1, v.2.2.1, f, v.2.2.2.2)) (v := c0.2.2.2.2.2.2) (j0 := 5) (by omega) (by intro i hi he; rcases (show i = 0 ∨ i = 1 ∨ i = 2 ∨ i = 3 ∨ i = 4 by omega) with rfl | rfl | rfl | rfl | rfl <;> rfl) j hj)
theorem t_Tx3 (C : Cx G nL X own cc d) {v : VTx} {i x : Int32} {f : Nat → Int32} (pc : Nat) (hr : aup 30 v.2.2.2.1 i x = some f) (hd : decode cc pc = .ok (.iastore, 1))
    (kk : JS G nL X Q sp (sTx c0 (v.1, v.2.1, v.2.2.1, f, v.2.2.2.2), w) (pc + 1) L st) : JS G nL X Q sp (sTx c0 v, w) pc L (.int x :: .int i :: .ref (G.2.2 5) :: st) :=
  j_iast C pc 5 (nG_lt C.2.2.2.2.2.2.1 (by omega)) rfl (a_Tx3 rfl) hr (b_Tx3 f) hd kk
theorem a_Rw0 (c0 : VC) (w : VW) (k : Nat) (v : VRw) : cellA G.2.1 G.2.2 (c0, sRw w k v) (114 + k) = cI (G.2.1 0) 10 v.1 := by rw [at_rw, sRw_0]
theorem b_Rw0 (c0 : VC) (w : VW) (k : Nat) (v : VRw) (f : Nat → Int32) : ∀ j, j < nG G → va_up (cellA G.2.1 G.2.2 (c0, sRw w k v)) (114 + k) (cI (G.2.1 0) 10 f) j = cellA G.2.1 G.2.2 (c0, sRw w k (f, v.2)) j := by rw [← sRw_u0 w k v f]; exact up_rw
theorem l_Rw0 (C : Cx G nL X own cc d) {k : Nat} (hk : 119 + k ≤ nG G) (w : VW) (v : VRw) {i x : Int32} (pc : Nat) (hr : ard 10 v.1 i = some x) (hd : decode cc pc = .ok (.iaload, 1))
    (kk : JS G nL X Q sp (c0, sRw w k v) (pc + 1) L (.int x :: st)) : JS G nL X Q sp (c0, sRw w k v) pc L (.int i :: .ref (G.2.2 (114 + k)) :: st) :=
  j_iald C pc (114 + k) (by omega) rfl (a_Rw0 c0 w k v) hr hd kk
theorem t_Rw0 (C : Cx G nL X own cc d) {k : Nat} (hk : 119 + k ≤ nG G) (w : VW) (v : VRw) {i x : Int32} {f : Nat → Int32} (pc : Nat) (hr : aup 10 v.1 i x = some f) (hd : decode cc pc = .ok (.iastore, 1))
    (kk : JS G nL X Q sp (c0, sRw w k (f, v.2)) (pc + 1) L st) : JS G nL X Q sp (c0, sRw w k v) pc L (.int x :: .int i :: .ref (G.2.2 (114 + k)) :: st) :=
  j_iast C pc (114 + k) (by omega) rfl (a_Rw0 c0 w k v) hr (b_Rw0 c0 w k v f) hd kk
theorem a_Rw1 (c0 : VC) (w : VW) (k : Nat) (v : VRw) : cellA G.2.1 G.2.2 (c0, sRw w k v) (114 + (1 + k)) = cI (G.2.1 0) 32 v.2.1 := by rw [at_rw, sRw_1]
theorem b_Rw1 (c0 : VC) (w : VW) (k : Nat) (v : VRw) (f : Nat → Int32) : ∀ j, j < nG G → va_up (cellA G.2.1 G.2.2 (c0, sRw w k v)) (114 + (1 + k)) (cI (G.2.1 0) 32 f) j = cellA G.2.1 G.2.2 (c0, sRw w k (v.1, f, v.2.2)) j := by rw [← sRw_u1 w k v f]; exact up_rw
theorem l_Rw1 (C : Cx G nL X own cc d) {k : Nat} (hk : 119 + k ≤ nG G) (w : VW) (v : VRw) {i x : Int32} (pc : Nat) (hr : ard 32 v.2.1 i = some x) (hd : decode cc pc = .ok (.iaload, 1))
    (kk : JS G nL X Q sp (c0, sRw w k v) (pc + 1) L (.int x :: st)) : JS G nL X Q sp (c0, sRw w k v) pc L (.int i :: .ref (G.2.2 (114 + (1 + k))) :: st) :=
  j_iald C pc (114 + (1 + k)) (by omega) rfl (a_Rw1 c0 w k v) hr hd kk
theorem t_Rw1 (C : Cx G nL X own cc d) {k : Nat} (hk : 119 + k ≤ nG G) (w : VW) (v : VRw) {i x : Int32} {f : Nat → Int32} (pc : Nat) (hr : aup 32 v.2.1 i x = some f) (hd : decode cc pc = .ok (.iastore, 1))
    (kk : JS G nL X Q sp (c0, sRw w k (v.1, f, v.2.2)) (pc + 1) L st) : JS G nL X Q sp (c0, sRw w k v) pc L (.int x :: .int i :: .ref (G.2.2 (114 + (1 + k))) :: st) :=
  j_iast C pc (114 + (1 + k)) (by omega) rfl (a_Rw1 c0 w k v) hr (b_Rw1 c0 w k v f) hd kk
theorem a_Rw2 (c0 : VC) (w : VW) (k : Nat) (v : VRw) : cellA G.2.1 G.2.2 (c0, sRw w k v) (114 + (2 + k)) = cI (G.2.1 0) 48 v.2.2.1 := by rw [at_rw, sRw_2]
theorem b_Rw2 (c0 : VC) (w : VW) (k : Nat) (v : VRw) (f : Nat → Int32) : ∀ j, j < nG G → va_up (cellA G.2.1 G.2.2 (c0, sRw w k v)) (114 + (2 + k)) (cI (G.2.1 0) 48 f) j = cellA G.2.1 G.2.2 (c0, sRw w k (v.1, v.2.1, f, v.2.2.2)) j := by rw [← sRw_u2 w k v f]; exact up_rw
theorem l_Rw2 (C : Cx G nL X own cc d) {k : Nat} (hk : 119 + k ≤ nG G) (w : VW) (v : VRw) {i x : Int32} (pc : Nat) (hr : ard 48 v.2.2.1 i = some x) (hd : decode cc pc = .ok (.iaload, 1))
    (kk : JS G nL X Q sp (c0, sRw w k v) (pc + 1) L (.int x :: st)) : JS G nL X Q sp (c0, sRw w k v) pc L (.int i :: .ref (G.2.2 (114 + (2 + k))) :: st) :=
  j_iald C pc (114 + (2 + k)) (by omega) rfl (a_Rw2 c0 w k v) hr hd kk
theorem t_Rw2 (C : Cx G nL X own cc d) {k : Nat} (hk : 119 + k ≤ nG G) (w : VW) (v : VRw) {i x : Int32} {f : Nat → Int32} (pc : Nat) (hr : aup 48 v.2.2.1 i x = some f) (hd : decode cc pc = .ok (.iastore, 1))
    (kk : JS G nL X Q sp (c0, sRw w k (v.1, v.2.1, f, v.2.2.2)) (pc + 1) L st) : JS G nL X Q sp (c0, sRw w k v) pc L (.int x :: .int i :: .ref (G.2.2 (114 + (2 + k))) :: st) :=
  j_iast C pc (114 + (2 + k)) (by omega) rfl (a_Rw2 c0 w k v) hr (b_Rw2 c0 w k v f) hd kk
theorem a_Rw3 (c0 : VC) (w : VW) (k : Nat) (v : VRw) : cellA G.2.1 G.2.2 (c0, sRw w k v) (114 + (3 + k)) = cI (G.2.1 0) 48 v.2.2.2.1 := by rw [at_rw, sRw_3]
theorem b_Rw3 (c0 : VC) (w : VW) (k : Nat) (v : VRw) (f : Nat → Int32) : ∀ j, j < nG G → va_up (cellA G.2.1 G.2.2 (c0, sRw w k v)) (114 + (3 + k)) (cI (G.2.1 0) 48 f) j = cellA G.2.1 G.2.2 (c0, sRw w k (v.1, v.2.1, v.2.2.1, f, v.2.2.2.2)) j := by rw [← sRw_u3 w k v f]; exact up_rw
theorem l_Rw3 (C : Cx G nL X own cc d) {k : Nat} (hk : 119 + k ≤ nG G) (w : VW) (v : VRw) {i x : Int32} (pc : Nat) (hr : ard 48 v.2.2.2.1 i = some x) (hd : decode cc pc = .ok (.iaload, 1))
    (kk : JS G nL X Q sp (c0, sRw w k v) (pc + 1) L (.int x :: st)) : JS G nL X Q sp (c0, sRw w k v) pc L (.int i :: .ref (G.2.2 (114 + (3 + k))) :: st) :=
  j_iald C pc (114 + (3 + k)) (by omega) rfl (a_Rw3 c0 w k v) hr hd kk
theorem t_Rw3 (C : Cx G nL X own cc d) {k : Nat} (hk : 119 + k ≤ nG G) (w : VW) (v : VRw) {i x : Int32} {f : Nat → Int32} (pc : Nat) (hr : aup 48 v.2.2.2.1 i x = some f) (hd : decode cc pc = .ok (.iastore, 1))
    (kk : JS G nL X Q sp (c0, sRw w k (v.1, v.2.1, v.2.2.1, f, v.2.2.2.2)) (pc + 1) L st) : JS G nL X Q sp (c0, sRw w k v) pc L (.int x :: .int i :: .ref (G.2.2 (114 + (3 + k))) :: st) :=
  j_iast C pc (114 + (3 + k)) (by omega) rfl (a_Rw3 c0 w k v) hr (b_Rw3 c0 w k v f) hd kk
theorem a_Rw4 (c0 : VC) (w : VW) (k : Nat) (v : VRw) : cellA G.2.1 G.2.2 (c0, sRw w k v) (114 + (4 + k)) = cI (G.2.1 0) 48 v.2.2.2.2 := by rw [at_rw, sRw_4]
theorem b_Rw4 (c0 : VC) (w : VW) (k : Nat) (v : VRw) (f : Nat → Int32) : ∀ j, j < nG G → va_up (cellA G.2.1 G.2.2 (c0, sRw w k v)) (114 + (4 + k)) (cI (G.2.1 0) 48 f) j = cellA G.2.1 G.2.2 (c0, sRw w k (v.1, v.2.1, v.2.2.1, v.2.2.2.1, f)) j := by rw [← sRw_u4 w k v f]; exact up_rw
theorem l_Rw4 (C : Cx G nL X own cc d) {k : Nat} (hk : 119 + k ≤ nG G) (w : VW) (v : VRw) {i x : Int32} (pc : Nat) (hr : ard 48 v.2.2.2.2 i = some x) (hd : decode cc pc = .ok (.iaload, 1))
    (kk : JS G nL X Q sp (c0, sRw w k v) (pc + 1) L (.int x :: st)) : JS G nL X Q sp (c0, sRw w k v) pc L (.int i :: .ref (G.2.2 (114 + (4 + k))) :: st) :=
  j_iald C pc (114 + (4 + k)) (by omega) rfl (a_Rw4 c0 w k v) hr hd kk
theorem t_Rw4 (C : Cx G nL X own cc d) {k : Nat} (hk : 119 + k ≤ nG G) (w : VW) (v : VRw) {i x : Int32} {f : Nat → Int32} (pc : Nat) (hr : aup 48 v.2.2.2.2 i x = some f) (hd : decode cc pc = .ok (.iastore, 1))
    (kk : JS G nL X Q sp (c0, sRw w k (v.1, v.2.1, v.2.2.1, v.2.2.2.1, f)) (pc + 1) L st) : JS G nL X Q sp (c0, sRw w k v) pc L (.int x :: .int i :: .ref (G.2.2 (114 + (4 + k))) :: st) :=
  j_iast C pc (114 + (4 + k)) (by omega) rfl (a_Rw4 c0 w k v) hr (b_Rw4 c0 w k v f) hd kk
theorem l_Sz (C : Cx G nL X own cc d) (hk : 120 ≤ nG G) (w : VW) (v : Nat → Int32) {i x : Int32} (pc : Nat) (hr : ard 4 v i = some x) (hd : decode cc pc = .ok (.iaload, 1))
    (kk : JS G nL X Q sp (c0, va_up w 5 (4, v)) (pc + 1) L (.int x :: st)) : JS G nL X Q sp (c0, va_up w 5 (4, v)) pc L (.int i :: .ref (G.2.2 119) :: st) :=
  j_iald C pc 119 (by omega) rfl (show cellA G.2.1 G.2.2 (c0, va_up w 5 (4, v)) (114 + 5) = cI (G.2.1 0) 4 v by rw [at_rw, va_up_self]) hr hd kk
theorem t_Sz (C : Cx G nL X own cc d) (hk : 120 ≤ nG G) (w : VW) (v : Nat → Int32) {i x : Int32} {f : Nat → Int32} (pc : Nat) (hr : aup 4 v i x = some f) (hd : decode cc pc = .ok (.iastore, 1))
    (kk : JS G nL X Q sp (c0, va_up w 5 (4, f)) (pc + 1) L st) : JS G nL X Q sp (c0, va_up w 5 (4, v)) pc L (.int x :: .int i :: .ref (G.2.2 119) :: st) :=
  j_iast C pc 119 (by omega) rfl (show cellA G.2.1 G.2.2 (c0, va_up w 5 (4, v)) (114 + 5) = cI (G.2.1 0) 4 v by rw [at_rw, va_up_self]) hr (by
    have h := up_rw (n0 := nG G) (cy := G.2.1) (ad := G.2.2) (c := c0) (w := va_up w 5 (4, v)) (j0 := 5) (n := 4) (f := f)
    rw [va_up_up] at h
    exact h) hd kk
end
end
section
def FU : Nat := 1000
theorem sSk_ne (c : VC) {k j : Nat} (v : VSk) (h : j ≠ k) : (sSk c k v).1 j = c.1 j := va_up_ne _ _ h
theorem sLy_ne (c : VC) {k j : Nat} (v : VLy) (h : j ≠ k) : (sLy c k v).2.1 j = c.2.1 j := va_up_ne _ _ h
theorem sCk_ne (c : VC) {k j : Nat} (v : VCk) (h : j ≠ k) : (sCk c k v).2.2.1 j = c.2.2.1 j := va_up_ne _ _ h
theorem sSt_ne1 (c : VC) {k j : Nat} (v : VSt) (h : j ≠ k) : (sSt c k v).1 j = c.1 j := va_up_ne _ _ h
theorem sSt_ne2 (c : VC) {k j : Nat} (v : VSt) (h : j ≠ k) : (sSt c k v).2.1 j = c.2.1 j := va_up_ne _ _ h
theorem sSt_ne3 (c : VC) {k j : Nat} (v : VSt) (h : j ≠ k) : (sSt c k v).2.2.1 j = c.2.2.1 j := va_up_ne _ _ h
theorem sSt_ne4 (c : VC) {k j : Nat} (v : VSt) (h : j ≠ k) : (sSt c k v).2.2.2.1 j = c.2.2.2.1 j := va_up_ne _ _ h
theorem sSt_ne5 (c : VC) {k j : Nat} (v : VSt) (h : j ≠ k) : (sSt c k v).2.2.2.2.1 j = c.2.2.2.2.1 j := va_up_ne _ _ h
theorem sSt_ne (c : VC) {k j : Nat} (v : VSt) (h : j ≠ k) : gSt (sSt c k v) j = gSt c j := by unfold gSt; rw [sSt_ne1 _ _ h, sSt_ne2 _ _ h, sSt_ne3 _ _ h, sSt_ne4 _ _ h, sSt_ne5 _ _ h]
theorem na_ac : Cond.native arraycopyName ∈ gw := gwm (i := 309) (by decide +kernel) (by decide +kernel)
theorem ns_ac : Cond.static arraycopyName ∈ gw := gwm (i := 308) (by decide +kernel) (by decide +kernel)
theorem ni_ac : Cond.initialized "java/lang/System" ∈ gw := gwm (i := 32) (by decide +kernel) (by decide +kernel)
theorem kc_fill : Cond.code yJ7_fill_53178 cJ7_fill_53178 4 none ∈ gw := gwm (i := 543) (by decide +kernel) (by decide +kernel)
theorem ki_fill : Cond.initialized RJ7 ∈ gw := gwm (i := 30) (by decide +kernel) (by decide +kernel)
theorem st_fill : Cond.static yJ7_fill_53178 ∈ gw := gwm (i := 542) (by decide +kernel) (by decide +kernel)
theorem k_fill : KY yJ7_fill_53178 cJ7_fill_53178 4 none 2 := ⟨kc_fill, ki_fill, by decide, by decide +kernel⟩
section
variable {ρ : Type} {G : GG} {nL : Nat} {X : WX} {Q : ρ → State → Prop} {sp : Option ρ} {V : VA} {L : List (Nat × Value)} {st : List Value} {own : String} {cc : ByteArray} {d : Nat} {c0 : VC} {w : VW} {k : Nat}
theorem acp_in {n0 n1 : Nat} {f g h : Nat → Int32} {sp dp n : Int32} (e : acp n0 n1 f g sp dp n = some h) : ¬ sp < 0 ∧ ¬ dp < 0 ∧ ¬ n < 0 ∧ sp.toNatClampNeg + n.toNatClampNeg ≤ n0 ∧ dp.toNatClampNeg + n.toNatClampNeg ≤ n1 ∧ h = va_cpy f g sp.toNatClampNeg dp.toNatClampNeg n.toNatClampNeg := by
  unfold acp at e
  split at e
  · cases e
  · next q =>
    cases e
    simp only [not_or] at q
    exact ⟨q.1, q.2.1, q.2.2.1, Nat.not_lt.mp q.2.2.2.1, Nat.not_lt.mp q.2.2.2.2, rfl⟩
theorem j_acp (C : Cx G nL X own cc d) {n0 n1 : Nat} {f g h : Nat → Int32} {i0 i1 n : Int32} {a0 a1 : Nat} {V1 : VA} {index : Nat} (pc q0 q1 : Nat) (hq0 : q0 < nG G) (hq1 : q1 < nG G) (ha0 : a0 = G.2.2 q0) (ha1 : a1 = G.2.2 q1) (hc0 : cellA G.2.1 G.2.2 V q0 = cI (G.2.1 0) n0 f) (hc1 : cellA G.2.1 G.2.2 V q1 = cI (G.2.1 0) n1 g) (hr : acp n0 n1 f g i0 i1 n = some h) (hu : ∀ j, j < nG G → va_up (cellA G.2.1 G.2.2 V) q1 (cI (G.2.1 0) n1 h) j = cellA G.2.1 G.2.2 V1 j)
    (hl : Cond.methodLink own index arraycopyName ∈ gw) (hd : decode cc pc = .ok (.invokestatic index, 3)) (hdd : 1 ≤ d) (hst : (st.map fun v => v.category).sum ≤ 8)
    (kk : JS G nL X Q sp V1 (pc + 3) L st) : JS G nL X Q sp V pc L (.int n :: .int i1 :: .ref a1 :: .int i0 :: .ref a0 :: st) := by
  intro x0 h0 H locs ls hP hS hl9
  obtain ⟨e1, e2, e3, e4, e5, rfl⟩ := acp_in hr
  subst ha0; subst ha1
  have r1 := C.2.2.2.2.2.2.2.2.1
  have r2 := C.2.2.2.2.2.2.2.2.2.1
  refine va_copyi C.1 C.2.1 (by rw [C.2.2.1]; exact hl9.1.symm) C.2.2.2.1 (C.2.2.2.2.1 _ hl) (C.2.2.2.2.1 _ na_ac) (C.2.2.2.2.1 _ ns_ac) (C.2.2.2.2.1 _ ni_ac) C.2.2.2.2.2.1.1 hP (wld_D C.2.2.2.2.2.2.1 V _) hS q0 q1 0 0 (by rw [wld_at G V hq0, hc0]) (by rw [wld_at G V hq1, hc1]) rfl rfl rfl e1 e2 e3 e4 e5 (fun _ _ => rfl) (by omega) ?_ hd (fun H1 locs1 hP1 _ hS1 => kk x0 h0 H1 locs1 ls (by rw [← wld_set hq1 hu]; exact hP1) hS1 hl9)
  have hw : nativeFrameWords "java/lang/System" "arraycopy" 5 = 7 := by decide
  rw [hw]
  omega
theorem j_fcmp (C : Cx G nL X own cc d) {x y : UInt32} {op : CmpOp} (pc : Nat) (hd : decode cc pc = .ok (.fcmp op, 1)) (kk : JS G nL X Q sp V (pc + 1) L (.int (Op.cmpValue (FP.fcmp x y) op) :: st)) : JS G nL X Q sp V pc L (.float y :: .float x :: st) :=
  fun x0 h0 H locs ls hP hS hl => lv_fcmp C.1 C.2.1 hd (kk x0 h0 H locs ls hP hS hl)
theorem j_case (C : Cx G nL X own cc d) {dflt lo hi : Int} {offs : Array Int} {len : Nat} {x n : Int32} {off : Int} {A B : Option ρ} (pc tgt : Nat) (hd : decode cc pc = .ok (.tableswitch dflt lo hi offs, len)) (hr : ¬ n.toInt < lo ∧ ¬ hi < n.toInt) (ho : offs[(n.toInt - lo).toNat]? = some off) (ht : (pc : Int) + off = (tgt : Int))
    (kA : x = n → JS G nL X Q A V tgt L st) (kB : ¬ x = n → JS G nL X Q B V pc L (.int x :: st)) : JS G nL X Q (if x = n then A else B) V pc L (.int x :: st) := by
  intro x0 h0 H locs ls hP hS hl
  by_cases hc : x = n
  · rw [if_pos hc] at h0
    subst hc
    exact lv_tableIn C.1 C.2.1 hd hr.1 hr.2 ho ht (kA rfl x0 h0 H locs ls hP hS hl)
  · rw [if_neg hc] at h0
    exact kB hc x0 h0 H locs ls hP hS hl
theorem j_dflt (C : Cx G nL X own cc d) {dflt lo hi : Int} {offs : Array Int} {len : Nat} {x : Int32} (pc tgt : Nat) (hd : decode cc pc = .ok (.tableswitch dflt lo hi offs, len)) (ht : (pc : Int) + dflt = (tgt : Int)) (hn : ∀ z : Int, lo ≤ z → z ≤ hi → x.toInt = z → False)
    (kk : JS G nL X Q sp V tgt L st) : JS G nL X Q sp V pc L (.int x :: st) := by
  intro x0 h0 H locs ls hP hS hl
  refine lv_tableOut C.1 C.2.1 hd ?_ ht (kk x0 h0 H locs ls hP hS hl)
  by_cases h1 : x.toInt < lo
  · exact Or.inl h1
  · by_cases h2 : hi < x.toInt
    · exact Or.inr h2
    · exact (hn _ (by omega) (by omega) rfl).elim
theorem t_Sv (C : Cx G nL X own cc d) {x : Nat} {i : Int32} {f : Nat → Nat} (pc : Nat) (hr : wrp 6 c0.2.2.2.2.2.2.2.2 i x = some f) (hd : decode cc pc = .ok (.aastore, 1))
    (kk : JS G nL X Q sp (sSp c0 (c0.2.2.2.2.2.2.1, c0.2.2.2.2.2.2.2.1, f), w) (pc + 1) L st) : JS G nL X Q sp (c0, w) pc L (.ref (G.2.2 (6 + 2 * x)) :: .int i :: .ref (G.2.2 1) :: st) := by
  intro x0 h0 H locs ls hP hS hl
  obtain ⟨hin, rfl, hx⟩ := wrp_in hr
  refine va_astq (f := fun i => some (G.2.2 (6 + 2 * min (c0.2.2.2.2.2.2.2.2 i) 7))) (r := (RX2, TX2, 9)) C.1 C.2.1 C.2.2.2.2.2.1.1 hP (wld_D C.2.2.2.2.2.2.1 _ _) hS 1 2 (6 + 2 * x) 2 (by rw [wld_at G _ (nG_lt C.2.2.2.2.2.2.1 (by omega))]; rfl) rfl (by rw [wld_at G _ (nG_lt C.2.2.2.2.2.2.1 (by omega)), at_st hx]; rfl) rfl hin hd (fun H1 locs1 hP1 _ hS1 => kk x0 h0 H1 locs1 ls ?_ hS1 hl)
  have hu := up_sp (n0 := nG G) (cy := G.2.1) (ad := G.2.2) (c := c0) (w := w) (t := c0.2.2.2.2.2.1) (v := (c0.2.2.2.2.2.2.1, c0.2.2.2.2.2.2.2.1, va_up c0.2.2.2.2.2.2.2.2 i.toNatClampNeg x)) (j0 := 1) (by omega) (by intro i hi he; rcases (show i = 0 ∨ i = 2 ∨ i = 3 ∨ i = 4 ∨ i = 5 by omega) with rfl | rfl | rfl | rfl | rfl <;> rfl)
  have h9 := wld_set (G := G) (V := (c0, w)) (i := 1) (nG_lt C.2.2.2.2.2.2.1 (by omega)) hu
  have e9 : sSp (sTx c0 c0.2.2.2.2.2.1) (c0.2.2.2.2.2.2.1, c0.2.2.2.2.2.2.2.1, va_up c0.2.2.2.2.2.2.2.2 i.toNatClampNeg x) = sSp c0 (c0.2.2.2.2.2.2.1, c0.2.2.2.2.2.2.2.1, va_up c0.2.2.2.2.2.2.2.2 i.toNatClampNeg x) := rfl
  rw [e9] at h9
  rw [← h9]
  have e2 : spC G.2.1 G.2.2 c0.2.2.2.2.2.1 (c0.2.2.2.2.2.2.1, c0.2.2.2.2.2.2.2.1, va_up c0.2.2.2.2.2.2.2.2 i.toNatClampNeg x) 1 = (.inl (G.2.1 2, 6, .inr (.inr (.inr (.inr (va_up (fun i => some (G.2.2 (6 + 2 * min (c0.2.2.2.2.2.2.2.2 i) 7))) i.toNatClampNeg (some (G.2.2 (6 + 2 * x)))))))) : va_E) := by
    show cSv G.2.1 G.2.2 _ = _
    unfold cSv
    have e3 : (fun j => some (G.2.2 (6 + 2 * min (va_up c0.2.2.2.2.2.2.2.2 i.toNatClampNeg x j) 7))) = va_up (fun i => some (G.2.2 (6 + 2 * min (c0.2.2.2.2.2.2.2.2 i) 7))) i.toNatClampNeg (some (G.2.2 (6 + 2 * x))) := by
      funext j
      unfold va_up
      split
      · rw [Nat.min_eq_left (by omega)]
      · rfl
    rw [← e3]
  rw [e2]
  exact hP1
theorem j_callS_v (C : Cx G nL X own cc d) {y : MethodName} {bytes : ByteArray} {maxL index n d1 : Nat} {ret : Option FieldType} {As : List Value} {V1 V2 : VA} (hK : KY y bytes maxL ret n) (pc : Nat) (hct : Ct (xl X) y bytes maxL ret d1 As G V none V1) (hV : V1 = V2) (hlink : Cond.methodLink own index y ∈ gw) (hi : Cond.static y ∈ gw) (hd : decode cc pc = .ok (.invokestatic index, 3)) (hdd : d1 + 1 ≤ d) (hn : As.length = n) (hst : (st.map fun v => v.category).sum ≤ 8)
    (kk : JS G nL X Q sp V2 (pc + 3) L (st)) {st0 : List Value} (h0 : st0 = As.reverse ++ st) : JS G nL X Q sp V pc L st0 := j_callS C hK pc hct hV hlink hi hdd hn hst hd kk h0
theorem j_callSN_v (C : Cx G nL X own cc d) {host : String} {y : MethodName} {bytes : ByteArray} {maxL index n d1 : Nat} {ret : Option FieldType} {As : List Value} {V1 V2 : VA} (hK : KY y bytes maxL ret n) (pc : Nat) (hct : Ct (xl X) y bytes maxL ret d1 As G V none V1) (hV : V1 = V2) (hlink : Cond.methodLinkNest own index y host ∈ nestW) (hi : Cond.static y ∈ gw) (hd : decode cc pc = .ok (.invokestatic index, 3)) (hdd : d1 + 1 ≤ d) (hn : As.length = n) (hst : (st.map fun v => v.category).sum ≤ 8)
    (kk : JS G nL X Q sp V2 (pc + 3) L (st)) {st0 : List Value} (h0 : st0 = As.reverse ++ st) : JS G nL X Q sp V pc L st0 := j_callSN C hK pc hct hV hlink hi hdd hn hst hd kk h0
theorem j_vCk_v (C : Cx G nL X own cc d) {y : MethodName} {bytes : ByteArray} {maxL index n d1 : Nat} {ret : Option FieldType} {As : List Value} {V1 V2 : VA} (hk : k < 9) (hK : KY y bytes maxL ret n) (pc : Nat) (hct : Ct (xl X) y bytes maxL ret d1 (.ref (G.2.2 (96 + 2 * k)) :: As) G (c0, w) none V1) (hV : V1 = V2) (hcn : RX0 = y.cls) (hlink : Cond.methodLink own index y ∈ gw) (hi : Cond.instanceMethod y ∈ gw) (hs : Cond.selects RX0 y y ∈ gw) (hd : decode cc pc = .ok (.invokevirtual index, 3)) (hdd : d1 + 1 ≤ d) (hn : As.length = n) (hst : (st.map fun v => v.category).sum ≤ 8)
    (kk : JS G nL X Q sp V2 (pc + 3) L (st)) {st0 : List Value} (h0 : st0 = As.reverse ++ .ref (G.2.2 (96 + 2 * k)) :: st) : JS G nL X Q sp (c0, w) pc L st0 := j_callV C hK (ci := 0) (q := (96 + 2 * k)) pc hct hV (nG_lt C.2.2.2.2.2.2.1 (by omega)) rfl (at_ck hk) rfl hcn hlink hi (hcn ▸ hs) hdd hn hst hd kk h0
theorem j_vLy_v (C : Cx G nL X own cc d) {y : MethodName} {bytes : ByteArray} {maxL index n d1 : Nat} {ret : Option FieldType} {As : List Value} {V1 V2 : VA} (hk : k < 9) (hK : KY y bytes maxL ret n) (pc : Nat) (hct : Ct (xl X) y bytes maxL ret d1 (.ref (G.2.2 (78 + 2 * k)) :: As) G (c0, w) none V1) (hV : V1 = V2) (hcn : RX1 = y.cls) (hlink : Cond.methodLink own index y ∈ gw) (hi : Cond.instanceMethod y ∈ gw) (hs : Cond.selects RX1 y y ∈ gw) (hd : decode cc pc = .ok (.invokevirtual index, 3)) (hdd : d1 + 1 ≤ d) (hn : As.length = n) (hst : (st.map fun v => v.category).sum ≤ 8)
    (kk : JS G nL X Q sp V2 (pc + 3) L (st)) {st0 : List Value} (h0 : st0 = As.reverse ++ .ref (G.2.2 (78 + 2 * k)) :: st) : JS G nL X Q sp (c0, w) pc L st0 := j_callV C hK (ci := 1) (q := (78 + 2 * k)) pc hct hV (nG_lt C.2.2.2.2.2.2.1 (by omega)) rfl (at_ly hk) rfl hcn hlink hi (hcn ▸ hs) hdd hn hst hd kk h0
theorem j_vSt_v (C : Cx G nL X own cc d) {y : MethodName} {bytes : ByteArray} {maxL index n d1 : Nat} {ret : Option FieldType} {As : List Value} {V1 V2 : VA} (hk : k < 8) (hK : KY y bytes maxL ret n) (pc : Nat) (hct : Ct (xl X) y bytes maxL ret d1 (.ref (G.2.2 (6 + 2 * k)) :: As) G (c0, w) none V1) (hV : V1 = V2) (hcn : RX2 = y.cls) (hlink : Cond.methodLink own index y ∈ gw) (hi : Cond.instanceMethod y ∈ gw) (hs : Cond.selects RX2 y y ∈ gw) (hd : decode cc pc = .ok (.invokevirtual index, 3)) (hdd : d1 + 1 ≤ d) (hn : As.length = n) (hst : (st.map fun v => v.category).sum ≤ 8)
    (kk : JS G nL X Q sp V2 (pc + 3) L (st)) {st0 : List Value} (h0 : st0 = As.reverse ++ .ref (G.2.2 (6 + 2 * k)) :: st) : JS G nL X Q sp (c0, w) pc L st0 := j_callV C hK (ci := 2) (q := (6 + 2 * k)) pc hct hV (nG_lt C.2.2.2.2.2.2.1 (by omega)) rfl (at_st hk) rfl hcn hlink hi (hcn ▸ hs) hdd hn hst hd kk h0
theorem j_vSk_v (C : Cx G nL X own cc d) {y : MethodName} {bytes : ByteArray} {maxL index n d1 : Nat} {ret : Option FieldType} {As : List Value} {V1 V2 : VA} (hk : k < 8) (hK : KY y bytes maxL ret n) (pc : Nat) (hct : Ct (xl X) y bytes maxL ret d1 (.ref (G.2.2 (22 + 7 * k)) :: As) G (c0, w) none V1) (hV : V1 = V2) (hcn : RX3 = y.cls) (hlink : Cond.methodLink own index y ∈ gw) (hi : Cond.instanceMethod y ∈ gw) (hs : Cond.selects RX3 y y ∈ gw) (hd : decode cc pc = .ok (.invokevirtual index, 3)) (hdd : d1 + 1 ≤ d) (hn : As.length = n) (hst : (st.map fun v => v.category).sum ≤ 8)
    (kk : JS G nL X Q sp V2 (pc + 3) L (st)) {st0 : List Value} (h0 : st0 = As.reverse ++ .ref (G.2.2 (22 + 7 * k)) :: st) : JS G nL X Q sp (c0, w) pc L st0 := j_callV C hK (ci := 3) (q := (22 + 7 * k)) pc hct hV (nG_lt C.2.2.2.2.2.2.1 (by omega)) rfl (at_sk (j := 0) hk (by omega)) rfl hcn hlink hi (hcn ▸ hs) hdd hn hst hd kk h0
theorem j_vTx_v (C : Cx G nL X own cc d) {y : MethodName} {bytes : ByteArray} {maxL index n d1 : Nat} {ret : Option FieldType} {As : List Value} {V1 V2 : VA} (hK : KY y bytes maxL ret n) (pc : Nat) (hct : Ct (xl X) y bytes maxL ret d1 (.ref (G.2.2 2) :: As) G (c0, w) none V1) (hV : V1 = V2) (hcn : RX4 = y.cls) (hlink : Cond.methodLink own index y ∈ gw) (hi : Cond.instanceMethod y ∈ gw) (hs : Cond.selects RX4 y y ∈ gw) (hd : decode cc pc = .ok (.invokevirtual index, 3)) (hdd : d1 + 1 ≤ d) (hn : As.length = n) (hst : (st.map fun v => v.category).sum ≤ 8)
    (kk : JS G nL X Q sp V2 (pc + 3) L (st)) {st0 : List Value} (h0 : st0 = As.reverse ++ .ref (G.2.2 2) :: st) : JS G nL X Q sp (c0, w) pc L st0 := j_callV C hK (ci := 4) (q := 2) pc hct hV (nG_lt C.2.2.2.2.2.2.1 (by omega)) rfl (at_sp (j := 2) (by omega)) rfl hcn hlink hi (hcn ▸ hs) hdd hn hst hd kk h0
theorem j_vSp_v (C : Cx G nL X own cc d) {y : MethodName} {bytes : ByteArray} {maxL index n d1 : Nat} {ret : Option FieldType} {As : List Value} {V1 V2 : VA} (hK : KY y bytes maxL ret n) (pc : Nat) (hct : Ct (xl X) y bytes maxL ret d1 (.ref (G.2.2 0) :: As) G (c0, w) none V1) (hV : V1 = V2) (hcn : RX5 = y.cls) (hlink : Cond.methodLink own index y ∈ gw) (hi : Cond.instanceMethod y ∈ gw) (hs : Cond.selects RX5 y y ∈ gw) (hd : decode cc pc = .ok (.invokevirtual index, 3)) (hdd : d1 + 1 ≤ d) (hn : As.length = n) (hst : (st.map fun v => v.category).sum ≤ 8)
    (kk : JS G nL X Q sp V2 (pc + 3) L (st)) {st0 : List Value} (h0 : st0 = As.reverse ++ .ref (G.2.2 0) :: st) : JS G nL X Q sp (c0, w) pc L st0 := j_callV C hK (ci := 5) (q := 0) pc hct hV (nG_lt C.2.2.2.2.2.2.1 (by omega)) rfl (at_sp (j := 0) (by omega)) rfl hcn hlink hi (hcn ▸ hs) hdd hn hst hd kk h0
theorem j_callS_i (C : Cx G nL X own cc d) {y : MethodName} {bytes : ByteArray} {maxL index n d1 : Nat} {ret : Option FieldType} {As : List Value} {V1 V2 : VA} {r : Int32} (hK : KY y bytes maxL ret n) (pc : Nat) (hct : Ct (xl X) y bytes maxL ret d1 As G V (some (.int r)) V1) (hV : V1 = V2) (hlink : Cond.methodLink own index y ∈ gw) (hi : Cond.static y ∈ gw) (hd : decode cc pc = .ok (.invokestatic index, 3)) (hdd : d1 + 1 ≤ d) (hn : As.length = n) (hst : (st.map fun v => v.category).sum ≤ 8)
    (kk : JS G nL X Q sp V2 (pc + 3) L (.int r :: st)) {st0 : List Value} (h0 : st0 = As.reverse ++ st) : JS G nL X Q sp V pc L st0 := j_callS C hK pc hct hV hlink hi hdd hn hst hd kk h0
theorem j_callSN_i (C : Cx G nL X own cc d) {host : String} {y : MethodName} {bytes : ByteArray} {maxL index n d1 : Nat} {ret : Option FieldType} {As : List Value} {V1 V2 : VA} {r : Int32} (hK : KY y bytes maxL ret n) (pc : Nat) (hct : Ct (xl X) y bytes maxL ret d1 As G V (some (.int r)) V1) (hV : V1 = V2) (hlink : Cond.methodLinkNest own index y host ∈ nestW) (hi : Cond.static y ∈ gw) (hd : decode cc pc = .ok (.invokestatic index, 3)) (hdd : d1 + 1 ≤ d) (hn : As.length = n) (hst : (st.map fun v => v.category).sum ≤ 8)
    (kk : JS G nL X Q sp V2 (pc + 3) L (.int r :: st)) {st0 : List Value} (h0 : st0 = As.reverse ++ st) : JS G nL X Q sp V pc L st0 := j_callSN C hK pc hct hV hlink hi hdd hn hst hd kk h0
theorem j_vCk_i (C : Cx G nL X own cc d) {y : MethodName} {bytes : ByteArray} {maxL index n d1 : Nat} {ret : Option FieldType} {As : List Value} {V1 V2 : VA} {r : Int32} (hk : k < 9) (hK : KY y bytes maxL ret n) (pc : Nat) (hct : Ct (xl X) y bytes maxL ret d1 (.ref (G.2.2 (96 + 2 * k)) :: As) G (c0, w) (some (.int r)) V1) (hV : V1 = V2) (hcn : RX0 = y.cls) (hlink : Cond.methodLink own index y ∈ gw) (hi : Cond.instanceMethod y ∈ gw) (hs : Cond.selects RX0 y y ∈ gw) (hd : decode cc pc = .ok (.invokevirtual index, 3)) (hdd : d1 + 1 ≤ d) (hn : As.length = n) (hst : (st.map fun v => v.category).sum ≤ 8)
    (kk : JS G nL X Q sp V2 (pc + 3) L (.int r :: st)) {st0 : List Value} (h0 : st0 = As.reverse ++ .ref (G.2.2 (96 + 2 * k)) :: st) : JS G nL X Q sp (c0, w) pc L st0 := j_callV C hK (ci := 0) (q := (96 + 2 * k)) pc hct hV (nG_lt C.2.2.2.2.2.2.1 (by omega)) rfl (at_ck hk) rfl hcn hlink hi (hcn ▸ hs) hdd hn hst hd kk h0
theorem j_vLy_i (C : Cx G nL X own cc d) {y : MethodName} {bytes : ByteArray} {maxL index n d1 : Nat} {ret : Option FieldType} {As : List Value} {V1 V2 : VA} {r : Int32} (hk : k < 9) (hK : KY y bytes maxL ret n) (pc : Nat) (hct : Ct (xl X) y bytes maxL ret d1 (.ref (G.2.2 (78 + 2 * k)) :: As) G (c0, w) (some (.int r)) V1) (hV : V1 = V2) (hcn : RX1 = y.cls) (hlink : Cond.methodLink own index y ∈ gw) (hi : Cond.instanceMethod y ∈ gw) (hs : Cond.selects RX1 y y ∈ gw) (hd : decode cc pc = .ok (.invokevirtual index, 3)) (hdd : d1 + 1 ≤ d) (hn : As.length = n) (hst : (st.map fun v => v.category).sum ≤ 8)
    (kk : JS G nL X Q sp V2 (pc + 3) L (.int r :: st)) {st0 : List Value} (h0 : st0 = As.reverse ++ .ref (G.2.2 (78 + 2 * k)) :: st) : JS G nL X Q sp (c0, w) pc L st0 := j_callV C hK (ci := 1) (q := (78 + 2 * k)) pc hct hV (nG_lt C.2.2.2.2.2.2.1 (by omega)) rfl (at_ly hk) rfl hcn hlink hi (hcn ▸ hs) hdd hn hst hd kk h0
theorem j_vSt_i (C : Cx G nL X own cc d) {y : MethodName} {bytes : ByteArray} {maxL index n d1 : Nat} {ret : Option FieldType} {As : List Value} {V1 V2 : VA} {r : Int32} (hk : k < 8) (hK : KY y bytes maxL ret n) (pc : Nat) (hct : Ct (xl X) y bytes maxL ret d1 (.ref (G.2.2 (6 + 2 * k)) :: As) G (c0, w) (some (.int r)) V1) (hV : V1 = V2) (hcn : RX2 = y.cls) (hlink : Cond.methodLink own index y ∈ gw) (hi : Cond.instanceMethod y ∈ gw) (hs : Cond.selects RX2 y y ∈ gw) (hd : decode cc pc = .ok (.invokevirtual index, 3)) (hdd : d1 + 1 ≤ d) (hn : As.length = n) (hst : (st.map fun v => v.category).sum ≤ 8)
    (kk : JS G nL X Q sp V2 (pc + 3) L (.int r :: st)) {st0 : List Value} (h0 : st0 = As.reverse ++ .ref (G.2.2 (6 + 2 * k)) :: st) : JS G nL X Q sp (c0, w) pc L st0 := j_callV C hK (ci := 2) (q := (6 + 2 * k)) pc hct hV (nG_lt C.2.2.2.2.2.2.1 (by omega)) rfl (at_st hk) rfl hcn hlink hi (hcn ▸ hs) hdd hn hst hd kk h0
theorem j_vSk_i (C : Cx G nL X own cc d) {y : MethodName} {bytes : ByteArray} {maxL index n d1 : Nat} {ret : Option FieldType} {As : List Value} {V1 V2 : VA} {r : Int32} (hk : k < 8) (hK : KY y bytes maxL ret n) (pc : Nat) (hct : Ct (xl X) y bytes maxL ret d1 (.ref (G.2.2 (22 + 7 * k)) :: As) G (c0, w) (some (.int r)) V1) (hV : V1 = V2) (hcn : RX3 = y.cls) (hlink : Cond.methodLink own index y ∈ gw) (hi : Cond.instanceMethod y ∈ gw) (hs : Cond.selects RX3 y y ∈ gw) (hd : decode cc pc = .ok (.invokevirtual index, 3)) (hdd : d1 + 1 ≤ d) (hn : As.length = n) (hst : (st.map fun v => v.category).sum ≤ 8)
    (kk : JS G nL X Q sp V2 (pc + 3) L (.int r :: st)) {st0 : List Value} (h0 : st0 = As.reverse ++ .ref (G.2.2 (22 + 7 * k)) :: st) : JS G nL X Q sp (c0, w) pc L st0 := j_callV C hK (ci := 3) (q := (22 + 7 * k)) pc hct hV (nG_lt C.2.2.2.2.2.2.1 (by omega)) rfl (at_sk (j := 0) hk (by omega)) rfl hcn hlink hi (hcn ▸ hs) hdd hn hst hd kk h0
theorem j_vTx_i (C : Cx G nL X own cc d) {y : MethodName} {bytes : ByteArray} {maxL index n d1 : Nat} {ret : Option FieldType} {As : List Value} {V1 V2 : VA} {r : Int32} (hK : KY y bytes maxL ret n) (pc : Nat) (hct : Ct (xl X) y bytes maxL ret d1 (.ref (G.2.2 2) :: As) G (c0, w) (some (.int r)) V1) (hV : V1 = V2) (hcn : RX4 = y.cls) (hlink : Cond.methodLink own index y ∈ gw) (hi : Cond.instanceMethod y ∈ gw) (hs : Cond.selects RX4 y y ∈ gw) (hd : decode cc pc = .ok (.invokevirtual index, 3)) (hdd : d1 + 1 ≤ d) (hn : As.length = n) (hst : (st.map fun v => v.category).sum ≤ 8)
    (kk : JS G nL X Q sp V2 (pc + 3) L (.int r :: st)) {st0 : List Value} (h0 : st0 = As.reverse ++ .ref (G.2.2 2) :: st) : JS G nL X Q sp (c0, w) pc L st0 := j_callV C hK (ci := 4) (q := 2) pc hct hV (nG_lt C.2.2.2.2.2.2.1 (by omega)) rfl (at_sp (j := 2) (by omega)) rfl hcn hlink hi (hcn ▸ hs) hdd hn hst hd kk h0
theorem j_vSp_i (C : Cx G nL X own cc d) {y : MethodName} {bytes : ByteArray} {maxL index n d1 : Nat} {ret : Option FieldType} {As : List Value} {V1 V2 : VA} {r : Int32} (hK : KY y bytes maxL ret n) (pc : Nat) (hct : Ct (xl X) y bytes maxL ret d1 (.ref (G.2.2 0) :: As) G (c0, w) (some (.int r)) V1) (hV : V1 = V2) (hcn : RX5 = y.cls) (hlink : Cond.methodLink own index y ∈ gw) (hi : Cond.instanceMethod y ∈ gw) (hs : Cond.selects RX5 y y ∈ gw) (hd : decode cc pc = .ok (.invokevirtual index, 3)) (hdd : d1 + 1 ≤ d) (hn : As.length = n) (hst : (st.map fun v => v.category).sum ≤ 8)
    (kk : JS G nL X Q sp V2 (pc + 3) L (.int r :: st)) {st0 : List Value} (h0 : st0 = As.reverse ++ .ref (G.2.2 0) :: st) : JS G nL X Q sp (c0, w) pc L st0 := j_callV C hK (ci := 5) (q := 0) pc hct hV (nG_lt C.2.2.2.2.2.2.1 (by omega)) rfl (at_sp (j := 0) (by omega)) rfl hcn hlink hi (hcn ▸ hs) hdd hn hst hd kk h0
theorem j_callS_l (C : Cx G nL X own cc d) {y : MethodName} {bytes : ByteArray} {maxL index n d1 : Nat} {ret : Option FieldType} {As : List Value} {V1 V2 : VA} {r : Int64} (hK : KY y bytes maxL ret n) (pc : Nat) (hct : Ct (xl X) y bytes maxL ret d1 As G V (some (.long r)) V1) (hV : V1 = V2) (hlink : Cond.methodLink own index y ∈ gw) (hi : Cond.static y ∈ gw) (hd : decode cc pc = .ok (.invokestatic index, 3)) (hdd : d1 + 1 ≤ d) (hn : As.length = n) (hst : (st.map fun v => v.category).sum ≤ 8)
    (kk : JS G nL X Q sp V2 (pc + 3) L (.long r :: st)) {st0 : List Value} (h0 : st0 = As.reverse ++ st) : JS G nL X Q sp V pc L st0 := j_callS C hK pc hct hV hlink hi hdd hn hst hd kk h0
theorem j_callSN_l (C : Cx G nL X own cc d) {host : String} {y : MethodName} {bytes : ByteArray} {maxL index n d1 : Nat} {ret : Option FieldType} {As : List Value} {V1 V2 : VA} {r : Int64} (hK : KY y bytes maxL ret n) (pc : Nat) (hct : Ct (xl X) y bytes maxL ret d1 As G V (some (.long r)) V1) (hV : V1 = V2) (hlink : Cond.methodLinkNest own index y host ∈ nestW) (hi : Cond.static y ∈ gw) (hd : decode cc pc = .ok (.invokestatic index, 3)) (hdd : d1 + 1 ≤ d) (hn : As.length = n) (hst : (st.map fun v => v.category).sum ≤ 8)
    (kk : JS G nL X Q sp V2 (pc + 3) L (.long r :: st)) {st0 : List Value} (h0 : st0 = As.reverse ++ st) : JS G nL X Q sp V pc L st0 := j_callSN C hK pc hct hV hlink hi hdd hn hst hd kk h0
theorem j_vCk_l (C : Cx G nL X own cc d) {y : MethodName} {bytes : ByteArray} {maxL index n d1 : Nat} {ret : Option FieldType} {As : List Value} {V1 V2 : VA} {r : Int64} (hk : k < 9) (hK : KY y bytes maxL ret n) (pc : Nat) (hct : Ct (xl X) y bytes maxL ret d1 (.ref (G.2.2 (96 + 2 * k)) :: As) G (c0, w) (some (.long r)) V1) (hV : V1 = V2) (hcn : RX0 = y.cls) (hlink : Cond.methodLink own index y ∈ gw) (hi : Cond.instanceMethod y ∈ gw) (hs : Cond.selects RX0 y y ∈ gw) (hd : decode cc pc = .ok (.invokevirtual index, 3)) (hdd : d1 + 1 ≤ d) (hn : As.length = n) (hst : (st.map fun v => v.category).sum ≤ 8)
    (kk : JS G nL X Q sp V2 (pc + 3) L (.long r :: st)) {st0 : List Value} (h0 : st0 = As.reverse ++ .ref (G.2.2 (96 + 2 * k)) :: st) : JS G nL X Q sp (c0, w) pc L st0 := j_callV C hK (ci := 0) (q := (96 + 2 * k)) pc hct hV (nG_lt C.2.2.2.2.2.2.1 (by omega)) rfl (at_ck hk) rfl hcn hlink hi (hcn ▸ hs) hdd hn hst hd kk h0
theorem j_vLy_l (C : Cx G nL X own cc d) {y : MethodName} {bytes : ByteArray} {maxL index n d1 : Nat} {ret : Option FieldType} {As : List Value} {V1 V2 : VA} {r : Int64} (hk : k < 9) (hK : KY y bytes maxL ret n) (pc : Nat) (hct : Ct (xl X) y bytes maxL ret d1 (.ref (G.2.2 (78 + 2 * k)) :: As) G (c0, w) (some (.long r)) V1) (hV : V1 = V2) (hcn : RX1 = y.cls) (hlink : Cond.methodLink own index y ∈ gw) (hi : Cond.instanceMethod y ∈ gw) (hs : Cond.selects RX1 y y ∈ gw) (hd : decode cc pc = .ok (.invokevirtual index, 3)) (hdd : d1 + 1 ≤ d) (hn : As.length = n) (hst : (st.map fun v => v.category).sum ≤ 8)
    (kk : JS G nL X Q sp V2 (pc + 3) L (.long r :: st)) {st0 : List Value} (h0 : st0 = As.reverse ++ .ref (G.2.2 (78 + 2 * k)) :: st) : JS G nL X Q sp (c0, w) pc L st0 := j_callV C hK (ci := 1) (q := (78 + 2 * k)) pc hct hV (nG_lt C.2.2.2.2.2.2.1 (by omega)) rfl (at_ly hk) rfl hcn hlink hi (hcn ▸ hs) hdd hn hst hd kk h0
theorem j_vSt_l (C : Cx G nL X own cc d) {y : MethodName} {bytes : ByteArray} {maxL index n d1 : Nat} {ret : Option FieldType} {As : List Value} {V1 V2 : VA} {r : Int64} (hk : k < 8) (hK : KY y bytes maxL ret n) (pc : Nat) (hct : Ct (xl X) y bytes maxL ret d1 (.ref (G.2.2 (6 + 2 * k)) :: As) G (c0, w) (some (.long r)) V1) (hV : V1 = V2) (hcn : RX2 = y.cls) (hlink : Cond.methodLink own index y ∈ gw) (hi : Cond.instanceMethod y ∈ gw) (hs : Cond.selects RX2 y y ∈ gw) (hd : decode cc pc = .ok (.invokevirtual index, 3)) (hdd : d1 + 1 ≤ d) (hn : As.length = n) (hst : (st.map fun v => v.category).sum ≤ 8)
    (kk : JS G nL X Q sp V2 (pc + 3) L (.long r :: st)) {st0 : List Value} (h0 : st0 = As.reverse ++ .ref (G.2.2 (6 + 2 * k)) :: st) : JS G nL X Q sp (c0, w) pc L st0 := j_callV C hK (ci := 2) (q := (6 + 2 * k)) pc hct hV (nG_lt C.2.2.2.2.2.2.1 (by omega)) rfl (at_st hk) rfl hcn hlink hi (hcn ▸ hs) hdd hn hst hd kk h0
theorem j_vSk_l (C : Cx G nL X own cc d) {y : MethodName} {bytes : ByteArray} {maxL index n d1 : Nat} {ret : Option FieldType} {As : List Value} {V1 V2 : VA} {r : Int64} (hk : k < 8) (hK : KY y bytes maxL ret n) (pc : Nat) (hct : Ct (xl X) y bytes maxL ret d1 (.ref (G.2.2 (22 + 7 * k)) :: As) G (c0, w) (some (.long r)) V1) (hV : V1 = V2) (hcn : RX3 = y.cls) (hlink : Cond.methodLink own index y ∈ gw) (hi : Cond.instanceMethod y ∈ gw) (hs : Cond.selects RX3 y y ∈ gw) (hd : decode cc pc = .ok (.invokevirtual index, 3)) (hdd : d1 + 1 ≤ d) (hn : As.length = n) (hst : (st.map fun v => v.category).sum ≤ 8)
    (kk : JS G nL X Q sp V2 (pc + 3) L (.long r :: st)) {st0 : List Value} (h0 : st0 = As.reverse ++ .ref (G.2.2 (22 + 7 * k)) :: st) : JS G nL X Q sp (c0, w) pc L st0 := j_callV C hK (ci := 3) (q := (22 + 7 * k)) pc hct hV (nG_lt C.2.2.2.2.2.2.1 (by omega)) rfl (at_sk (j := 0) hk (by omega)) rfl hcn hlink hi (hcn ▸ hs) hdd hn hst hd kk h0
theorem j_vTx_l (C : Cx G nL X own cc d) {y : MethodName} {bytes : ByteArray} {maxL index n d1 : Nat} {ret : Option FieldType} {As : List Value} {V1 V2 : VA} {r : Int64} (hK : KY y bytes maxL ret n) (pc : Nat) (hct : Ct (xl X) y bytes maxL ret d1 (.ref (G.2.2 2) :: As) G (c0, w) (some (.long r)) V1) (hV : V1 = V2) (hcn : RX4 = y.cls) (hlink : Cond.methodLink own index y ∈ gw) (hi : Cond.instanceMethod y ∈ gw) (hs : Cond.selects RX4 y y ∈ gw) (hd : decode cc pc = .ok (.invokevirtual index, 3)) (hdd : d1 + 1 ≤ d) (hn : As.length = n) (hst : (st.map fun v => v.category).sum ≤ 8)
    (kk : JS G nL X Q sp V2 (pc + 3) L (.long r :: st)) {st0 : List Value} (h0 : st0 = As.reverse ++ .ref (G.2.2 2) :: st) : JS G nL X Q sp (c0, w) pc L st0 := j_callV C hK (ci := 4) (q := 2) pc hct hV (nG_lt C.2.2.2.2.2.2.1 (by omega)) rfl (at_sp (j := 2) (by omega)) rfl hcn hlink hi (hcn ▸ hs) hdd hn hst hd kk h0
theorem j_vSp_l (C : Cx G nL X own cc d) {y : MethodName} {bytes : ByteArray} {maxL index n d1 : Nat} {ret : Option FieldType} {As : List Value} {V1 V2 : VA} {r : Int64} (hK : KY y bytes maxL ret n) (pc : Nat) (hct : Ct (xl X) y bytes maxL ret d1 (.ref (G.2.2 0) :: As) G (c0, w) (some (.long r)) V1) (hV : V1 = V2) (hcn : RX5 = y.cls) (hlink : Cond.methodLink own index y ∈ gw) (hi : Cond.instanceMethod y ∈ gw) (hs : Cond.selects RX5 y y ∈ gw) (hd : decode cc pc = .ok (.invokevirtual index, 3)) (hdd : d1 + 1 ≤ d) (hn : As.length = n) (hst : (st.map fun v => v.category).sum ≤ 8)
    (kk : JS G nL X Q sp V2 (pc + 3) L (.long r :: st)) {st0 : List Value} (h0 : st0 = As.reverse ++ .ref (G.2.2 0) :: st) : JS G nL X Q sp (c0, w) pc L st0 := j_callV C hK (ci := 5) (q := 0) pc hct hV (nG_lt C.2.2.2.2.2.2.1 (by omega)) rfl (at_sp (j := 0) (by omega)) rfl hcn hlink hi (hcn ▸ hs) hdd hn hst hd kk h0
theorem j_callS_f (C : Cx G nL X own cc d) {y : MethodName} {bytes : ByteArray} {maxL index n d1 : Nat} {ret : Option FieldType} {As : List Value} {V1 V2 : VA} {r : UInt32} (hK : KY y bytes maxL ret n) (pc : Nat) (hct : Ct (xl X) y bytes maxL ret d1 As G V (some (.float r)) V1) (hV : V1 = V2) (hlink : Cond.methodLink own index y ∈ gw) (hi : Cond.static y ∈ gw) (hd : decode cc pc = .ok (.invokestatic index, 3)) (hdd : d1 + 1 ≤ d) (hn : As.length = n) (hst : (st.map fun v => v.category).sum ≤ 8)
    (kk : JS G nL X Q sp V2 (pc + 3) L (.float r :: st)) {st0 : List Value} (h0 : st0 = As.reverse ++ st) : JS G nL X Q sp V pc L st0 := j_callS C hK pc hct hV hlink hi hdd hn hst hd kk h0
theorem j_callSN_f (C : Cx G nL X own cc d) {host : String} {y : MethodName} {bytes : ByteArray} {maxL index n d1 : Nat} {ret : Option FieldType} {As : List Value} {V1 V2 : VA} {r : UInt32} (hK : KY y bytes maxL ret n) (pc : Nat) (hct : Ct (xl X) y bytes maxL ret d1 As G V (some (.float r)) V1) (hV : V1 = V2) (hlink : Cond.methodLinkNest own index y host ∈ nestW) (hi : Cond.static y ∈ gw) (hd : decode cc pc = .ok (.invokestatic index, 3)) (hdd : d1 + 1 ≤ d) (hn : As.length = n) (hst : (st.map fun v => v.category).sum ≤ 8)
    (kk : JS G nL X Q sp V2 (pc + 3) L (.float r :: st)) {st0 : List Value} (h0 : st0 = As.reverse ++ st) : JS G nL X Q sp V pc L st0 := j_callSN C hK pc hct hV hlink hi hdd hn hst hd kk h0
theorem j_vCk_f (C : Cx G nL X own cc d) {y : MethodName} {bytes : ByteArray} {maxL index n d1 : Nat} {ret : Option FieldType} {As : List Value} {V1 V2 : VA} {r : UInt32} (hk : k < 9) (hK : KY y bytes maxL ret n) (pc : Nat) (hct : Ct (xl X) y bytes maxL ret d1 (.ref (G.2.2 (96 + 2 * k)) :: As) G (c0, w) (some (.float r)) V1) (hV : V1 = V2) (hcn : RX0 = y.cls) (hlink : Cond.methodLink own index y ∈ gw) (hi : Cond.instanceMethod y ∈ gw) (hs : Cond.selects RX0 y y ∈ gw) (hd : decode cc pc = .ok (.invokevirtual index, 3)) (hdd : d1 + 1 ≤ d) (hn : As.length = n) (hst : (st.map fun v => v.category).sum ≤ 8)
    (kk : JS G nL X Q sp V2 (pc + 3) L (.float r :: st)) {st0 : List Value} (h0 : st0 = As.reverse ++ .ref (G.2.2 (96 + 2 * k)) :: st) : JS G nL X Q sp (c0, w) pc L st0 := j_callV C hK (ci := 0) (q := (96 + 2 * k)) pc hct hV (nG_lt C.2.2.2.2.2.2.1 (by omega)) rfl (at_ck hk) rfl hcn hlink hi (hcn ▸ hs) hdd hn hst hd kk h0
theorem j_vLy_f (C : Cx G nL X own cc d) {y : MethodName} {bytes : ByteArray} {maxL index n d1 : Nat} {ret : Option FieldType} {As : List Value} {V1 V2 : VA} {r : UInt32} (hk : k < 9) (hK : KY y bytes maxL ret n) (pc : Nat) (hct : Ct (xl X) y bytes maxL ret d1 (.ref (G.2.2 (78 + 2 * k)) :: As) G (c0, w) (some (.float r)) V1) (hV : V1 = V2) (hcn : RX1 = y.cls) (hlink : Cond.methodLink own index y ∈ gw) (hi : Cond.instanceMethod y ∈ gw) (hs : Cond.selects RX1 y y ∈ gw) (hd : decode cc pc = .ok (.invokevirtual index, 3)) (hdd : d1 + 1 ≤ d) (hn : As.length = n) (hst : (st.map fun v => v.category).sum ≤ 8)
    (kk : JS G nL X Q sp V2 (pc + 3) L (.float r :: st)) {st0 : List Value} (h0 : st0 = As.reverse ++ .ref (G.2.2 (78 + 2 * k)) :: st) : JS G nL X Q sp (c0, w) pc L st0 := j_callV C hK (ci := 1) (q := (78 + 2 * k)) pc hct hV (nG_lt C.2.2.2.2.2.2.1 (by omega)) rfl (at_ly hk) rfl hcn hlink hi (hcn ▸ hs) hdd hn hst hd kk h0
theorem j_vSt_f (C : Cx G nL X own cc d) {y : MethodName} {bytes : ByteArray} {maxL index n d1 : Nat} {ret : Option FieldType} {As : List Value} {V1 V2 : VA} {r : UInt32} (hk : k < 8) (hK : KY y bytes maxL ret n) (pc : Nat) (hct : Ct (xl X) y bytes maxL ret d1 (.ref (G.2.2 (6 + 2 * k)) :: As) G (c0, w) (some (.float r)) V1) (hV : V1 = V2) (hcn : RX2 = y.cls) (hlink : Cond.methodLink own index y ∈ gw) (hi : Cond.instanceMethod y ∈ gw) (hs : Cond.selects RX2 y y ∈ gw) (hd : decode cc pc = .ok (.invokevirtual index, 3)) (hdd : d1 + 1 ≤ d) (hn : As.length = n) (hst : (st.map fun v => v.category).sum ≤ 8)
    (kk : JS G nL X Q sp V2 (pc + 3) L (.float r :: st)) {st0 : List Value} (h0 : st0 = As.reverse ++ .ref (G.2.2 (6 + 2 * k)) :: st) : JS G nL X Q sp (c0, w) pc L st0 := j_callV C hK (ci := 2) (q := (6 + 2 * k)) pc hct hV (nG_lt C.2.2.2.2.2.2.1 (by omega)) rfl (at_st hk) rfl hcn hlink hi (hcn ▸ hs) hdd hn hst hd kk h0
theorem j_vSk_f (C : Cx G nL X own cc d) {y : MethodName} {bytes : ByteArray} {maxL index n d1 : Nat} {ret : Option FieldType} {As : List Value} {V1 V2 : VA} {r : UInt32} (hk : k < 8) (hK : KY y bytes maxL ret n) (pc : Nat) (hct : Ct (xl X) y bytes maxL ret d1 (.ref (G.2.2 (22 + 7 * k)) :: As) G (c0, w) (some (.float r)) V1) (hV : V1 = V2) (hcn : RX3 = y.cls) (hlink : Cond.methodLink own index y ∈ gw) (hi : Cond.instanceMethod y ∈ gw) (hs : Cond.selects RX3 y y ∈ gw) (hd : decode cc pc = .ok (.invokevirtual index, 3)) (hdd : d1 + 1 ≤ d) (hn : As.length = n) (hst : (st.map fun v => v.category).sum ≤ 8)
    (kk : JS G nL X Q sp V2 (pc + 3) L (.float r :: st)) {st0 : List Value} (h0 : st0 = As.reverse ++ .ref (G.2.2 (22 + 7 * k)) :: st) : JS G nL X Q sp (c0, w) pc L st0 := j_callV C hK (ci := 3) (q := (22 + 7 * k)) pc hct hV (nG_lt C.2.2.2.2.2.2.1 (by omega)) rfl (at_sk (j := 0) hk (by omega)) rfl hcn hlink hi (hcn ▸ hs) hdd hn hst hd kk h0
theorem j_vTx_f (C : Cx G nL X own cc d) {y : MethodName} {bytes : ByteArray} {maxL index n d1 : Nat} {ret : Option FieldType} {As : List Value} {V1 V2 : VA} {r : UInt32} (hK : KY y bytes maxL ret n) (pc : Nat) (hct : Ct (xl X) y bytes maxL ret d1 (.ref (G.2.2 2) :: As) G (c0, w) (some (.float r)) V1) (hV : V1 = V2) (hcn : RX4 = y.cls) (hlink : Cond.methodLink own index y ∈ gw) (hi : Cond.instanceMethod y ∈ gw) (hs : Cond.selects RX4 y y ∈ gw) (hd : decode cc pc = .ok (.invokevirtual index, 3)) (hdd : d1 + 1 ≤ d) (hn : As.length = n) (hst : (st.map fun v => v.category).sum ≤ 8)
    (kk : JS G nL X Q sp V2 (pc + 3) L (.float r :: st)) {st0 : List Value} (h0 : st0 = As.reverse ++ .ref (G.2.2 2) :: st) : JS G nL X Q sp (c0, w) pc L st0 := j_callV C hK (ci := 4) (q := 2) pc hct hV (nG_lt C.2.2.2.2.2.2.1 (by omega)) rfl (at_sp (j := 2) (by omega)) rfl hcn hlink hi (hcn ▸ hs) hdd hn hst hd kk h0
theorem j_vSp_f (C : Cx G nL X own cc d) {y : MethodName} {bytes : ByteArray} {maxL index n d1 : Nat} {ret : Option FieldType} {As : List Value} {V1 V2 : VA} {r : UInt32} (hK : KY y bytes maxL ret n) (pc : Nat) (hct : Ct (xl X) y bytes maxL ret d1 (.ref (G.2.2 0) :: As) G (c0, w) (some (.float r)) V1) (hV : V1 = V2) (hcn : RX5 = y.cls) (hlink : Cond.methodLink own index y ∈ gw) (hi : Cond.instanceMethod y ∈ gw) (hs : Cond.selects RX5 y y ∈ gw) (hd : decode cc pc = .ok (.invokevirtual index, 3)) (hdd : d1 + 1 ≤ d) (hn : As.length = n) (hst : (st.map fun v => v.category).sum ≤ 8)
    (kk : JS G nL X Q sp V2 (pc + 3) L (.float r :: st)) {st0 : List Value} (h0 : st0 = As.reverse ++ .ref (G.2.2 0) :: st) : JS G nL X Q sp (c0, w) pc L st0 := j_callV C hK (ci := 5) (q := 0) pc hct hV (nG_lt C.2.2.2.2.2.2.1 (by omega)) rfl (at_sp (j := 0) (by omega)) rfl hcn hlink hi (hcn ▸ hs) hdd hn hst hd kk h0
theorem j_callS_d (C : Cx G nL X own cc d) {y : MethodName} {bytes : ByteArray} {maxL index n d1 : Nat} {ret : Option FieldType} {As : List Value} {V1 V2 : VA} {r : UInt64} (hK : KY y bytes maxL ret n) (pc : Nat) (hct : Ct (xl X) y bytes maxL ret d1 As G V (some (.double r)) V1) (hV : V1 = V2) (hlink : Cond.methodLink own index y ∈ gw) (hi : Cond.static y ∈ gw) (hd : decode cc pc = .ok (.invokestatic index, 3)) (hdd : d1 + 1 ≤ d) (hn : As.length = n) (hst : (st.map fun v => v.category).sum ≤ 8)
    (kk : JS G nL X Q sp V2 (pc + 3) L (.double r :: st)) {st0 : List Value} (h0 : st0 = As.reverse ++ st) : JS G nL X Q sp V pc L st0 := j_callS C hK pc hct hV hlink hi hdd hn hst hd kk h0
theorem j_callSN_d (C : Cx G nL X own cc d) {host : String} {y : MethodName} {bytes : ByteArray} {maxL index n d1 : Nat} {ret : Option FieldType} {As : List Value} {V1 V2 : VA} {r : UInt64} (hK : KY y bytes maxL ret n) (pc : Nat) (hct : Ct (xl X) y bytes maxL ret d1 As G V (some (.double r)) V1) (hV : V1 = V2) (hlink : Cond.methodLinkNest own index y host ∈ nestW) (hi : Cond.static y ∈ gw) (hd : decode cc pc = .ok (.invokestatic index, 3)) (hdd : d1 + 1 ≤ d) (hn : As.length = n) (hst : (st.map fun v => v.category).sum ≤ 8)
    (kk : JS G nL X Q sp V2 (pc + 3) L (.double r :: st)) {st0 : List Value} (h0 : st0 = As.reverse ++ st) : JS G nL X Q sp V pc L st0 := j_callSN C hK pc hct hV hlink hi hdd hn hst hd kk h0
theorem j_vCk_d (C : Cx G nL X own cc d) {y : MethodName} {bytes : ByteArray} {maxL index n d1 : Nat} {ret : Option FieldType} {As : List Value} {V1 V2 : VA} {r : UInt64} (hk : k < 9) (hK : KY y bytes maxL ret n) (pc : Nat) (hct : Ct (xl X) y bytes maxL ret d1 (.ref (G.2.2 (96 + 2 * k)) :: As) G (c0, w) (some (.double r)) V1) (hV : V1 = V2) (hcn : RX0 = y.cls) (hlink : Cond.methodLink own index y ∈ gw) (hi : Cond.instanceMethod y ∈ gw) (hs : Cond.selects RX0 y y ∈ gw) (hd : decode cc pc = .ok (.invokevirtual index, 3)) (hdd : d1 + 1 ≤ d) (hn : As.length = n) (hst : (st.map fun v => v.category).sum ≤ 8)
    (kk : JS G nL X Q sp V2 (pc + 3) L (.double r :: st)) {st0 : List Value} (h0 : st0 = As.reverse ++ .ref (G.2.2 (96 + 2 * k)) :: st) : JS G nL X Q sp (c0, w) pc L st0 := j_callV C hK (ci := 0) (q := (96 + 2 * k)) pc hct hV (nG_lt C.2.2.2.2.2.2.1 (by omega)) rfl (at_ck hk) rfl hcn hlink hi (hcn ▸ hs) hdd hn hst hd kk h0
theorem j_vLy_d (C : Cx G nL X own cc d) {y : MethodName} {bytes : ByteArray} {maxL index n d1 : Nat} {ret : Option FieldType} {As : List Value} {V1 V2 : VA} {r : UInt64} (hk : k < 9) (hK : KY y bytes maxL ret n) (pc : Nat) (hct : Ct (xl X) y bytes maxL ret d1 (.ref (G.2.2 (78 + 2 * k)) :: As) G (c0, w) (some (.double r)) V1) (hV : V1 = V2) (hcn : RX1 = y.cls) (hlink : Cond.methodLink own index y ∈ gw) (hi : Cond.instanceMethod y ∈ gw) (hs : Cond.selects RX1 y y ∈ gw) (hd : decode cc pc = .ok (.invokevirtual index, 3)) (hdd : d1 + 1 ≤ d) (hn : As.length = n) (hst : (st.map fun v => v.category).sum ≤ 8)
    (kk : JS G nL X Q sp V2 (pc + 3) L (.double r :: st)) {st0 : List Value} (h0 : st0 = As.reverse ++ .ref (G.2.2 (78 + 2 * k)) :: st) : JS G nL X Q sp (c0, w) pc L st0 := j_callV C hK (ci := 1) (q := (78 + 2 * k)) pc hct hV (nG_lt C.2.2.2.2.2.2.1 (by omega)) rfl (at_ly hk) rfl hcn hlink hi (hcn ▸ hs) hdd hn hst hd kk h0
theorem j_vSt_d (C : Cx G nL X own cc d) {y : MethodName} {bytes : ByteArray} {maxL index n d1 : Nat} {ret : Option FieldType} {As : List Value} {V1 V2 : VA} {r : UInt64} (hk : k < 8) (hK : KY y bytes maxL ret n) (pc : Nat) (hct : Ct (xl X) y bytes maxL ret d1 (.ref (G.2.2 (6 + 2 * k)) :: As) G (c0, w) (some (.double r)) V1) (hV : V1 = V2) (hcn : RX2 = y.cls) (hlink : Cond.methodLink own index y ∈ gw) (hi : Cond.instanceMethod y ∈ gw) (hs : Cond.selects RX2 y y ∈ gw) (hd : decode cc pc = .ok (.invokevirtual index, 3)) (hdd : d1 + 1 ≤ d) (hn : As.length = n) (hst : (st.map fun v => v.category).sum ≤ 8)
    (kk : JS G nL X Q sp V2 (pc + 3) L (.double r :: st)) {st0 : List Value} (h0 : st0 = As.reverse ++ .ref (G.2.2 (6 + 2 * k)) :: st) : JS G nL X Q sp (c0, w) pc L st0 := j_callV C hK (ci := 2) (q := (6 + 2 * k)) pc hct hV (nG_lt C.2.2.2.2.2.2.1 (by omega)) rfl (at_st hk) rfl hcn hlink hi (hcn ▸ hs) hdd hn hst hd kk h0
theorem j_vSk_d (C : Cx G nL X own cc d) {y : MethodName} {bytes : ByteArray} {maxL index n d1 : Nat} {ret : Option FieldType} {As : List Value} {V1 V2 : VA} {r : UInt64} (hk : k < 8) (hK : KY y bytes maxL ret n) (pc : Nat) (hct : Ct (xl X) y bytes maxL ret d1 (.ref (G.2.2 (22 + 7 * k)) :: As) G (c0, w) (some (.double r)) V1) (hV : V1 = V2) (hcn : RX3 = y.cls) (hlink : Cond.methodLink own index y ∈ gw) (hi : Cond.instanceMethod y ∈ gw) (hs : Cond.selects RX3 y y ∈ gw) (hd : decode cc pc = .ok (.invokevirtual index, 3)) (hdd : d1 + 1 ≤ d) (hn : As.length = n) (hst : (st.map fun v => v.category).sum ≤ 8)
    (kk : JS G nL X Q sp V2 (pc + 3) L (.double r :: st)) {st0 : List Value} (h0 : st0 = As.reverse ++ .ref (G.2.2 (22 + 7 * k)) :: st) : JS G nL X Q sp (c0, w) pc L st0 := j_callV C hK (ci := 3) (q := (22 + 7 * k)) pc hct hV (nG_lt C.2.2.2.2.2.2.1 (by omega)) rfl (at_sk (j := 0) hk (by omega)) rfl hcn hlink hi (hcn ▸ hs) hdd hn hst hd kk h0
theorem j_vTx_d (C : Cx G nL X own cc d) {y : MethodName} {bytes : ByteArray} {maxL index n d1 : Nat} {ret : Option FieldType} {As : List Value} {V1 V2 : VA} {r : UInt64} (hK : KY y bytes maxL ret n) (pc : Nat) (hct : Ct (xl X) y bytes maxL ret d1 (.ref (G.2.2 2) :: As) G (c0, w) (some (.double r)) V1) (hV : V1 = V2) (hcn : RX4 = y.cls) (hlink : Cond.methodLink own index y ∈ gw) (hi : Cond.instanceMethod y ∈ gw) (hs : Cond.selects RX4 y y ∈ gw) (hd : decode cc pc = .ok (.invokevirtual index, 3)) (hdd : d1 + 1 ≤ d) (hn : As.length = n) (hst : (st.map fun v => v.category).sum ≤ 8)
    (kk : JS G nL X Q sp V2 (pc + 3) L (.double r :: st)) {st0 : List Value} (h0 : st0 = As.reverse ++ .ref (G.2.2 2) :: st) : JS G nL X Q sp (c0, w) pc L st0 := j_callV C hK (ci := 4) (q := 2) pc hct hV (nG_lt C.2.2.2.2.2.2.1 (by omega)) rfl (at_sp (j := 2) (by omega)) rfl hcn hlink hi (hcn ▸ hs) hdd hn hst hd kk h0
theorem j_vSp_d (C : Cx G nL X own cc d) {y : MethodName} {bytes : ByteArray} {maxL index n d1 : Nat} {ret : Option FieldType} {As : List Value} {V1 V2 : VA} {r : UInt64} (hK : KY y bytes maxL ret n) (pc : Nat) (hct : Ct (xl X) y bytes maxL ret d1 (.ref (G.2.2 0) :: As) G (c0, w) (some (.double r)) V1) (hV : V1 = V2) (hcn : RX5 = y.cls) (hlink : Cond.methodLink own index y ∈ gw) (hi : Cond.instanceMethod y ∈ gw) (hs : Cond.selects RX5 y y ∈ gw) (hd : decode cc pc = .ok (.invokevirtual index, 3)) (hdd : d1 + 1 ≤ d) (hn : As.length = n) (hst : (st.map fun v => v.category).sum ≤ 8)
    (kk : JS G nL X Q sp V2 (pc + 3) L (.double r :: st)) {st0 : List Value} (h0 : st0 = As.reverse ++ .ref (G.2.2 0) :: st) : JS G nL X Q sp (c0, w) pc L st0 := j_callV C hK (ci := 5) (q := 0) pc hct hV (nG_lt C.2.2.2.2.2.2.1 (by omega)) rfl (at_sp (j := 0) (by omega)) rfl hcn hlink hi (hcn ▸ hs) hdd hn hst hd kk h0
end
def f_fill (n : Nat) (f : Nat → Int32) (x : Int32) : Option (Nat → Int32) := some (fun i => if i < n then x else f i)
def fl_part (f : Nat → Int32) (x : Int32) (i : Nat) : Nat → Int32 := fun j => if j < i then x else f j
theorem fl_part_up (f : Nat → Int32) (x : Int32) (i : Nat) : upd (fl_part f x i) i x = fl_part f x (i + 1) := by
  funext j
  unfold upd fl_part
  by_cases h : j = i
  · rw [if_pos h, if_pos (by omega)]
  · rw [if_neg h]
    by_cases h2 : j < i
    · rw [if_pos h2, if_pos (by omega)]
    · rw [if_neg h2, if_neg (by omega)]
theorem c_fill {G : GG} {l : Launch} (hG : Gok G) {n q : Nat} (hq : q < nG G) (Wf : (Nat → Int32) → VA) (hc : ∀ f, cellA G.2.1 G.2.2 (Wf f) q = cI (G.2.1 0) n f) (hu : ∀ f g, ∀ j, j < nG G → va_up (cellA G.2.1 G.2.2 (Wf f)) q (cI (G.2.1 0) n g) j = cellA G.2.1 G.2.2 (Wf g) j) (hn : n < 1000) (f : Nat → Int32) (a1 : Int32) :
    Ct l yJ7_fill_53178 cJ7_fill_53178 4 none 1 [.ref (G.2.2 q), .int a1] G (Wf f) none (Wf (fl_part f a1 n)) := by
  refine ct_of (rv := fun _ : Unit => none) (fin := fun _ => Wf (fl_part f a1 n)) (own := RJ7) (sp := some ()) hG (plainFor_of_name (by decide)) rfl (Nat.le_of_ble_eq_true rfl) (fun X C hr _ => ?_) rfl
  have K : ∀ (m i : Nat), i ≤ n → n - i < m → JS G 4 X (QM G X (fun _ : Unit => none) (fun _ => Wf (fl_part f a1 n))) (some ()) (Wf (fl_part f a1 i)) 5 [(0, .ref (G.2.2 q)), (1, .int a1), (2, .int (nI i)), (3, .int (nI n))] [] := by
    intro m
    induction m with
    | zero => intro i h1 h2; omega
    | succ m ih =>
      intro i h1 h2
      intro x0 h0 H locs ls hP hS hl
      refine lv_iload_n C.1 C.2.1 dJ7_fill_53178_5 rfl (lv_at hl 2 rfl) ?_
      refine lv_iload_n C.1 C.2.1 dJ7_fill_53178_6 rfl (lv_at hl 3 rfl) ?_
      refine lv_icmp_ge (tgt := 20) C.1 C.2.1 dJ7_fill_53178_7 (by decide) (fun hc1 => ?_) (fun hc1 => ?_)
      · have e : i = n := by
          rcases Nat.lt_or_ge i n with z | z
          · exact absurd hc1 (nI_ge z (by omega))
          · omega
        subst e
        exact j_vret C 20 hr rfl rfl dJ7_fill_53178_20 x0 h0 H locs ls hP hS hl
      · have hi : i < n := by
          rcases Nat.lt_or_ge i n with z | z
          · exact z
          · exact absurd (nI_le z (by omega)) hc1
        have hin := vp_in_nI hi (by omega)
        refine lv_aload_n C.1 C.2.1 dJ7_fill_53178_10 rfl (lv_at hl 0 rfl) ?_
        refine lv_iload_n C.1 C.2.1 dJ7_fill_53178_11 rfl (lv_at hl 2 rfl) ?_
        refine lv_iload_n C.1 C.2.1 dJ7_fill_53178_12 rfl (lv_at hl 1 rfl) ?_
        refine j_iast C (n := n) (f := fl_part f a1 i) (g := fl_part f a1 (i + 1)) (V1 := Wf (fl_part f a1 (i + 1))) 13 q hq rfl (hc _) ?_ (hu _ _) dJ7_fill_53178_13 ?_ x0 h0 H locs ls hP hS hl
        · unfold aup
          rw [if_neg hin, nI_clamp (by omega), fl_part_up]
        · refine j_iinc (v := nI (i + 1)) (L1 := [(2, .int (nI (i + 1))), (0, .ref (G.2.2 q)), (1, .int a1), (3, .int (nI n))]) C 14 2 rfl dJ7_fill_53178_14 (nI_1 i) (by decide) rfl ?_
          refine j_goto C 17 5 dJ7_fill_53178_17 (by decide) ?_
          exact j_L [1, 2, 0, 3] rfl (ih (i + 1) (by omega) (by omega))
  have e0 : fl_part f a1 0 = f := by funext j; unfold fl_part; rw [if_neg (Nat.not_lt_zero j)]
  refine j_iconst (v := 0) C 0 dJ7_fill_53178_0 rfl ?_
  refine j_istore_n (L1 := [(2, .int 0), (0, .ref (G.2.2 q)), (1, .int a1)]) C 1 rfl dJ7_fill_53178_1 (by decide) rfl ?_
  refine j_aload_n C 2 1 rfl dJ7_fill_53178_2 ?_
  refine j_alen (v := nI n) C 3 q hq rfl (hc _) rfl dJ7_fill_53178_3 ?_
  refine j_istore_n (L1 := [(3, .int (nI n)), (2, .int 0), (0, .ref (G.2.2 q)), (1, .int a1)]) C 4 rfl dJ7_fill_53178_4 (by decide) rfl ?_
  refine j_L (L' := [(0, .ref (G.2.2 q)), (1, .int a1), (2, .int 0), (3, .int (nI n))]) [2, 3, 1, 0] rfl ?_
  have h9 := K (n + 1) 0 (Nat.zero_le n) (by omega)
  rw [e0, nI_0] at h9
  exact h9
theorem j_fill {ρ : Type} {G : GG} {nL : Nat} {X : WX} {Q : ρ → State → Prop} {sp : Option ρ} {L : List (Nat × Value)} {st : List Value} {own : String} {cc : ByteArray} {d : Nat} (C : Cx G nL X own cc d) {n : Nat} {f g : Nat → Int32} {x : Int32} {a index : Nat} (pc q : Nat) (hq : q < nG G) (ha : a = G.2.2 q) (Wf : (Nat → Int32) → VA) (hc : ∀ f, cellA G.2.1 G.2.2 (Wf f) q = cI (G.2.1 0) n f) (hu : ∀ f g, ∀ j, j < nG G → va_up (cellA G.2.1 G.2.2 (Wf f)) q (cI (G.2.1 0) n g) j = cellA G.2.1 G.2.2 (Wf g) j) (hn : n < 1000) (hr : f_fill n f x = some g)
    (hl : Cond.methodLink own index yJ7_fill_53178 ∈ gw) (hd : decode cc pc = .ok (.invokestatic index, 3)) (hdd : 2 ≤ d) (hst : (st.map fun v => v.category).sum ≤ 8) (kk : JS G nL X Q sp (Wf g) (pc + 3) L st) : JS G nL X Q sp (Wf f) pc L (.int x :: .ref a :: st) := by
  subst ha
  cases hr
  exact j_callS C k_fill (As := [.ref (G.2.2 q), .int x]) (d1 := 1) (rv := none) pc (c_fill C.2.2.2.2.2.2.1 hq Wf hc hu hn f x) rfl hl st_fill hdd rfl hst hd kk rfl
end
section
abbrev exN (n : Nat) : String := if n = 1 then "java/lang/IndexOutOfBoundsException" else if n = 2 then "java/lang/IllegalArgumentException" else "java/lang/IllegalStateException"
abbrev exNames : List String := ["java/lang/RuntimeException", "java/lang/Exception"]
def strL : List (Nat × String) := [(215, "there is no saved state"), (50, "no such slot"), (217, "no such number of a slot"), (61, "no such stick"), (75, "there is a stick in the slot"), (96, "there is no stick in the slot"), (108, "there is no stick that could fail"), (120, "the machine does not start"), (135, "the machine has not started"), (143, "no such block in the map"), (145, "no such value"), (150, "no stick is left for the block"), (159, "ticks out of range"), (167, "no such setting"), (169, "no such value of the setting"), (240, "no such map"), (245, "no such map or number"), (232, "no such count"), (222, "no such number of a block"), (227, "no such slot or number")]
def XK (G : GG) (sa : Nat → Nat) (sz : Nat) (U : State) (H : Heap) : Prop :=
  vx_Zq Bundle.tN "UNASSIGNED_STACK" Bundle.steD (AA G sz) U H ∧ vx_Zq Bundle.tN "SUPPRESSED_SENTINEL" Bundle.listD (AA G sz) U H ∧ (∀ q ∈ strL, vk_R RX5 q.1 q.2 (sa q.1) U) ∧ ∀ a b, a < 4 → b < 4 → 0 < a → 0 < b → a ≠ b → va_Nc (exN a) (exN b) U
theorem XK.call {G : GG} {sa : Nat → Nat} {sz : Nat} {U : State} {H : Heap} (g : JFrame) (mk : MethodId) (a : Array Value) (h : XK G sa sz U H) : XK G sa sz (U.calling g mk a) H :=
  ⟨vx_Zq.moved (u := U) (U := U.calling g mk a) (Vm.Alike.refl U.vm) h.1, vx_Zq.moved (u := U) (U := U.calling g mk a) (Vm.Alike.refl U.vm) h.2.1, fun q hq => vk_R.same (u := U) (U := U.calling g mk a) rfl (h.2.2.1 q hq), fun a1 b1 h1 h2 h3 h4 h5 => va_Nc.moved (u := U) (U := U.calling g mk a) (Vm.Alike.refl U.vm) (h.2.2.2 a1 b1 h1 h2 h3 h4 h5)⟩
theorem XK.warm {G : GG} {sa : Nat → Nat} {s U : State} {H : Heap} {locs : List Loc} (hW : s.WarmedH U.vm) (hS : va_S (AA G s.heap.size) s.heap H locs) (h : XK G sa s.heap.size s s.heap) : XK G sa H.size U H := by
  have hn : ∀ q, AA G H.size q → AA G s.heap.size q := fun q z => z.elim Or.inl (fun z => Or.inr (Nat.le_trans hS.1 z))
  exact ⟨((h.1.kept (fun a h1 h2 => hS.2.1 a h1 h2)).moved hW.alike).narrow hn, ((h.2.1.kept (fun a h1 h2 => hS.2.1 a h1 h2)).moved hW.alike).narrow hn, fun q hq => vk_R.warm hW (h.2.2.1 q hq), fun a1 b1 h1 h2 h3 h4 h5 => (h.2.2.2 a1 b1 h1 h2 h3 h4 h5).moved hW.alike⟩
def PcX (G : GG) (sa : Nat → Nat) (V : VA) (sz : Nat) : State → Prop := fun U => PcW G V sz U ∧ XK G sa sz U U.heap
def QRX (G : GG) (sz : Nat) (res : (Nat × VA) ⊕ (Option Value × VA)) : Array Value → State → Outcome → State → Prop := fun a st oc t => ∃ rv V', res = .inr (rv, V') ∧ QR G sz rv V' a st oc t
def XCX (G : GG) (sz : Nat) (res : (Nat × VA) ⊕ (Option Value × VA)) : String → State → State → Prop := fun E st t => ∃ n V, res = .inl (n, V) ∧ E = exN n ∧ va_P G.1 vwCl (wld G V) t.heap ∧ va_F (AA G sz) st t
abbrev RMX (d : Nat) : Room := { frames := d, cells := 1, slots := 6, locals := 35 * d }
def CtX (l : Launch) (y : MethodName) (cc : ByteArray) (nL : Nat) (ret : Option FieldType) (d : Nat) (as : List Value) (G : GG) (sa : Nat → Nat) (V : VA) (res : (Nat × VA) ⊕ (Option Value × VA)) : Prop :=
  ∀ sz, vx_Met l y (gws y cc nL ret) (RMX d) (va_Pc as (PcX G sa V sz)) (QRX G sz res) (XCX G sz res) 1 6 (AA G sz)
def QX {ρ : Type} (G : GG) (X : WX) (fX : ρ → (Nat × VA) ⊕ (Option Value × VA)) (x : ρ) : State → Prop := vx_MQ (xb X) (QRX G (xs X).heap.size (fX x)) (XCX G (xs X).heap.size (fX x)) (xa X) (xs X) 1 6 (AA G (xs X).heap.size)
def Thr (G : GG) (sa : Nat → Nat) (X : WX) : Prop := (∀ x ∈ (xc X).exceptionTable.toList, False) ∧ XK G sa (xs X).heap.size (xs X) (xs X).heap ∧ xk X = 0 ∧ xz X = 0 ∧ 1 ≤ (xR X).cells ∧ 6 ≤ (xR X).slots ∧ (xl X).stackTraces = false
theorem ctx_of {ρ : Type} {l : Launch} {y : MethodName} {cc : ByteArray} {nL : Nat} {ret : Option FieldType} {d : Nat} {as : List Value} {G : GG} {sa : Nat → Nat} {V : VA} {fX : ρ → (Nat × VA) ⊕ (Option Value × VA)} {sp : Option ρ} {own : String}
    (hG : Gok G) (hl : l.stackTraces = false) (hy : plainName y.cls = true) (hown : y.cls = own) (hsl : (lg_sl as).length ≤ nL)
    (body : ∀ X : WX, Cx G nL X own cc d → (xM X).sig.returnType = ret → Thr G sa X → JS G nL X (QX G X fX) sp V 0 (lv_args 0 as) []) {x : ρ} (hx : sp = some x) : CtX l y cc nL ret d as G sa V (fX x) := by
  intro sz
  refine vx_ofW (cc := cc) (maxL := nL) (ret := ret) hy rfl ?_
  intro p e s m args below meth c s₁ B hml htab hv
  obtain ⟨rfl, ⟨hsz, hP, hK⟩, hXK⟩ := hv
  have hts := atoms_spec (ws := gws y cc nL ret) B.pre
  have hown2 : s.vm.findClass own = some m.cls := hown ▸ findClass_of_methodNamed B.named
  have C : Cx G nL (p, l, e, RMX d, s, m, as.toArray, below, meth, c, 0, 0) own cc d := ⟨B.exec, B.bytes, hml, hown2, fun w h => hts w (List.mem_cons_of_mem _ h), hK, hG, B.notSynchronized, Nat.le_refl _, Nat.le_refl _, Nat.zero_le _, Nat.zero_le _⟩
  have hl9 := lv_entry as hsl
  subst hsz
  have K := body _ C B.returns ⟨htab, hXK, rfl, rfl, Nat.le_refl _, Nat.le_refl _, hl⟩ x hx s.heap [] _ hP va_S.rf hl9
  rw [lg_entry_eq]
  exact K
section
variable {ρ : Type} {G : GG} {sa : Nat → Nat} {nL : Nat} {X : WX} {fX : ρ → (Nat × VA) ⊕ (Option Value × VA)} {x : ρ} {V : VA} {L : List (Nat × Value)} {st : List Value} {own : String} {cc : ByteArray} {d : Nat}
theorem jx_iret (C : Cx G nL X own cc d) (T : Thr G sa X) {v : Int32} (pc : Nat) (hr : (xM X).sig.returnType = some .int) (hrv : fX x = .inr (some (.int v), V)) (hd : decode cc pc = .ok (.ireturn, 1)) : JS G nL X (QX G X fX) (some x) V pc L [.int v] := by
  intro x0 h0 H locs ls hP hS hl
  cases h0
  have e1 := T.2.2.1
  have e2 := T.2.2.2.1
  refine W.widen (k := 1) (n := 6) (by rw [e1]; omega) (by rw [e2]; omega) ?_
  refine vx_ret ?_
  exact W.iret C.1 C.2.1 hr (fun t ht _ => ⟨_, _, hrv, ⟨⟨rfl, by rw [ht]; exact hP⟩, hS.F ht⟩⟩) hS.2.2 hd C.2.2.2.2.2.2.2.1
theorem jx_throw (C : Cx G nL X RX5 cc d) (T : Thr G sa X) (n : Nat) {text : String} {ik is ic : Nat} (pc : Nat) (hfit : Bundle.fit (exN n) = true) (hk : Cond.classLink RX5 ik (exN n) ∈ gw) (hini : Cond.initialized (exN n) ∈ gw) (hs : (is, text) ∈ strL) (hat : ∀ w ∈ vx_atS RX5 ic (exN n) exNames, w ∈ gw ∨ w ∈ nestW) (hot : ∀ w ∈ Cond.classLink RX5 ik (exN n) :: Cond.initialized (exN n) :: vx_atS RX5 ic (exN n) exNames, vx_ot w = true)
    (d0 : decode cc pc = .ok (.new ik, 3)) (d3 : decode cc (pc + 3) = .ok (.dup, 1)) (d4 : decode cc (pc + 4) = .ok (.ldc is, 2)) (d6 : decode cc (pc + 6) = .ok (.invokespecial ic, 3)) (d9 : decode cc (pc + 9) = .ok (.athrow, 1)) (hst : (st.map fun v => v.category).sum ≤ 8) (hdd : 8 ≤ d) (hrv : fX x = .inl (n, V)) : JS G nL X (QX G X fX) (some x) V pc L st := by
  intro x0 h0 H locs ls hP hS hl
  cases h0
  have e1 := T.2.2.1
  have e2 := T.2.2.2.1
  have r1 := C.2.2.2.2.2.2.2.2.1
  have r2 := C.2.2.2.2.2.2.2.2.2.1
  refine vx_throwS (A := AA G (xs X).heap.size) C.1 C.2.1 T.2.2.2.2.2.2 C.2.2.2.1 hfit (by decide) (C.2.2.2.2.1 _ hk) (C.2.2.2.2.1 _ hini) (T.2.1.2.2.1 _ hs) (fun w hw => ?_) hot T.2.1.1 T.2.1.2.1 hS (by rw [C.2.2.1]; exact hl.1) d0 d3 d4 d6 d9 (fun z hz => (T.1 z hz).elim) (by show 2 + 3 < _; omega) (by show _ + (13 * (2 + 1) + 43) ≤ _; omega) (by rw [e1]; exact T.2.2.2.2.1) (by rw [e2]; exact T.2.2.2.2.2.1) C.2.2.2.2.2.2.2.1 ?_ hS.2.2 (by rw [e1]; omega) (by rw [e2]; omega)
  · rcases hat w hw with h | h
    · exact C.2.2.2.2.1 w h
    · exact (C.2.2.2.2.2.1.2 w h).use (nestW_tab h)
  · intro t ha hz hk9
    refine ⟨n, V, hrv, rfl, hP.kept (fun k q hq => hk9 q.1 (hP k q hq).lt), Nat.le_trans hS.1 hz, fun q h1 h2 => ?_⟩
    rw [hk9 q (Nat.lt_of_lt_of_le h1 hS.1)]
    exact hS.2.1 q h1 h2
end
def isCD : Cond → Bool
  | .castable .. => true
  | .declares .. => true
  | _ => false
theorem tbl_split {w : Cond} (h : w ∈ lw_tbl) (h2 : goodWord w = true ∨ isCD w = true) : w ∈ gw ∨ w ∈ nestW := by
  rcases h2 with h2 | h2
  · exact Or.inl (List.mem_filter.mpr ⟨h, h2⟩)
  · right
    have h3 : w ∈ tables_1 := by
      rcases List.mem_append.mp h with h | h
      · obtain ⟨q, -, rfl⟩ := List.mem_map.mp h
        cases h2
      · exact h
    refine List.mem_filter.mpr ⟨h3, ?_⟩
    cases w <;> first | rfl | (cases h2; done)
def exOk (w : Cond) : Bool := decide (w ∈ lw_tbl) && (goodWord w || isCD w)
theorem exOk_all {ws : List Cond} (h : ws.all exOk = true) : ∀ w ∈ ws, w ∈ gw ∨ w ∈ nestW := by
  intro w hw
  have h1 := List.all_eq_true.mp h w hw
  simp only [exOk, Bool.and_eq_true, decide_eq_true_eq, Bool.or_eq_true] at h1
  exact tbl_split h1.1 h1.2
theorem xk_1 : Cond.classLink RX5 48 (exN 1) ∈ gw := gwm (i := 328) (by decide +kernel) (by decide +kernel)
theorem xi_1 : Cond.initialized (exN 1) ∈ gw := gwm (i := 27) (by decide +kernel) (by decide +kernel)
set_option maxRecDepth 100000 in
theorem xa_1 : ∀ w ∈ vx_atS RX5 52 (exN 1) exNames, w ∈ gw ∨ w ∈ nestW := exOk_all (by decide +kernel)
set_option maxRecDepth 100000 in
theorem xo_1 : ∀ w ∈ Cond.classLink RX5 48 (exN 1) :: Cond.initialized (exN 1) :: vx_atS RX5 52 (exN 1) exNames, vx_ot w = true := List.all_eq_true.mp (by decide +kernel)
theorem xk_2 : Cond.classLink RX5 59 (exN 2) ∈ gw := gwm (i := 347) (by decide +kernel) (by decide +kernel)
theorem xi_2 : Cond.initialized (exN 2) ∈ gw := gwm (i := 28) (by decide +kernel) (by decide +kernel)
set_option maxRecDepth 100000 in
theorem xa_2 : ∀ w ∈ vx_atS RX5 63 (exN 2) exNames, w ∈ gw ∨ w ∈ nestW := exOk_all (by decide +kernel)
set_option maxRecDepth 100000 in
theorem xo_2 : ∀ w ∈ Cond.classLink RX5 59 (exN 2) :: Cond.initialized (exN 2) :: vx_atS RX5 63 (exN 2) exNames, vx_ot w = true := List.all_eq_true.mp (by decide +kernel)
theorem xk_3 : Cond.classLink RX5 73 (exN 3) ∈ gw := gwm (i := 227) (by decide +kernel) (by decide +kernel)
theorem xi_3 : Cond.initialized (exN 3) ∈ gw := gwm (i := 31) (by decide +kernel) (by decide +kernel)
set_option maxRecDepth 100000 in
theorem xa_3 : ∀ w ∈ vx_atS RX5 77 (exN 3) exNames, w ∈ gw ∨ w ∈ nestW := exOk_all (by decide +kernel)
set_option maxRecDepth 100000 in
theorem xo_3 : ∀ w ∈ Cond.classLink RX5 73 (exN 3) :: Cond.initialized (exN 3) :: vx_atS RX5 77 (exN 3) exNames, vx_ot w = true := List.all_eq_true.mp (by decide +kernel)
end
