theorem ml_L_7 : Cond.methodLink RL 7 yX5_plug ∈ gw := gwm (i := 626) (by decide +kernel) (by decide +kernel)
theorem kc_X5_plug : Cond.code yX5_plug cX5_plug 5 (some .int) ∈ gw := gwm (i := 629) (by decide +kernel) (by decide +kernel)
theorem ii_X5_plug : Cond.instanceMethod yX5_plug ∈ gw := gwm (i := 627) (by decide +kernel) (by decide +kernel)
theorem is_X5_plug : Cond.selects RX5 yX5_plug yX5_plug ∈ gw := gwm (i := 628) (by decide +kernel) (by decide +kernel)
theorem ml_L_19 : Cond.methodLink RL 19 yX5_pull ∈ gw := gwm (i := 755) (by decide +kernel) (by decide +kernel)
theorem kc_X5_pull : Cond.code yX5_pull cX5_pull 3 (some .int) ∈ gw := gwm (i := 758) (by decide +kernel) (by decide +kernel)
theorem ii_X5_pull : Cond.instanceMethod yX5_pull ∈ gw := gwm (i := 756) (by decide +kernel) (by decide +kernel)
theorem is_X5_pull : Cond.selects RX5 yX5_pull yX5_pull ∈ gw := gwm (i := 757) (by decide +kernel) (by decide +kernel)
theorem ml_L_23 : Cond.methodLink RL 23 yX5_fail ∈ gw := gwm (i := 777) (by decide +kernel) (by decide +kernel)
theorem kc_X5_fail : Cond.code yX5_fail cX5_fail 3 (some .int) ∈ gw := gwm (i := 780) (by decide +kernel) (by decide +kernel)
theorem ii_X5_fail : Cond.instanceMethod yX5_fail ∈ gw := gwm (i := 778) (by decide +kernel) (by decide +kernel)
theorem is_X5_fail : Cond.selects RX5 yX5_fail yX5_fail ∈ gw := gwm (i := 779) (by decide +kernel) (by decide +kernel)
theorem ml_L_26 : Cond.methodLink RL 26 yX5_start ∈ gw := gwm (i := 790) (by decide +kernel) (by decide +kernel)
theorem kc_X5_start : Cond.code yX5_start cX5_start 1 (some .int) ∈ gw := gwm (i := 793) (by decide +kernel) (by decide +kernel)
theorem ii_X5_start : Cond.instanceMethod yX5_start ∈ gw := gwm (i := 791) (by decide +kernel) (by decide +kernel)
theorem is_X5_start : Cond.selects RX5 yX5_start yX5_start ∈ gw := gwm (i := 792) (by decide +kernel) (by decide +kernel)
theorem ml_L_30 : Cond.methodLink RL 30 yX5_stop ∈ gw := gwm (i := 812) (by decide +kernel) (by decide +kernel)
theorem kc_X5_stop : Cond.code yX5_stop cX5_stop 2 (some .int) ∈ gw := gwm (i := 815) (by decide +kernel) (by decide +kernel)
theorem ii_X5_stop : Cond.instanceMethod yX5_stop ∈ gw := gwm (i := 813) (by decide +kernel) (by decide +kernel)
theorem is_X5_stop : Cond.selects RX5 yX5_stop yX5_stop ∈ gw := gwm (i := 814) (by decide +kernel) (by decide +kernel)
theorem ml_L_33 : Cond.methodLink RL 33 yX5_write ∈ gw := gwm (i := 837) (by decide +kernel) (by decide +kernel)
theorem kc_X5_write : Cond.code yX5_write cX5_write 3 (some .int) ∈ gw := gwm (i := 840) (by decide +kernel) (by decide +kernel)
theorem ii_X5_write : Cond.instanceMethod yX5_write ∈ gw := gwm (i := 838) (by decide +kernel) (by decide +kernel)
theorem is_X5_write : Cond.selects RX5 yX5_write yX5_write ∈ gw := gwm (i := 839) (by decide +kernel) (by decide +kernel)
theorem ml_L_37 : Cond.methodLink RL 37 yX5_read ∈ gw := gwm (i := 852) (by decide +kernel) (by decide +kernel)
theorem kc_X5_read : Cond.code yX5_read cX5_read 2 (some .int) ∈ gw := gwm (i := 855) (by decide +kernel) (by decide +kernel)
theorem ii_X5_read : Cond.instanceMethod yX5_read ∈ gw := gwm (i := 853) (by decide +kernel) (by decide +kernel)
theorem is_X5_read : Cond.selects RX5 yX5_read yX5_read ∈ gw := gwm (i := 854) (by decide +kernel) (by decide +kernel)
theorem ml_L_40 : Cond.methodLink RL 40 yX5_rest ∈ gw := gwm (i := 873) (by decide +kernel) (by decide +kernel)
theorem kc_X5_rest : Cond.code yX5_rest cX5_rest 2 (some .int) ∈ gw := gwm (i := 876) (by decide +kernel) (by decide +kernel)
theorem ii_X5_rest : Cond.instanceMethod yX5_rest ∈ gw := gwm (i := 874) (by decide +kernel) (by decide +kernel)
theorem is_X5_rest : Cond.selects RX5 yX5_rest yX5_rest ∈ gw := gwm (i := 875) (by decide +kernel) (by decide +kernel)
theorem ml_L_43 : Cond.methodLink RL 43 yX5_set ∈ gw := gwm (i := 882) (by decide +kernel) (by decide +kernel)
theorem kc_X5_set : Cond.code yX5_set cX5_set 3 (some .int) ∈ gw := gwm (i := 885) (by decide +kernel) (by decide +kernel)
theorem ii_X5_set : Cond.instanceMethod yX5_set ∈ gw := gwm (i := 883) (by decide +kernel) (by decide +kernel)
theorem is_X5_set : Cond.selects RX5 yX5_set yX5_set ∈ gw := gwm (i := 884) (by decide +kernel) (by decide +kernel)
theorem ml_L_46 : Cond.methodLink RL 46 yX5_append ∈ gw := gwm (i := 896) (by decide +kernel) (by decide +kernel)
theorem kc_X5_append : Cond.code yX5_append cX5_append 2 (some .int) ∈ gw := gwm (i := 899) (by decide +kernel) (by decide +kernel)
theorem ii_X5_append : Cond.instanceMethod yX5_append ∈ gw := gwm (i := 897) (by decide +kernel) (by decide +kernel)
theorem is_X5_append : Cond.selects RX5 yX5_append yX5_append ∈ gw := gwm (i := 898) (by decide +kernel) (by decide +kernel)
theorem ml_L_49 : Cond.methodLink RL 49 yX5_run ∈ gw := gwm (i := 913) (by decide +kernel) (by decide +kernel)
theorem kc_X5_run : Cond.code yX5_run cX5_run 2 (some .int) ∈ gw := gwm (i := 916) (by decide +kernel) (by decide +kernel)
theorem ii_X5_run : Cond.instanceMethod yX5_run ∈ gw := gwm (i := 914) (by decide +kernel) (by decide +kernel)
theorem is_X5_run : Cond.selects RX5 yX5_run yX5_run ∈ gw := gwm (i := 915) (by decide +kernel) (by decide +kernel)
theorem ml_L_52 : Cond.methodLink RL 52 yX5_goBack ∈ gw := gwm (i := 951) (by decide +kernel) (by decide +kernel)
theorem kc_X5_goBack : Cond.code yX5_goBack cX5_goBack 1 (some .int) ∈ gw := gwm (i := 954) (by decide +kernel) (by decide +kernel)
theorem ii_X5_goBack : Cond.instanceMethod yX5_goBack ∈ gw := gwm (i := 952) (by decide +kernel) (by decide +kernel)
theorem is_X5_goBack : Cond.selects RX5 yX5_goBack yX5_goBack ∈ gw := gwm (i := 953) (by decide +kernel) (by decide +kernel)
theorem ml_L_55 : Cond.methodLink RL 55 yX5_undo ∈ gw := gwm (i := 959) (by decide +kernel) (by decide +kernel)
theorem kc_X5_undo : Cond.code yX5_undo cX5_undo 2 (some .int) ∈ gw := gwm (i := 962) (by decide +kernel) (by decide +kernel)
theorem ii_X5_undo : Cond.instanceMethod yX5_undo ∈ gw := gwm (i := 960) (by decide +kernel) (by decide +kernel)
theorem is_X5_undo : Cond.selects RX5 yX5_undo yX5_undo ∈ gw := gwm (i := 961) (by decide +kernel) (by decide +kernel)
theorem ml_L_58 : Cond.methodLink RL 58 yX5_slot ∈ gw := gwm (i := 967) (by decide +kernel) (by decide +kernel)
theorem kc_X5_slot : Cond.code yX5_slot cX5_slot 3 (some .int) ∈ gw := gwm (i := 970) (by decide +kernel) (by decide +kernel)
theorem ii_X5_slot : Cond.instanceMethod yX5_slot ∈ gw := gwm (i := 968) (by decide +kernel) (by decide +kernel)
theorem is_X5_slot : Cond.selects RX5 yX5_slot yX5_slot ∈ gw := gwm (i := 969) (by decide +kernel) (by decide +kernel)
theorem ml_L_61 : Cond.methodLink RL 61 yX5_where ∈ gw := gwm (i := 975) (by decide +kernel) (by decide +kernel)
theorem kc_X5_where : Cond.code yX5_where cX5_where 3 (some .int) ∈ gw := gwm (i := 978) (by decide +kernel) (by decide +kernel)
theorem ii_X5_where : Cond.instanceMethod yX5_where ∈ gw := gwm (i := 976) (by decide +kernel) (by decide +kernel)
theorem is_X5_where : Cond.selects RX5 yX5_where yX5_where ∈ gw := gwm (i := 977) (by decide +kernel) (by decide +kernel)
theorem ml_L_64 : Cond.methodLink RL 64 yX5_lies ∈ gw := gwm (i := 983) (by decide +kernel) (by decide +kernel)
theorem kc_X5_lies : Cond.code yX5_lies cX5_lies 3 (some .int) ∈ gw := gwm (i := 986) (by decide +kernel) (by decide +kernel)
theorem ii_X5_lies : Cond.instanceMethod yX5_lies ∈ gw := gwm (i := 984) (by decide +kernel) (by decide +kernel)
theorem is_X5_lies : Cond.selects RX5 yX5_lies yX5_lies ∈ gw := gwm (i := 985) (by decide +kernel) (by decide +kernel)
theorem ml_L_67 : Cond.methodLink RL 67 yX5_count ∈ gw := gwm (i := 991) (by decide +kernel) (by decide +kernel)
theorem kc_X5_count : Cond.code yX5_count cX5_count 2 (some .int) ∈ gw := gwm (i := 994) (by decide +kernel) (by decide +kernel)
theorem ii_X5_count : Cond.instanceMethod yX5_count ∈ gw := gwm (i := 992) (by decide +kernel) (by decide +kernel)
theorem is_X5_count : Cond.selects RX5 yX5_count yX5_count ∈ gw := gwm (i := 993) (by decide +kernel) (by decide +kernel)
theorem ml_L_70 : Cond.methodLink RL 70 yX5_setting ∈ gw := gwm (i := 999) (by decide +kernel) (by decide +kernel)
theorem kc_X5_setting : Cond.code yX5_setting cX5_setting 2 (some .int) ∈ gw := gwm (i := 1002) (by decide +kernel) (by decide +kernel)
theorem ii_X5_setting : Cond.instanceMethod yX5_setting ∈ gw := gwm (i := 1000) (by decide +kernel) (by decide +kernel)
theorem is_X5_setting : Cond.selects RX5 yX5_setting yX5_setting ∈ gw := gwm (i := 1001) (by decide +kernel) (by decide +kernel)
theorem ml_L_73 : Cond.methodLink RL 73 yX5_sweep ∈ gw := gwm (i := 1006) (by decide +kernel) (by decide +kernel)
theorem kc_X5_sweep : Cond.code yX5_sweep cX5_sweep 2 (some .int) ∈ gw := gwm (i := 1009) (by decide +kernel) (by decide +kernel)
theorem ii_X5_sweep : Cond.instanceMethod yX5_sweep ∈ gw := gwm (i := 1007) (by decide +kernel) (by decide +kernel)
theorem is_X5_sweep : Cond.selects RX5 yX5_sweep yX5_sweep ∈ gw := gwm (i := 1008) (by decide +kernel) (by decide +kernel)
theorem ml_L_76 : Cond.methodLink RL 76 yX5_ifStarted ∈ gw := gwm (i := 1014) (by decide +kernel) (by decide +kernel)
theorem kc_X5_ifStarted : Cond.code yX5_ifStarted cX5_ifStarted 3 (some .int) ∈ gw := gwm (i := 1017) (by decide +kernel) (by decide +kernel)
theorem ii_X5_ifStarted : Cond.instanceMethod yX5_ifStarted ∈ gw := gwm (i := 1015) (by decide +kernel) (by decide +kernel)
theorem is_X5_ifStarted : Cond.selects RX5 yX5_ifStarted yX5_ifStarted ∈ gw := gwm (i := 1016) (by decide +kernel) (by decide +kernel)
theorem k_X5_plug : KY yX5_plug cX5_plug 5 (some .int) 4 := ⟨kc_X5_plug, ki_StickPairs, by decide, by decide +kernel⟩
theorem k_X5_pull : KY yX5_pull cX5_pull 3 (some .int) 1 := ⟨kc_X5_pull, ki_StickPairs, by decide, by decide +kernel⟩
theorem k_X5_fail : KY yX5_fail cX5_fail 3 (some .int) 1 := ⟨kc_X5_fail, ki_StickPairs, by decide, by decide +kernel⟩
theorem k_X5_start : KY yX5_start cX5_start 1 (some .int) 0 := ⟨kc_X5_start, ki_StickPairs, by decide, by decide +kernel⟩
theorem k_X5_stop : KY yX5_stop cX5_stop 2 (some .int) 0 := ⟨kc_X5_stop, ki_StickPairs, by decide, by decide +kernel⟩
theorem k_X5_write : KY yX5_write cX5_write 3 (some .int) 2 := ⟨kc_X5_write, ki_StickPairs, by decide, by decide +kernel⟩
theorem k_X5_read : KY yX5_read cX5_read 2 (some .int) 1 := ⟨kc_X5_read, ki_StickPairs, by decide, by decide +kernel⟩
theorem k_X5_rest : KY yX5_rest cX5_rest 2 (some .int) 1 := ⟨kc_X5_rest, ki_StickPairs, by decide, by decide +kernel⟩
theorem k_X5_set : KY yX5_set cX5_set 3 (some .int) 2 := ⟨kc_X5_set, ki_StickPairs, by decide, by decide +kernel⟩
theorem k_X5_append : KY yX5_append cX5_append 2 (some .int) 1 := ⟨kc_X5_append, ki_StickPairs, by decide, by decide +kernel⟩
theorem k_X5_run : KY yX5_run cX5_run 2 (some .int) 0 := ⟨kc_X5_run, ki_StickPairs, by decide, by decide +kernel⟩
theorem k_X5_goBack : KY yX5_goBack cX5_goBack 1 (some .int) 0 := ⟨kc_X5_goBack, ki_StickPairs, by decide, by decide +kernel⟩
theorem k_X5_undo : KY yX5_undo cX5_undo 2 (some .int) 0 := ⟨kc_X5_undo, ki_StickPairs, by decide, by decide +kernel⟩
theorem k_X5_slot : KY yX5_slot cX5_slot 3 (some .int) 2 := ⟨kc_X5_slot, ki_StickPairs, by decide, by decide +kernel⟩
theorem k_X5_where : KY yX5_where cX5_where 3 (some .int) 2 := ⟨kc_X5_where, ki_StickPairs, by decide, by decide +kernel⟩
theorem k_X5_lies : KY yX5_lies cX5_lies 3 (some .int) 2 := ⟨kc_X5_lies, ki_StickPairs, by decide, by decide +kernel⟩
theorem k_X5_count : KY yX5_count cX5_count 2 (some .int) 1 := ⟨kc_X5_count, ki_StickPairs, by decide, by decide +kernel⟩
theorem k_X5_setting : KY yX5_setting cX5_setting 2 (some .int) 1 := ⟨kc_X5_setting, ki_StickPairs, by decide, by decide +kernel⟩
theorem k_X5_sweep : KY yX5_sweep cX5_sweep 2 (some .int) 1 := ⟨kc_X5_sweep, ki_StickPairs, by decide, by decide +kernel⟩
theorem k_X5_ifStarted : KY yX5_ifStarted cX5_ifStarted 3 (some .int) 2 := ⟨kc_X5_ifStarted, ki_StickPairs, by decide, by decide +kernel⟩
def xup (X : WX) : WX := (X.1, X.2.1, X.2.2.1, X.2.2.2.1, X.2.2.2.2.1, X.2.2.2.2.2.1, X.2.2.2.2.2.2.1, X.2.2.2.2.2.2.2.1, X.2.2.2.2.2.2.2.2.1, X.2.2.2.2.2.2.2.2.2.1, xk X + 1, xz X + 6)
theorem Cx.up {G : GG} {nL : Nat} {X : WX} {own : String} {cc : ByteArray} {d : Nat} (C : Cx G nL X own cc d) (h1 : xk X + 1 ≤ (xR X).cells) (h2 : xz X + 6 ≤ (xR X).slots) : Cx G nL (xup X) own cc d :=
  ⟨C.1, C.2.1, C.2.2.1, C.2.2.2.1, C.2.2.2.2.1, C.2.2.2.2.2.1, C.2.2.2.2.2.2.1, C.2.2.2.2.2.2.2.1, C.2.2.2.2.2.2.2.2.1, C.2.2.2.2.2.2.2.2.2.1, h1, h2⟩
def exC (n : Nat) : Nat := if n = 1 then 13 else if n = 2 then 15 else 17
theorem lk_1 : Cond.classLink RL (exC 1) (exN 1) ∈ gw := gwm (i := 623) (by decide +kernel) (by decide +kernel)
theorem ca_1 : Cond.castable (exN 1) (exN 1) ∈ nestW := List.mem_filter.mpr ⟨List.mem_of_getElem? (i := 554) (by decide +kernel), rfl⟩
theorem lk_2 : Cond.classLink RL (exC 2) (exN 2) ∈ gw := gwm (i := 624) (by decide +kernel) (by decide +kernel)
theorem ca_2 : Cond.castable (exN 2) (exN 2) ∈ nestW := List.mem_filter.mpr ⟨List.mem_of_getElem? (i := 625) (by decide +kernel), rfl⟩
theorem lk_3 : Cond.classLink RL (exC 3) (exN 3) ∈ gw := gwm (i := 625) (by decide +kernel) (by decide +kernel)
theorem ca_3 : Cond.castable (exN 3) (exN 3) ∈ nestW := List.mem_filter.mpr ⟨List.mem_of_getElem? (i := 642) (by decide +kernel), rfl⟩
def CtW (l : Launch) (y : MethodName) (cc : ByteArray) (nL : Nat) (ret : Option FieldType) (hh : List (Nat × Nat × Nat × Nat)) (d : Nat) (as : List Value) (G : GG) (sa : Nat → Nat) (V : VA) (rv : Option Value) (V1 : VA) : Prop :=
  ∀ sz, Met l y (Cond.codeWith y cc nL ret hh :: gw) (RMX d) (va_Pc as (PcX G sa V sz)) (QR G sz rv V1) 1 6 (AA G sz)
def QW {ρ : Type} (G : GG) (X : WX) (rv : ρ → Option Value) (fin : ρ → VA) (x : ρ) : State → Prop := MQ (xb X) (QR G (xs X).heap.size (rv x) (fin x)) (xa X) (xs X) 1 6 (AA G (xs X).heap.size)
def Wrp (G : GG) (sa : Nat → Nat) (X : WX) (hh : List (Nat × Nat × Nat × Nat)) : Prop := (xc X).exceptionTable.toList = tableOf hh ∧ XK G sa (xs X).heap.size (xs X) (xs X).heap ∧ xk X = 0 ∧ xz X = 0 ∧ 1 ≤ (xR X).cells ∧ 6 ≤ (xR X).slots
theorem met_ofWH {l : Launch} {y : MethodName} {ws ws' : List Cond} {rm : Room} {Pc : Array Value → State → Prop} {Qc : Array Value → State → Outcome → State → Prop} {mc ms : Nat} {free : Addr → Prop} {cc : ByteArray} {maxL : Nat} {ret : Option FieldType} {hh : List (Nat × Nat × Nat × Nat)}
    (hy : plainName y.cls = true) (hw : ws = Cond.codeWith y cc maxL ret hh :: ws')
    (body : ∀ p e s m args below meth c s₁, BodyLoose p l y (headSpec ws rm) cc maxL ret e s m args below meth c s₁ → c.maxLocals = maxL → c.exceptionTable.toList = tableOf hh → Pc args s →
      W p l e (headSpec ws rm).room s m args below meth c s.heap [] 0 0 (MQ below Qc args s mc ms free) (entryFrame m args maxL)) : Met l y ws rm Pc Qc mc ms free := by
  refine MetFree.of_bodyS (code := cc) (maxLocals := maxL) (ret := ret) hy ?_ ?_
  · intro args s m h hn
    obtain ⟨m9, meth, c, hn9, h1, h2, h3, h4, -, h5, h6, -⟩ := Cond.codeWith_spec (atoms_spec (ws := ws) h _ (by rw [hw]; exact List.mem_cons_self))
    cases hn.symm.trans hn9
    exact ⟨meth, c, h1, h2, h3, h4, h5, h6⟩
  · intro p e s m args below meth c s₁ B hml hP _
    have hh0 : s₁.heap = s.heap := by rw [B.state]; rfl
    have ht := vx_table (x := y) B (atoms_spec (ws := ws) B.pre _ (by rw [hw]; exact List.mem_cons_self))
    obtain ⟨t, a1, o, b1, b2, b3⟩ := body p e s m args below meth c s₁ B hml ht hP s₁ hh0 (Stand.of_body B)
    exact ⟨t, o, a1, b1, b2, ⟨b3.1, b3.2⟩⟩
theorem ctw_of {ρ : Type} {l : Launch} {y : MethodName} {cc : ByteArray} {nL : Nat} {ret : Option FieldType} {hh : List (Nat × Nat × Nat × Nat)} {d : Nat} {as : List Value} {G : GG} {sa : Nat → Nat} {V : VA} {rv : ρ → Option Value} {fin : ρ → VA} {sp : Option ρ} {own : String}
    (hG : Gok G) (hy : plainName y.cls = true) (hown : y.cls = own) (hsl : (lg_sl as).length ≤ nL)
    (body : ∀ X : WX, Cx G nL X own cc d → (xM X).sig.returnType = ret → Wrp G sa X hh → xl X = l → JS G nL X (QW G X rv fin) sp V 0 (lv_args 0 as) []) {x : ρ} (hx : sp = some x) : CtW l y cc nL ret hh d as G sa V (rv x) (fin x) := by
  intro sz
  refine met_ofWH (cc := cc) (maxL := nL) (ret := ret) (hh := hh) hy rfl ?_
  intro p e s m args below meth c s₁ B hml htab hv
  obtain ⟨rfl, ⟨hsz, hP, hK⟩, hXK⟩ := hv
  have hts := atoms_spec (ws := Cond.codeWith y cc nL ret hh :: gw) B.pre
  have hown2 : s.vm.findClass own = some m.cls := hown ▸ findClass_of_methodNamed B.named
  have C : Cx G nL (p, l, e, RMX d, s, m, as.toArray, below, meth, c, 0, 0) own cc d := ⟨B.exec, B.bytes, hml, hown2, fun w h => hts w (List.mem_cons_of_mem _ h), hK, hG, B.notSynchronized, Nat.le_refl _, Nat.le_refl _, Nat.zero_le _, Nat.zero_le _⟩
  have hl9 := lv_entry as hsl
  subst hsz
  have K := body _ C B.returns ⟨htab, hXK, rfl, rfl, Nat.le_refl _, Nat.le_refl _⟩ rfl x hx s.heap [] _ hP va_S.rf hl9
  rw [lg_entry_eq]
  exact K
section
variable {ρ : Type} {G : GG} {sa : Nat → Nat} {nL : Nat} {X : WX} {Q : ρ → State → Prop} {sp : Option ρ} {V V1 V2 : VA} {L : List (Nat × Value)} {st : List Value} {own : String} {cc : ByteArray} {d d1 : Nat} {c0 : VC} {w : VR}
variable {y : MethodName} {bytes : ByteArray} {maxL index n : Nat} {ret : Option FieldType} {As : List Value}
/-- what was thrown stands over the frame: the world V, the exception's class exN n -/
def JT (G : GG) (nL : Nat) (X : WX) (Q : ρ → State → Prop) (sp : Option ρ) (V : VA) (pc : Nat) (L : List (Nat × Value)) (st : List Value) (n : Nat) : Prop :=
  ∀ x, sp = some x → ∀ (H : Heap) (locs : List Loc) (ls : Array Slot) (ce : Cell) (q : Addr), va_P G.1 vwCl (wld G V) H → va_S (AA G (xs X).heap.size) (xs X).heap H locs → lv_has ls nL L → H[q]? = some ce → ce.vm = .none → (xs X).vm.findClass (exN n) = some ce.cls →
    vx_W (xp X) (xl X) (xe X) (xR X) (xs X) (xm X) (xa X) (xb X) (xM X) (xc X) H locs (xk X) (xz X) (Q x) (F0 (xm X) pc ls st) q
theorem fb_PcX (as : List Value) (sz : Nat) : FrameBlind (va_Pc as (PcX G sa V sz)) := fun a U g mk q => ⟨q.1, ⟨q.2.1.1, q.2.1.2.1, q.2.1.2.2.call g mk a⟩, q.2.2.call g mk a⟩
theorem pcx_at {H : Heap} {locs : List Loc} (C : Cx G nL X own cc d) (hX : XK G sa (xs X).heap.size (xs X) (xs X).heap) (hP : va_P G.1 vwCl (wld G V) H) (hS : va_S (AA G (xs X).heap.size) (xs X).heap H locs) : ∀ U : State, U.heap = H → (xs X).WarmedH U.vm → (va_Pc As (PcX G sa V H.size)) As.toArray U :=
  fun U hU hW => ⟨rfl, ⟨by rw [hU], by rw [hU]; exact hP, C.2.2.2.2.2.1.warm hW⟩, by rw [hU]; exact hX.warm hW hS⟩
theorem aa_up {H : Heap} {locs : List Loc} {s : State} (hS : va_S (AA G s.heap.size) s.heap H locs) : ∀ q, AA G H.size q → AA G s.heap.size q := fun q h => h.elim Or.inl (fun h => Or.inr (Nat.le_trans hS.1 h))
theorem s_up {H H1 : Heap} {locs L9 : List Loc} {s : State} (hS : va_S (AA G s.heap.size) s.heap H locs) (hz : H.size ≤ H1.size) (hk : ∀ q : Nat, q < H.size → ¬ AA G H.size q → H1[q]? = H[q]?) (hL : ∀ q ∈ L9, AA G H.size q.base) : va_S (AA G s.heap.size) s.heap H1 (locs ++ L9) :=
  ⟨Nat.le_trans hS.1 hz, fun q h1 h2 => (hk q (Nat.lt_of_lt_of_le h1 hS.1) (fun z => h2 (aa_up hS q z))).trans (hS.2.1 q h1 h2), fun q hq => by
    rcases List.mem_append.mp hq with h | h
    · exact hS.2.2 q h
    · exact aa_up hS _ (hL q h)⟩
theorem j_vX (C : Cx G nL X own cc d) (hX : XK G sa (xs X).heap.size (xs X) (xs X).heap) (hc1 : xk X + 1 ≤ (xR X).cells) (hc2 : xz X + 6 ≤ (xR X).slots) (hK : KY y bytes maxL ret n) {res : (Nat × VA) ⊕ (Option Value × VA)} (pc : Nat) (hct : CtX (xl X) y bytes maxL ret d1 (.ref (G.2.2 0) :: As) G sa (c0, w) res) (hcn : RX5 = y.cls) (hlink : Cond.methodLink own index y ∈ gw) (hi : Cond.instanceMethod y ∈ gw) (hs : Cond.selects RX5 y y ∈ gw) (hd : decode cc pc = .ok (.invokevirtual index, 3)) (hdd : d1 + 1 ≤ d) (hn : As.length = n) (hst : (st.map fun v => v.category).sum ≤ 8)
    (kn : ∀ rv V1, res = .inr (rv, V1) → JS G nL (xup X) Q sp V1 (pc + 3) L (rv.toList ++ st)) (kx : ∀ m V1, res = .inl (m, V1) → JT G nL (xup X) Q sp V1 pc L st m) {st0 : List Value} (h0 : st0 = As.reverse ++ .ref (G.2.2 0) :: st) : JS G nL X Q sp (c0, w) pc L st0 := by
  subst h0
  intro x0 h0 H locs ls hP hS hl T hT X9
  have hc3 : (wld G (c0, w))[0]? = some (G.2.2 0, cSp G.2.2 c0.2.2.2.2.2.2) := by rw [wld_at G _ (by omega)]; rfl
  have cb : CallB (xR X) (xs X) (xa X) own index y bytes maxL ret (gws y bytes maxL ret) (RMX d1) 1 6 n := by
    refine callB_of n C.2.2.2.2.1 (gws_in hK.1) rfl rfl rfl (C.2.2.2.2.1 _ hK.2.1) (C.2.2.2.2.1 _ hlink) hK.2.2.2 ⟨?_, ?_⟩
    · have := C.2.2.2.2.2.2.2.2.1
      show d1 + 1 ≤ _
      omega
    · have h1 := C.2.2.2.2.2.2.2.2.2.1
      have h2 := hK.2.2.1
      show 8 + (maxL + 11) + 31 * d1 ≤ _
      omega
  rcases vx_runV (rest := st) (g := F0 (xm X) pc ls (As.reverse ++ .ref (G.2.2 0) :: st)) ⟨C.1, C.2.1, C.2.2.1, C.2.2.2.1, C.2.2.2.2.1⟩ (hct H.size) ⟨cb, C.2.2.2.2.1 _ hi, C.2.2.2.2.1 _ (hcn ▸ hs)⟩ ⟨fb_PcX _ _, hcn ▸ va_recv C.2.2.2.2.2.1.1 hP (ci := 5) (q0 := 0) rfl hc3, pcx_at C hX hP hS⟩ rfl hn hl.1 rfl (lv_room hst) hd ⟨hc1, hc2⟩ T hT X9 with ⟨v, st₀, t, T', L9, hh, X', hL, e1, e2, ⟨rv, V', hres, ⟨hv, hp⟩, hz, hk⟩, st9⟩ | ⟨q, st₀, t, T', L9, E, ce, hh, X', hL, e1, e2, ⟨m, V', hres, hE, hp, hz, hk⟩, hce, hcv, hcl, st9⟩
  · cases hv
    rw [hh] at hz hk
    obtain ⟨t2, a1, b1⟩ := kn v V' hres x0 h0 t.heap (locs ++ L9) ls hp (s_up hS hz hk hL) hl T' e1 X'
    exact ⟨t2, st9 t2 a1, b1⟩
  · rw [hh] at hz hk
    subst hE
    obtain ⟨t2, a1, b1⟩ := kx m V' hres x0 h0 t.heap (locs ++ L9) ls ce q hp (s_up hS hz hk hL) hl hce hcv hcl T' e1 X'
    exact ⟨t2, st9.trans a1, b1⟩
theorem jt_none {pc n : Nat} : JT G nL X Q (none : Option ρ) V pc L st n := fun _ h => by cases h
theorem j_catch (C : Cx G nL X RL cc d) (hX : XK G sa (xs X).heap.size (xs X) (xs X).heap) (n : Nat) (pc : Nat) (pre : List ExceptionTableEntry) (x : ExceptionTableEntry) (suf : List ExceptionTableEntry) (hsplit : (xc X).exceptionTable.toList = pre ++ x :: suf)
    (hpass : ∀ z ∈ pre, z.catchType ≠ 0 ∧ ∃ a, a < 4 ∧ 0 < a ∧ a ≠ n ∧ z.catchType = exC a) (hcov : covers x pc = true) (h0 : x.catchType = exC n) (hn : 0 < n ∧ n < 4)
    (kk : ∀ q, JS G nL X Q sp V x.handlerPc L [.ref q]) : JT G nL X Q sp V pc L st n := by
  intro x0 hx0 H locs ls ce q hP hS hl hce hcv hcl
  have lk : ∀ a, 0 < a → a < 4 → (Cond.classLink RL (exC a) (exN a)).before (xa X) (xs X) = true := by
    intro a h1 h2
    rcases (show a = 1 ∨ a = 2 ∨ a = 3 by omega) with rfl | rfl | rfl
    · exact C.2.2.2.2.1 _ lk_1
    · exact C.2.2.2.2.1 _ lk_2
    · exact C.2.2.2.2.1 _ lk_3
  have ck : ∀ a, 0 < a → a < 4 → (Cond.castable (exN a) (exN a)).before (xa X) (xs X) = true := by
    intro a h1 h2
    rcases (show a = 1 ∨ a = 2 ∨ a = 3 by omega) with rfl | rfl | rfl
    · exact (C.2.2.2.2.2.1.2 _ ca_1).use rfl
    · exact (C.2.2.2.2.2.1.2 _ ca_2).use rfl
    · exact (C.2.2.2.2.2.1.2 _ ca_3).use rfl
  refine vx_catch C.2.2.2.1 pre x suf hsplit (fun z hz => ?_) hcov ?_ (by rw [h0]; exact lk n hn.1 hn.2) (ck n hn.1 hn.2) hce hcv hcl (kk q x0 hx0 H locs ls hP hS hl)
  · obtain ⟨h1, a, h2, h3, h4, h5⟩ := hpass z hz
    exact Or.inr ⟨h1, exN a, by rw [h5]; exact lk a h3 h2, hX.2.2.2 n a hn.2 h2 hn.1 h3 (fun e => h4 e.symm)⟩
  · rw [h0]
    rcases (show n = 1 ∨ n = 2 ∨ n = 3 by omega) with rfl | rfl | rfl <;> decide
theorem j_ost (C : Cx G nL X own cc d) {x : Int64} (pc : Nat) (hd : decode cc pc = .ok (.lastore, 1)) (kk : JS G nL X Q sp (c0, (w.1, vp_updL w.2 0 x)) (pc + 1) L st) : JS G nL X Q sp (c0, w) pc L (.long x :: .int 0 :: .ref (G.2.2 120) :: st) := by
  intro x0 h0 H locs ls hP hS hl
  have hu := up_mo (cy := G.2.1) (ad := G.2.2) (c := c0) (w := w) (w' := (w.1, vp_updL w.2 0 x)) (j0 := 6) (by intro i hi he; rcases (show i = 0 ∨ i = 1 ∨ i = 2 ∨ i = 3 ∨ i = 4 ∨ i = 5 by omega) with rfl | rfl | rfl | rfl | rfl | rfl <;> rfl)
  exact va_last (f := w.2) C.1 C.2.1 C.2.2.2.2.2.1.1 hP (wld_D C.2.2.2.2.2.2.1 _ _) hS 120 3 (by rw [wld_at G _ (by omega)]; rfl) rfl (by unfold vp_in; decide) hd (fun H1 locs1 hP1 _ hS1 => kk x0 h0 H1 locs1 ls (by rw [← wld_set (by omega) hu]; exact hP1) hS1 hl)
theorem jw_iret (C : Cx G nL X own cc d) {X0 : WX} {rv : ρ → Option Value} {fin : ρ → VA} {x : ρ} (h1 : X = xup X0) (hk : xk X0 = 0) (hz : xz X0 = 0) {v : Int32} (pc : Nat) (hr : (xM X).sig.returnType = some .int) (hrv : rv x = some (.int v)) (hf : fin x = V) (hd : decode cc pc = .ok (.ireturn, 1)) : JS G nL X (QW G X0 rv fin) (some x) V pc L [.int v] := by
  subst h1
  intro x0 h0 H locs ls hP hS hl
  cases h0
  refine W.widen (k := 1) (n := 6) (by show xk X0 + 1 ≤ 1; omega) (by show xz X0 + 6 ≤ 6; omega) ?_
  exact W.iret C.1 C.2.1 hr (q_end (X := X0) hrv hf hP hS) hS.2.2 hd C.2.2.2.2.2.2.2.1
end
def f_L_plug (c : VC) (o : Nat → Int64) (a1 : Int32) (a2 : Int32) (a3 : Int32) (a4 : Int32) : Option (Int32 × VC × (Nat → Int64)) :=
  (f_X5_plug c a1 a2 a3 a4).bind fun r => Sum.elim (fun n : Nat × VC => if n.1 = 1 then some (1, n.2, o) else if n.1 = 2 then some (2, n.2, o) else if n.1 = 3 then some (3, n.2, o) else none) (fun q : Int32 × VC => some (0, q.2, vp_updL o 0 (q.1).toInt64)) r
set_option maxRecDepth 100000 in
set_option maxHeartbeats 4000000 in
theorem c_L_plug {G : GG} {l : Launch} {sa : Nat → Nat} (hG : Gok G) (hl : l.stackTraces = false) (c : VC) (mo : VM) (o : Nat → Int64) (a1 : Int32) (a2 : Int32) (a3 : Int32) (a4 : Int32) {x : Int32 × VC × (Nat → Int64)} (hf : f_L_plug c o a1 a2 a3 a4 = some x) : CtW l yL_plug cL_plug 7 (some .int) [(0, 14, 17, 13), (0, 14, 21, 15), (0, 14, 25, 17)] 9 [.ref (G.2.2 0), .int a1, .int a2, .int a3, .int a4, .ref (G.2.2 120)] G sa (c, (mo, o)) (some (.int x.1)) (x.2.1, (mo, x.2.2)) := by
  refine ctw_of (y := yL_plug) (as := [.ref (G.2.2 0), .int a1, .int a2, .int a3, .int a4, .ref (G.2.2 120)]) (nL := 7) (x := x) (rv := fun x : Int32 × VC × (Nat → Int64) => (some (.int x.1))) (fin := fun x : Int32 × VC × (Nat → Int64) => ((x.2.1, (mo, x.2.2)) : VA)) (own := RL) hG (by decide) rfl (Nat.le_of_ble_eq_true rfl) (fun X C hr Wp hlx => ?_) hf
  subst hlx
  unfold f_L_plug
  refine j_aload C 0 5 rfl dL_plug_0 ?_
  refine j_iconst (v := 0) C 2 dL_plug_2 rfl ?_
  refine j_aload_n C 3 0 rfl dL_plug_3 ?_
  refine j_iload_n C 4 1 rfl dL_plug_4 ?_
  refine j_iload_n C 5 2 rfl dL_plug_5 ?_
  refine j_iload_n C 6 3 rfl dL_plug_6 ?_
  refine j_iload C 7 4 rfl dL_plug_7 ?_
  refine j_bind (fun r hr9 => ?_)
  refine j_vX (As := [.int a1, .int a2, .int a3, .int a4]) (st := [.int 0, .ref (G.2.2 120)]) C Wp.2.1 (by rw [Wp.2.2.1]; exact Wp.2.2.2.2.1) (by rw [Wp.2.2.2.1]; exact Wp.2.2.2.2.2) k_X5_plug 9 (c_X5_plug C.2.2.2.2.2.2.1 hl c _ _ _ _ hr9) rfl ml_L_7 ii_X5_plug is_X5_plug dL_plug_9 (by decide) rfl (Nat.le_of_ble_eq_true rfl) (fun rv V1 e => ?_) (fun m V1 e => ?_) rfl
  · rcases r with n | q
    · cases e
    · cases e
      have C1 := C.up (by rw [Wp.2.2.1]; exact Wp.2.2.2.2.1) (by rw [Wp.2.2.2.1]; exact Wp.2.2.2.2.2)
      refine j_i2l C1 12 dL_plug_12 ?_
      refine j_ost C1 13 dL_plug_13 ?_
      refine j_goto C1 14 29 dL_plug_14 (by decide) ?_
      refine j_iconst (v := 0) C1 29 dL_plug_29 rfl ?_
      exact jw_iret C1 rfl Wp.2.2.1 Wp.2.2.2.1 30 hr rfl rfl dL_plug_30
  · rcases r with n | q
    · cases e
      have C1 := C.up (by rw [Wp.2.2.1]; exact Wp.2.2.2.2.1) (by rw [Wp.2.2.2.1]; exact Wp.2.2.2.2.2)
      show JT G 7 (xup X) _ (if n.1 = 1 then some (1, n.2, o) else if n.1 = 2 then some (2, n.2, o) else if n.1 = 3 then some (3, n.2, o) else none) _ 9 _ _ _
      by_cases h1 : n.1 = 1
      · rw [if_pos h1]
        rw [h1]
        refine j_catch C1 Wp.2.1 1 9 [] ⟨0, 14, 17, 13⟩ [⟨0, 14, 21, 15⟩, ⟨0, 14, 25, 17⟩] Wp.1 (fun z hz => nomatch hz) (by decide) rfl (by decide) (fun q9 => ?_)
        refine j_astore (L1 := [(6, .ref q9), (0, .ref (G.2.2 0)), (1, .int a1), (2, .int a2), (3, .int a3), (4, .int a4), (5, .ref (G.2.2 120))]) C1 17 dL_plug_17 (by decide) rfl ?_
        refine j_iconst (v := 1) C1 19 dL_plug_19 rfl ?_
        exact jw_iret C1 rfl Wp.2.2.1 Wp.2.2.2.1 20 hr rfl rfl dL_plug_20
      · rw [if_neg h1]
        by_cases h2 : n.1 = 2
        · rw [if_pos h2]
          rw [h2]
          refine j_catch C1 Wp.2.1 2 9 [⟨0, 14, 17, 13⟩] ⟨0, 14, 21, 15⟩ [⟨0, 14, 25, 17⟩] Wp.1 (fun z hz => by simp only [List.mem_cons, List.not_mem_nil, or_false] at hz; rcases hz with rfl; exact ⟨by decide, 1, by decide, by decide, by decide, rfl⟩) (by decide) rfl (by decide) (fun q9 => ?_)
          refine j_astore (L1 := [(6, .ref q9), (0, .ref (G.2.2 0)), (1, .int a1), (2, .int a2), (3, .int a3), (4, .int a4), (5, .ref (G.2.2 120))]) C1 21 dL_plug_21 (by decide) rfl ?_
          refine j_iconst (v := 2) C1 23 dL_plug_23 rfl ?_
          exact jw_iret C1 rfl Wp.2.2.1 Wp.2.2.2.1 24 hr rfl rfl dL_plug_24
        · rw [if_neg h2]
          by_cases h3 : n.1 = 3
          · rw [if_pos h3]
            rw [h3]
            refine j_catch C1 Wp.2.1 3 9 [⟨0, 14, 17, 13⟩, ⟨0, 14, 21, 15⟩] ⟨0, 14, 25, 17⟩ [] Wp.1 (fun z hz => by simp only [List.mem_cons, List.not_mem_nil, or_false] at hz; rcases hz with rfl | rfl <;> first | exact ⟨by decide, 1, by decide, by decide, by decide, rfl⟩ | exact ⟨by decide, 2, by decide, by decide, by decide, rfl⟩) (by decide) rfl (by decide) (fun q9 => ?_)
            refine j_astore (L1 := [(6, .ref q9), (0, .ref (G.2.2 0)), (1, .int a1), (2, .int a2), (3, .int a3), (4, .int a4), (5, .ref (G.2.2 120))]) C1 25 dL_plug_25 (by decide) rfl ?_
            refine j_iconst (v := 3) C1 27 dL_plug_27 rfl ?_
            exact jw_iret C1 rfl Wp.2.2.1 Wp.2.2.2.1 28 hr rfl rfl dL_plug_28
          · rw [if_neg h3]
            exact jt_none
    · cases e
def f_L_pull (c : VC) (o : Nat → Int64) (a1 : Int32) : Option (Int32 × VC × (Nat → Int64)) :=
  (f_X5_pull c a1).bind fun r => Sum.elim (fun n : Nat × VC => if n.1 = 1 then some (1, n.2, o) else if n.1 = 3 then some (2, n.2, o) else none) (fun q : Int32 × VC => some (0, q.2, vp_updL o 0 (q.1).toInt64)) r
set_option maxRecDepth 100000 in
set_option maxHeartbeats 4000000 in
theorem c_L_pull {G : GG} {l : Launch} {sa : Nat → Nat} (hG : Gok G) (hl : l.stackTraces = false) (c : VC) (mo : VM) (o : Nat → Int64) (a1 : Int32) {x : Int32 × VC × (Nat → Int64)} (hf : f_L_pull c o a1 = some x) : CtW l yL_pull cL_pull 4 (some .int) [(0, 9, 12, 13), (0, 9, 15, 17)] 9 [.ref (G.2.2 0), .int a1, .ref (G.2.2 120)] G sa (c, (mo, o)) (some (.int x.1)) (x.2.1, (mo, x.2.2)) := by
  refine ctw_of (y := yL_pull) (as := [.ref (G.2.2 0), .int a1, .ref (G.2.2 120)]) (nL := 4) (x := x) (rv := fun x : Int32 × VC × (Nat → Int64) => (some (.int x.1))) (fin := fun x : Int32 × VC × (Nat → Int64) => ((x.2.1, (mo, x.2.2)) : VA)) (own := RL) hG (by decide) rfl (Nat.le_of_ble_eq_true rfl) (fun X C hr Wp hlx => ?_) hf
  subst hlx
  unfold f_L_pull
  refine j_aload_n C 0 2 rfl dL_pull_0 ?_
  refine j_iconst (v := 0) C 1 dL_pull_1 rfl ?_
  refine j_aload_n C 2 0 rfl dL_pull_2 ?_
  refine j_iload_n C 3 1 rfl dL_pull_3 ?_
  refine j_bind (fun r hr9 => ?_)
  refine j_vX (As := [.int a1]) (st := [.int 0, .ref (G.2.2 120)]) C Wp.2.1 (by rw [Wp.2.2.1]; exact Wp.2.2.2.2.1) (by rw [Wp.2.2.2.1]; exact Wp.2.2.2.2.2) k_X5_pull 4 (c_X5_pull C.2.2.2.2.2.2.1 hl c _ hr9) rfl ml_L_19 ii_X5_pull is_X5_pull dL_pull_4 (by decide) rfl (Nat.le_of_ble_eq_true rfl) (fun rv V1 e => ?_) (fun m V1 e => ?_) rfl
  · rcases r with n | q
    · cases e
    · cases e
      have C1 := C.up (by rw [Wp.2.2.1]; exact Wp.2.2.2.2.1) (by rw [Wp.2.2.2.1]; exact Wp.2.2.2.2.2)
      refine j_i2l C1 7 dL_pull_7 ?_
      refine j_ost C1 8 dL_pull_8 ?_
      refine j_goto C1 9 18 dL_pull_9 (by decide) ?_
      refine j_iconst (v := 0) C1 18 dL_pull_18 rfl ?_
      exact jw_iret C1 rfl Wp.2.2.1 Wp.2.2.2.1 19 hr rfl rfl dL_pull_19
  · rcases r with n | q
    · cases e
      have C1 := C.up (by rw [Wp.2.2.1]; exact Wp.2.2.2.2.1) (by rw [Wp.2.2.2.1]; exact Wp.2.2.2.2.2)
      show JT G 4 (xup X) _ (if n.1 = 1 then some (1, n.2, o) else if n.1 = 3 then some (2, n.2, o) else none) _ 4 _ _ _
      by_cases h1 : n.1 = 1
      · rw [if_pos h1]
        rw [h1]
        refine j_catch C1 Wp.2.1 1 4 [] ⟨0, 9, 12, 13⟩ [⟨0, 9, 15, 17⟩] Wp.1 (fun z hz => nomatch hz) (by decide) rfl (by decide) (fun q9 => ?_)
        refine j_astore_n (L1 := [(3, .ref q9), (0, .ref (G.2.2 0)), (1, .int a1), (2, .ref (G.2.2 120))]) C1 12 rfl dL_pull_12 (by decide) rfl ?_
        refine j_iconst (v := 1) C1 13 dL_pull_13 rfl ?_
        exact jw_iret C1 rfl Wp.2.2.1 Wp.2.2.2.1 14 hr rfl rfl dL_pull_14
      · rw [if_neg h1]
        by_cases h3 : n.1 = 3
        · rw [if_pos h3]
          rw [h3]
          refine j_catch C1 Wp.2.1 3 4 [⟨0, 9, 12, 13⟩] ⟨0, 9, 15, 17⟩ [] Wp.1 (fun z hz => by simp only [List.mem_cons, List.not_mem_nil, or_false] at hz; rcases hz with rfl; exact ⟨by decide, 1, by decide, by decide, by decide, rfl⟩) (by decide) rfl (by decide) (fun q9 => ?_)
          refine j_astore_n (L1 := [(3, .ref q9), (0, .ref (G.2.2 0)), (1, .int a1), (2, .ref (G.2.2 120))]) C1 15 rfl dL_pull_15 (by decide) rfl ?_
          refine j_iconst (v := 2) C1 16 dL_pull_16 rfl ?_
          exact jw_iret C1 rfl Wp.2.2.1 Wp.2.2.2.1 17 hr rfl rfl dL_pull_17
        · rw [if_neg h3]
          exact jt_none
    · cases e
def f_L_fail (c : VC) (o : Nat → Int64) (a1 : Int32) : Option (Int32 × VC × (Nat → Int64)) :=
  (f_X5_fail c a1).bind fun r => Sum.elim (fun n : Nat × VC => if n.1 = 1 then some (1, n.2, o) else if n.1 = 3 then some (2, n.2, o) else none) (fun q : Int32 × VC => some (0, q.2, vp_updL o 0 (q.1).toInt64)) r
set_option maxRecDepth 100000 in
set_option maxHeartbeats 4000000 in
theorem c_L_fail {G : GG} {l : Launch} {sa : Nat → Nat} (hG : Gok G) (hl : l.stackTraces = false) (c : VC) (mo : VM) (o : Nat → Int64) (a1 : Int32) {x : Int32 × VC × (Nat → Int64)} (hf : f_L_fail c o a1 = some x) : CtW l yL_fail cL_fail 4 (some .int) [(0, 9, 12, 13), (0, 9, 15, 17)] 9 [.ref (G.2.2 0), .int a1, .ref (G.2.2 120)] G sa (c, (mo, o)) (some (.int x.1)) (x.2.1, (mo, x.2.2)) := by
  refine ctw_of (y := yL_fail) (as := [.ref (G.2.2 0), .int a1, .ref (G.2.2 120)]) (nL := 4) (x := x) (rv := fun x : Int32 × VC × (Nat → Int64) => (some (.int x.1))) (fin := fun x : Int32 × VC × (Nat → Int64) => ((x.2.1, (mo, x.2.2)) : VA)) (own := RL) hG (by decide) rfl (Nat.le_of_ble_eq_true rfl) (fun X C hr Wp hlx => ?_) hf
  subst hlx
  unfold f_L_fail
  refine j_aload_n C 0 2 rfl dL_fail_0 ?_
  refine j_iconst (v := 0) C 1 dL_fail_1 rfl ?_
  refine j_aload_n C 2 0 rfl dL_fail_2 ?_
  refine j_iload_n C 3 1 rfl dL_fail_3 ?_
  refine j_bind (fun r hr9 => ?_)
  refine j_vX (As := [.int a1]) (st := [.int 0, .ref (G.2.2 120)]) C Wp.2.1 (by rw [Wp.2.2.1]; exact Wp.2.2.2.2.1) (by rw [Wp.2.2.2.1]; exact Wp.2.2.2.2.2) k_X5_fail 4 (c_X5_fail C.2.2.2.2.2.2.1 hl c _ hr9) rfl ml_L_23 ii_X5_fail is_X5_fail dL_fail_4 (by decide) rfl (Nat.le_of_ble_eq_true rfl) (fun rv V1 e => ?_) (fun m V1 e => ?_) rfl
  · rcases r with n | q
    · cases e
    · cases e
      have C1 := C.up (by rw [Wp.2.2.1]; exact Wp.2.2.2.2.1) (by rw [Wp.2.2.2.1]; exact Wp.2.2.2.2.2)
      refine j_i2l C1 7 dL_fail_7 ?_
      refine j_ost C1 8 dL_fail_8 ?_
      refine j_goto C1 9 18 dL_fail_9 (by decide) ?_
      refine j_iconst (v := 0) C1 18 dL_fail_18 rfl ?_
      exact jw_iret C1 rfl Wp.2.2.1 Wp.2.2.2.1 19 hr rfl rfl dL_fail_19
  · rcases r with n | q
    · cases e
      have C1 := C.up (by rw [Wp.2.2.1]; exact Wp.2.2.2.2.1) (by rw [Wp.2.2.2.1]; exact Wp.2.2.2.2.2)
      show JT G 4 (xup X) _ (if n.1 = 1 then some (1, n.2, o) else if n.1 = 3 then some (2, n.2, o) else none) _ 4 _ _ _
      by_cases h1 : n.1 = 1
      · rw [if_pos h1]
        rw [h1]
        refine j_catch C1 Wp.2.1 1 4 [] ⟨0, 9, 12, 13⟩ [⟨0, 9, 15, 17⟩] Wp.1 (fun z hz => nomatch hz) (by decide) rfl (by decide) (fun q9 => ?_)
        refine j_astore_n (L1 := [(3, .ref q9), (0, .ref (G.2.2 0)), (1, .int a1), (2, .ref (G.2.2 120))]) C1 12 rfl dL_fail_12 (by decide) rfl ?_
        refine j_iconst (v := 1) C1 13 dL_fail_13 rfl ?_
        exact jw_iret C1 rfl Wp.2.2.1 Wp.2.2.2.1 14 hr rfl rfl dL_fail_14
      · rw [if_neg h1]
        by_cases h3 : n.1 = 3
        · rw [if_pos h3]
          rw [h3]
          refine j_catch C1 Wp.2.1 3 4 [⟨0, 9, 12, 13⟩] ⟨0, 9, 15, 17⟩ [] Wp.1 (fun z hz => by simp only [List.mem_cons, List.not_mem_nil, or_false] at hz; rcases hz with rfl; exact ⟨by decide, 1, by decide, by decide, by decide, rfl⟩) (by decide) rfl (by decide) (fun q9 => ?_)
          refine j_astore_n (L1 := [(3, .ref q9), (0, .ref (G.2.2 0)), (1, .int a1), (2, .ref (G.2.2 120))]) C1 15 rfl dL_fail_15 (by decide) rfl ?_
          refine j_iconst (v := 2) C1 16 dL_fail_16 rfl ?_
          exact jw_iret C1 rfl Wp.2.2.1 Wp.2.2.2.1 17 hr rfl rfl dL_fail_17
        · rw [if_neg h3]
          exact jt_none
    · cases e
def f_L_start (c : VC) (o : Nat → Int64) : Option (Int32 × VC × (Nat → Int64)) :=
  (f_X5_start c).bind fun r => Sum.elim (fun n : Nat × VC => if n.1 = 3 then some (1, n.2, o) else none) (fun q : Int32 × VC => some (0, q.2, vp_updL o 0 (q.1).toInt64)) r
set_option maxRecDepth 100000 in
set_option maxHeartbeats 4000000 in
theorem c_L_start {G : GG} {l : Launch} {sa : Nat → Nat} (hG : Gok G) (hl : l.stackTraces = false) (c : VC) (mo : VM) (o : Nat → Int64) {x : Int32 × VC × (Nat → Int64)} (hf : f_L_start c o = some x) : CtW l yL_start cL_start 3 (some .int) [(0, 8, 11, 17)] 9 [.ref (G.2.2 0), .ref (G.2.2 120)] G sa (c, (mo, o)) (some (.int x.1)) (x.2.1, (mo, x.2.2)) := by
  refine ctw_of (y := yL_start) (as := [.ref (G.2.2 0), .ref (G.2.2 120)]) (nL := 3) (x := x) (rv := fun x : Int32 × VC × (Nat → Int64) => (some (.int x.1))) (fin := fun x : Int32 × VC × (Nat → Int64) => ((x.2.1, (mo, x.2.2)) : VA)) (own := RL) hG (by decide) rfl (Nat.le_of_ble_eq_true rfl) (fun X C hr Wp hlx => ?_) hf
  subst hlx
  unfold f_L_start
  refine j_aload_n C 0 1 rfl dL_start_0 ?_
  refine j_iconst (v := 0) C 1 dL_start_1 rfl ?_
  refine j_aload_n C 2 0 rfl dL_start_2 ?_
  refine j_bind (fun r hr9 => ?_)
  refine j_vX (As := []) (st := [.int 0, .ref (G.2.2 120)]) C Wp.2.1 (by rw [Wp.2.2.1]; exact Wp.2.2.2.2.1) (by rw [Wp.2.2.2.1]; exact Wp.2.2.2.2.2) k_X5_start 3 (c_X5_start C.2.2.2.2.2.2.1 hl c hr9) rfl ml_L_26 ii_X5_start is_X5_start dL_start_3 (by decide) rfl (Nat.le_of_ble_eq_true rfl) (fun rv V1 e => ?_) (fun m V1 e => ?_) rfl
  · rcases r with n | q
    · cases e
    · cases e
      have C1 := C.up (by rw [Wp.2.2.1]; exact Wp.2.2.2.2.1) (by rw [Wp.2.2.2.1]; exact Wp.2.2.2.2.2)
      refine j_i2l C1 6 dL_start_6 ?_
      refine j_ost C1 7 dL_start_7 ?_
      refine j_goto C1 8 14 dL_start_8 (by decide) ?_
      refine j_iconst (v := 0) C1 14 dL_start_14 rfl ?_
      exact jw_iret C1 rfl Wp.2.2.1 Wp.2.2.2.1 15 hr rfl rfl dL_start_15
  · rcases r with n | q
    · cases e
      have C1 := C.up (by rw [Wp.2.2.1]; exact Wp.2.2.2.2.1) (by rw [Wp.2.2.2.1]; exact Wp.2.2.2.2.2)
      show JT G 3 (xup X) _ (if n.1 = 3 then some (1, n.2, o) else none) _ 3 _ _ _
      by_cases h3 : n.1 = 3
      · rw [if_pos h3]
        rw [h3]
        refine j_catch C1 Wp.2.1 3 3 [] ⟨0, 8, 11, 17⟩ [] Wp.1 (fun z hz => nomatch hz) (by decide) rfl (by decide) (fun q9 => ?_)
        refine j_astore_n (L1 := [(2, .ref q9), (0, .ref (G.2.2 0)), (1, .ref (G.2.2 120))]) C1 11 rfl dL_start_11 (by decide) rfl ?_
        refine j_iconst (v := 1) C1 12 dL_start_12 rfl ?_
        exact jw_iret C1 rfl Wp.2.2.1 Wp.2.2.2.1 13 hr rfl rfl dL_start_13
      · rw [if_neg h3]
        exact jt_none
    · cases e
def f_L_stop (c : VC) (o : Nat → Int64) : Option (Int32 × VC × (Nat → Int64)) :=
  (f_X5_stop c).bind fun r => Sum.elim (fun n : Nat × VC => if n.1 = 3 then some (1, n.2, o) else none) (fun q : Int32 × VC => some (0, q.2, vp_updL o 0 (q.1).toInt64)) r
set_option maxRecDepth 100000 in
set_option maxHeartbeats 4000000 in
theorem c_L_stop {G : GG} {l : Launch} {sa : Nat → Nat} (hG : Gok G) (hl : l.stackTraces = false) (c : VC) (mo : VM) (o : Nat → Int64) {x : Int32 × VC × (Nat → Int64)} (hf : f_L_stop c o = some x) : CtW l yL_stop cL_stop 3 (some .int) [(0, 8, 11, 17)] 9 [.ref (G.2.2 0), .ref (G.2.2 120)] G sa (c, (mo, o)) (some (.int x.1)) (x.2.1, (mo, x.2.2)) := by
  refine ctw_of (y := yL_stop) (as := [.ref (G.2.2 0), .ref (G.2.2 120)]) (nL := 3) (x := x) (rv := fun x : Int32 × VC × (Nat → Int64) => (some (.int x.1))) (fin := fun x : Int32 × VC × (Nat → Int64) => ((x.2.1, (mo, x.2.2)) : VA)) (own := RL) hG (by decide) rfl (Nat.le_of_ble_eq_true rfl) (fun X C hr Wp hlx => ?_) hf
  subst hlx
  unfold f_L_stop
  refine j_aload_n C 0 1 rfl dL_stop_0 ?_
  refine j_iconst (v := 0) C 1 dL_stop_1 rfl ?_
  refine j_aload_n C 2 0 rfl dL_stop_2 ?_
  refine j_bind (fun r hr9 => ?_)
  refine j_vX (As := []) (st := [.int 0, .ref (G.2.2 120)]) C Wp.2.1 (by rw [Wp.2.2.1]; exact Wp.2.2.2.2.1) (by rw [Wp.2.2.2.1]; exact Wp.2.2.2.2.2) k_X5_stop 3 (c_X5_stop C.2.2.2.2.2.2.1 hl c hr9) rfl ml_L_30 ii_X5_stop is_X5_stop dL_stop_3 (by decide) rfl (Nat.le_of_ble_eq_true rfl) (fun rv V1 e => ?_) (fun m V1 e => ?_) rfl
  · rcases r with n | q
    · cases e
    · cases e
      have C1 := C.up (by rw [Wp.2.2.1]; exact Wp.2.2.2.2.1) (by rw [Wp.2.2.2.1]; exact Wp.2.2.2.2.2)
      refine j_i2l C1 6 dL_stop_6 ?_
      refine j_ost C1 7 dL_stop_7 ?_
      refine j_goto C1 8 14 dL_stop_8 (by decide) ?_
      refine j_iconst (v := 0) C1 14 dL_stop_14 rfl ?_
      exact jw_iret C1 rfl Wp.2.2.1 Wp.2.2.2.1 15 hr rfl rfl dL_stop_15
  · rcases r with n | q
    · cases e
      have C1 := C.up (by rw [Wp.2.2.1]; exact Wp.2.2.2.2.1) (by rw [Wp.2.2.2.1]; exact Wp.2.2.2.2.2)
      show JT G 3 (xup X) _ (if n.1 = 3 then some (1, n.2, o) else none) _ 3 _ _ _
      by_cases h3 : n.1 = 3
      · rw [if_pos h3]
        rw [h3]
        refine j_catch C1 Wp.2.1 3 3 [] ⟨0, 8, 11, 17⟩ [] Wp.1 (fun z hz => nomatch hz) (by decide) rfl (by decide) (fun q9 => ?_)
        refine j_astore_n (L1 := [(2, .ref q9), (0, .ref (G.2.2 0)), (1, .ref (G.2.2 120))]) C1 11 rfl dL_stop_11 (by decide) rfl ?_
        refine j_iconst (v := 1) C1 12 dL_stop_12 rfl ?_
        exact jw_iret C1 rfl Wp.2.2.1 Wp.2.2.2.1 13 hr rfl rfl dL_stop_13
      · rw [if_neg h3]
        exact jt_none
    · cases e
def f_L_write (c : VC) (o : Nat → Int64) (a1 : Int32) (a2 : Int32) : Option (Int32 × VC × (Nat → Int64)) :=
  (f_X5_write c a1 a2).bind fun r => Sum.elim (fun n : Nat × VC => if n.1 = 1 then some (1, n.2, o) else if n.1 = 2 then some (2, n.2, o) else if n.1 = 3 then some (3, n.2, o) else none) (fun q : Int32 × VC => some (0, q.2, vp_updL o 0 (q.1).toInt64)) r
set_option maxRecDepth 100000 in
set_option maxHeartbeats 4000000 in
theorem c_L_write {G : GG} {l : Launch} {sa : Nat → Nat} (hG : Gok G) (hl : l.stackTraces = false) (c : VC) (mo : VM) (o : Nat → Int64) (a1 : Int32) (a2 : Int32) {x : Int32 × VC × (Nat → Int64)} (hf : f_L_write c o a1 a2 = some x) : CtW l yL_write cL_write 5 (some .int) [(0, 10, 13, 13), (0, 10, 17, 15), (0, 10, 21, 17)] 9 [.ref (G.2.2 0), .int a1, .int a2, .ref (G.2.2 120)] G sa (c, (mo, o)) (some (.int x.1)) (x.2.1, (mo, x.2.2)) := by
  refine ctw_of (y := yL_write) (as := [.ref (G.2.2 0), .int a1, .int a2, .ref (G.2.2 120)]) (nL := 5) (x := x) (rv := fun x : Int32 × VC × (Nat → Int64) => (some (.int x.1))) (fin := fun x : Int32 × VC × (Nat → Int64) => ((x.2.1, (mo, x.2.2)) : VA)) (own := RL) hG (by decide) rfl (Nat.le_of_ble_eq_true rfl) (fun X C hr Wp hlx => ?_) hf
  subst hlx
  unfold f_L_write
  refine j_aload_n C 0 3 rfl dL_write_0 ?_
  refine j_iconst (v := 0) C 1 dL_write_1 rfl ?_
  refine j_aload_n C 2 0 rfl dL_write_2 ?_
  refine j_iload_n C 3 1 rfl dL_write_3 ?_
  refine j_iload_n C 4 2 rfl dL_write_4 ?_
  refine j_bind (fun r hr9 => ?_)
  refine j_vX (As := [.int a1, .int a2]) (st := [.int 0, .ref (G.2.2 120)]) C Wp.2.1 (by rw [Wp.2.2.1]; exact Wp.2.2.2.2.1) (by rw [Wp.2.2.2.1]; exact Wp.2.2.2.2.2) k_X5_write 5 (c_X5_write C.2.2.2.2.2.2.1 hl c _ _ hr9) rfl ml_L_33 ii_X5_write is_X5_write dL_write_5 (by decide) rfl (Nat.le_of_ble_eq_true rfl) (fun rv V1 e => ?_) (fun m V1 e => ?_) rfl
  · rcases r with n | q
    · cases e
    · cases e
      have C1 := C.up (by rw [Wp.2.2.1]; exact Wp.2.2.2.2.1) (by rw [Wp.2.2.2.1]; exact Wp.2.2.2.2.2)
      refine j_i2l C1 8 dL_write_8 ?_
      refine j_ost C1 9 dL_write_9 ?_
      refine j_goto C1 10 25 dL_write_10 (by decide) ?_
      refine j_iconst (v := 0) C1 25 dL_write_25 rfl ?_
      exact jw_iret C1 rfl Wp.2.2.1 Wp.2.2.2.1 26 hr rfl rfl dL_write_26
  · rcases r with n | q
    · cases e
      have C1 := C.up (by rw [Wp.2.2.1]; exact Wp.2.2.2.2.1) (by rw [Wp.2.2.2.1]; exact Wp.2.2.2.2.2)
      show JT G 5 (xup X) _ (if n.1 = 1 then some (1, n.2, o) else if n.1 = 2 then some (2, n.2, o) else if n.1 = 3 then some (3, n.2, o) else none) _ 5 _ _ _
      by_cases h1 : n.1 = 1
      · rw [if_pos h1]
        rw [h1]
        refine j_catch C1 Wp.2.1 1 5 [] ⟨0, 10, 13, 13⟩ [⟨0, 10, 17, 15⟩, ⟨0, 10, 21, 17⟩] Wp.1 (fun z hz => nomatch hz) (by decide) rfl (by decide) (fun q9 => ?_)
        refine j_astore (L1 := [(4, .ref q9), (0, .ref (G.2.2 0)), (1, .int a1), (2, .int a2), (3, .ref (G.2.2 120))]) C1 13 dL_write_13 (by decide) rfl ?_
        refine j_iconst (v := 1) C1 15 dL_write_15 rfl ?_
        exact jw_iret C1 rfl Wp.2.2.1 Wp.2.2.2.1 16 hr rfl rfl dL_write_16
      · rw [if_neg h1]
        by_cases h2 : n.1 = 2
        · rw [if_pos h2]
          rw [h2]
          refine j_catch C1 Wp.2.1 2 5 [⟨0, 10, 13, 13⟩] ⟨0, 10, 17, 15⟩ [⟨0, 10, 21, 17⟩] Wp.1 (fun z hz => by simp only [List.mem_cons, List.not_mem_nil, or_false] at hz; rcases hz with rfl; exact ⟨by decide, 1, by decide, by decide, by decide, rfl⟩) (by decide) rfl (by decide) (fun q9 => ?_)
          refine j_astore (L1 := [(4, .ref q9), (0, .ref (G.2.2 0)), (1, .int a1), (2, .int a2), (3, .ref (G.2.2 120))]) C1 17 dL_write_17 (by decide) rfl ?_
          refine j_iconst (v := 2) C1 19 dL_write_19 rfl ?_
          exact jw_iret C1 rfl Wp.2.2.1 Wp.2.2.2.1 20 hr rfl rfl dL_write_20
        · rw [if_neg h2]
          by_cases h3 : n.1 = 3
          · rw [if_pos h3]
            rw [h3]
            refine j_catch C1 Wp.2.1 3 5 [⟨0, 10, 13, 13⟩, ⟨0, 10, 17, 15⟩] ⟨0, 10, 21, 17⟩ [] Wp.1 (fun z hz => by simp only [List.mem_cons, List.not_mem_nil, or_false] at hz; rcases hz with rfl | rfl <;> first | exact ⟨by decide, 1, by decide, by decide, by decide, rfl⟩ | exact ⟨by decide, 2, by decide, by decide, by decide, rfl⟩) (by decide) rfl (by decide) (fun q9 => ?_)
            refine j_astore (L1 := [(4, .ref q9), (0, .ref (G.2.2 0)), (1, .int a1), (2, .int a2), (3, .ref (G.2.2 120))]) C1 21 dL_write_21 (by decide) rfl ?_
            refine j_iconst (v := 3) C1 23 dL_write_23 rfl ?_
            exact jw_iret C1 rfl Wp.2.2.1 Wp.2.2.2.1 24 hr rfl rfl dL_write_24
          · rw [if_neg h3]
            exact jt_none
    · cases e
def f_L_read (c : VC) (o : Nat → Int64) (a1 : Int32) : Option (Int32 × VC × (Nat → Int64)) :=
  (f_X5_read c a1).bind fun r => Sum.elim (fun n : Nat × VC => if n.1 = 1 then some (1, n.2, o) else if n.1 = 3 then some (2, n.2, o) else none) (fun q : Int32 × VC => some (0, q.2, vp_updL o 0 (q.1).toInt64)) r
set_option maxRecDepth 100000 in
set_option maxHeartbeats 4000000 in
theorem c_L_read {G : GG} {l : Launch} {sa : Nat → Nat} (hG : Gok G) (hl : l.stackTraces = false) (c : VC) (mo : VM) (o : Nat → Int64) (a1 : Int32) {x : Int32 × VC × (Nat → Int64)} (hf : f_L_read c o a1 = some x) : CtW l yL_read cL_read 4 (some .int) [(0, 9, 12, 13), (0, 9, 15, 17)] 9 [.ref (G.2.2 0), .int a1, .ref (G.2.2 120)] G sa (c, (mo, o)) (some (.int x.1)) (x.2.1, (mo, x.2.2)) := by
  refine ctw_of (y := yL_read) (as := [.ref (G.2.2 0), .int a1, .ref (G.2.2 120)]) (nL := 4) (x := x) (rv := fun x : Int32 × VC × (Nat → Int64) => (some (.int x.1))) (fin := fun x : Int32 × VC × (Nat → Int64) => ((x.2.1, (mo, x.2.2)) : VA)) (own := RL) hG (by decide) rfl (Nat.le_of_ble_eq_true rfl) (fun X C hr Wp hlx => ?_) hf
  subst hlx
  unfold f_L_read
  refine j_aload_n C 0 2 rfl dL_read_0 ?_
  refine j_iconst (v := 0) C 1 dL_read_1 rfl ?_
  refine j_aload_n C 2 0 rfl dL_read_2 ?_
  refine j_iload_n C 3 1 rfl dL_read_3 ?_
  refine j_bind (fun r hr9 => ?_)
  refine j_vX (As := [.int a1]) (st := [.int 0, .ref (G.2.2 120)]) C Wp.2.1 (by rw [Wp.2.2.1]; exact Wp.2.2.2.2.1) (by rw [Wp.2.2.2.1]; exact Wp.2.2.2.2.2) k_X5_read 4 (c_X5_read C.2.2.2.2.2.2.1 hl c _ hr9) rfl ml_L_37 ii_X5_read is_X5_read dL_read_4 (by decide) rfl (Nat.le_of_ble_eq_true rfl) (fun rv V1 e => ?_) (fun m V1 e => ?_) rfl
  · rcases r with n | q
    · cases e
    · cases e
      have C1 := C.up (by rw [Wp.2.2.1]; exact Wp.2.2.2.2.1) (by rw [Wp.2.2.2.1]; exact Wp.2.2.2.2.2)
      refine j_i2l C1 7 dL_read_7 ?_
      refine j_ost C1 8 dL_read_8 ?_
      refine j_goto C1 9 18 dL_read_9 (by decide) ?_
      refine j_iconst (v := 0) C1 18 dL_read_18 rfl ?_
      exact jw_iret C1 rfl Wp.2.2.1 Wp.2.2.2.1 19 hr rfl rfl dL_read_19
  · rcases r with n | q
    · cases e
      have C1 := C.up (by rw [Wp.2.2.1]; exact Wp.2.2.2.2.1) (by rw [Wp.2.2.2.1]; exact Wp.2.2.2.2.2)
      show JT G 4 (xup X) _ (if n.1 = 1 then some (1, n.2, o) else if n.1 = 3 then some (2, n.2, o) else none) _ 4 _ _ _
      by_cases h1 : n.1 = 1
      · rw [if_pos h1]
        rw [h1]
        refine j_catch C1 Wp.2.1 1 4 [] ⟨0, 9, 12, 13⟩ [⟨0, 9, 15, 17⟩] Wp.1 (fun z hz => nomatch hz) (by decide) rfl (by decide) (fun q9 => ?_)
        refine j_astore_n (L1 := [(3, .ref q9), (0, .ref (G.2.2 0)), (1, .int a1), (2, .ref (G.2.2 120))]) C1 12 rfl dL_read_12 (by decide) rfl ?_
        refine j_iconst (v := 1) C1 13 dL_read_13 rfl ?_
        exact jw_iret C1 rfl Wp.2.2.1 Wp.2.2.2.1 14 hr rfl rfl dL_read_14
      · rw [if_neg h1]
        by_cases h3 : n.1 = 3
        · rw [if_pos h3]
          rw [h3]
          refine j_catch C1 Wp.2.1 3 4 [⟨0, 9, 12, 13⟩] ⟨0, 9, 15, 17⟩ [] Wp.1 (fun z hz => by simp only [List.mem_cons, List.not_mem_nil, or_false] at hz; rcases hz with rfl; exact ⟨by decide, 1, by decide, by decide, by decide, rfl⟩) (by decide) rfl (by decide) (fun q9 => ?_)
          refine j_astore_n (L1 := [(3, .ref q9), (0, .ref (G.2.2 0)), (1, .int a1), (2, .ref (G.2.2 120))]) C1 15 rfl dL_read_15 (by decide) rfl ?_
          refine j_iconst (v := 2) C1 16 dL_read_16 rfl ?_
          exact jw_iret C1 rfl Wp.2.2.1 Wp.2.2.2.1 17 hr rfl rfl dL_read_17
        · rw [if_neg h3]
          exact jt_none
    · cases e
def f_L_rest (c : VC) (o : Nat → Int64) (a1 : Int32) : Option (Int32 × VC × (Nat → Int64)) :=
  (f_X5_rest c a1).bind fun r => Sum.elim (fun n : Nat × VC => if n.1 = 2 then some (1, n.2, o) else none) (fun q : Int32 × VC => some (0, q.2, vp_updL o 0 (q.1).toInt64)) r
set_option maxRecDepth 100000 in
set_option maxHeartbeats 4000000 in
theorem c_L_rest {G : GG} {l : Launch} {sa : Nat → Nat} (hG : Gok G) (hl : l.stackTraces = false) (c : VC) (mo : VM) (o : Nat → Int64) (a1 : Int32) {x : Int32 × VC × (Nat → Int64)} (hf : f_L_rest c o a1 = some x) : CtW l yL_rest cL_rest 4 (some .int) [(0, 9, 12, 15)] 9 [.ref (G.2.2 0), .int a1, .ref (G.2.2 120)] G sa (c, (mo, o)) (some (.int x.1)) (x.2.1, (mo, x.2.2)) := by
  refine ctw_of (y := yL_rest) (as := [.ref (G.2.2 0), .int a1, .ref (G.2.2 120)]) (nL := 4) (x := x) (rv := fun x : Int32 × VC × (Nat → Int64) => (some (.int x.1))) (fin := fun x : Int32 × VC × (Nat → Int64) => ((x.2.1, (mo, x.2.2)) : VA)) (own := RL) hG (by decide) rfl (Nat.le_of_ble_eq_true rfl) (fun X C hr Wp hlx => ?_) hf
  subst hlx
  unfold f_L_rest
  refine j_aload_n C 0 2 rfl dL_rest_0 ?_
  refine j_iconst (v := 0) C 1 dL_rest_1 rfl ?_
  refine j_aload_n C 2 0 rfl dL_rest_2 ?_
  refine j_iload_n C 3 1 rfl dL_rest_3 ?_
  refine j_bind (fun r hr9 => ?_)
  refine j_vX (As := [.int a1]) (st := [.int 0, .ref (G.2.2 120)]) C Wp.2.1 (by rw [Wp.2.2.1]; exact Wp.2.2.2.2.1) (by rw [Wp.2.2.2.1]; exact Wp.2.2.2.2.2) k_X5_rest 4 (c_X5_rest C.2.2.2.2.2.2.1 hl c _ hr9) rfl ml_L_40 ii_X5_rest is_X5_rest dL_rest_4 (by decide) rfl (Nat.le_of_ble_eq_true rfl) (fun rv V1 e => ?_) (fun m V1 e => ?_) rfl
  · rcases r with n | q
    · cases e
    · cases e
      have C1 := C.up (by rw [Wp.2.2.1]; exact Wp.2.2.2.2.1) (by rw [Wp.2.2.2.1]; exact Wp.2.2.2.2.2)
      refine j_i2l C1 7 dL_rest_7 ?_
      refine j_ost C1 8 dL_rest_8 ?_
      refine j_goto C1 9 15 dL_rest_9 (by decide) ?_
      refine j_iconst (v := 0) C1 15 dL_rest_15 rfl ?_
      exact jw_iret C1 rfl Wp.2.2.1 Wp.2.2.2.1 16 hr rfl rfl dL_rest_16
  · rcases r with n | q
    · cases e
      have C1 := C.up (by rw [Wp.2.2.1]; exact Wp.2.2.2.2.1) (by rw [Wp.2.2.2.1]; exact Wp.2.2.2.2.2)
      show JT G 4 (xup X) _ (if n.1 = 2 then some (1, n.2, o) else none) _ 4 _ _ _
      by_cases h2 : n.1 = 2
      · rw [if_pos h2]
        rw [h2]
        refine j_catch C1 Wp.2.1 2 4 [] ⟨0, 9, 12, 15⟩ [] Wp.1 (fun z hz => nomatch hz) (by decide) rfl (by decide) (fun q9 => ?_)
        refine j_astore_n (L1 := [(3, .ref q9), (0, .ref (G.2.2 0)), (1, .int a1), (2, .ref (G.2.2 120))]) C1 12 rfl dL_rest_12 (by decide) rfl ?_
        refine j_iconst (v := 1) C1 13 dL_rest_13 rfl ?_
        exact jw_iret C1 rfl Wp.2.2.1 Wp.2.2.2.1 14 hr rfl rfl dL_rest_14
      · rw [if_neg h2]
        exact jt_none
    · cases e
def f_L_set (c : VC) (o : Nat → Int64) (a1 : Int32) (a2 : Int32) : Option (Int32 × VC × (Nat → Int64)) :=
  (f_X5_set c a1 a2).bind fun r => Sum.elim (fun n : Nat × VC => if n.1 = 1 then some (1, n.2, o) else if n.1 = 2 then some (2, n.2, o) else none) (fun q : Int32 × VC => some (0, q.2, vp_updL o 0 (q.1).toInt64)) r
set_option maxRecDepth 100000 in
set_option maxHeartbeats 4000000 in
theorem c_L_set {G : GG} {l : Launch} {sa : Nat → Nat} (hG : Gok G) (hl : l.stackTraces = false) (c : VC) (mo : VM) (o : Nat → Int64) (a1 : Int32) (a2 : Int32) {x : Int32 × VC × (Nat → Int64)} (hf : f_L_set c o a1 a2 = some x) : CtW l yL_set cL_set 5 (some .int) [(0, 10, 13, 13), (0, 10, 17, 15)] 9 [.ref (G.2.2 0), .int a1, .int a2, .ref (G.2.2 120)] G sa (c, (mo, o)) (some (.int x.1)) (x.2.1, (mo, x.2.2)) := by
  refine ctw_of (y := yL_set) (as := [.ref (G.2.2 0), .int a1, .int a2, .ref (G.2.2 120)]) (nL := 5) (x := x) (rv := fun x : Int32 × VC × (Nat → Int64) => (some (.int x.1))) (fin := fun x : Int32 × VC × (Nat → Int64) => ((x.2.1, (mo, x.2.2)) : VA)) (own := RL) hG (by decide) rfl (Nat.le_of_ble_eq_true rfl) (fun X C hr Wp hlx => ?_) hf
  subst hlx
  unfold f_L_set
  refine j_aload_n C 0 3 rfl dL_set_0 ?_
  refine j_iconst (v := 0) C 1 dL_set_1 rfl ?_
  refine j_aload_n C 2 0 rfl dL_set_2 ?_
  refine j_iload_n C 3 1 rfl dL_set_3 ?_
  refine j_iload_n C 4 2 rfl dL_set_4 ?_
  refine j_bind (fun r hr9 => ?_)
  refine j_vX (As := [.int a1, .int a2]) (st := [.int 0, .ref (G.2.2 120)]) C Wp.2.1 (by rw [Wp.2.2.1]; exact Wp.2.2.2.2.1) (by rw [Wp.2.2.2.1]; exact Wp.2.2.2.2.2) k_X5_set 5 (c_X5_set C.2.2.2.2.2.2.1 hl c _ _ hr9) rfl ml_L_43 ii_X5_set is_X5_set dL_set_5 (by decide) rfl (Nat.le_of_ble_eq_true rfl) (fun rv V1 e => ?_) (fun m V1 e => ?_) rfl
  · rcases r with n | q
    · cases e
    · cases e
      have C1 := C.up (by rw [Wp.2.2.1]; exact Wp.2.2.2.2.1) (by rw [Wp.2.2.2.1]; exact Wp.2.2.2.2.2)
      refine j_i2l C1 8 dL_set_8 ?_
      refine j_ost C1 9 dL_set_9 ?_
      refine j_goto C1 10 21 dL_set_10 (by decide) ?_
      refine j_iconst (v := 0) C1 21 dL_set_21 rfl ?_
      exact jw_iret C1 rfl Wp.2.2.1 Wp.2.2.2.1 22 hr rfl rfl dL_set_22
  · rcases r with n | q
    · cases e
      have C1 := C.up (by rw [Wp.2.2.1]; exact Wp.2.2.2.2.1) (by rw [Wp.2.2.2.1]; exact Wp.2.2.2.2.2)
      show JT G 5 (xup X) _ (if n.1 = 1 then some (1, n.2, o) else if n.1 = 2 then some (2, n.2, o) else none) _ 5 _ _ _
      by_cases h1 : n.1 = 1
      · rw [if_pos h1]
        rw [h1]
        refine j_catch C1 Wp.2.1 1 5 [] ⟨0, 10, 13, 13⟩ [⟨0, 10, 17, 15⟩] Wp.1 (fun z hz => nomatch hz) (by decide) rfl (by decide) (fun q9 => ?_)
        refine j_astore (L1 := [(4, .ref q9), (0, .ref (G.2.2 0)), (1, .int a1), (2, .int a2), (3, .ref (G.2.2 120))]) C1 13 dL_set_13 (by decide) rfl ?_
        refine j_iconst (v := 1) C1 15 dL_set_15 rfl ?_
        exact jw_iret C1 rfl Wp.2.2.1 Wp.2.2.2.1 16 hr rfl rfl dL_set_16
      · rw [if_neg h1]
        by_cases h2 : n.1 = 2
        · rw [if_pos h2]
          rw [h2]
          refine j_catch C1 Wp.2.1 2 5 [⟨0, 10, 13, 13⟩] ⟨0, 10, 17, 15⟩ [] Wp.1 (fun z hz => by simp only [List.mem_cons, List.not_mem_nil, or_false] at hz; rcases hz with rfl; exact ⟨by decide, 1, by decide, by decide, by decide, rfl⟩) (by decide) rfl (by decide) (fun q9 => ?_)
          refine j_astore (L1 := [(4, .ref q9), (0, .ref (G.2.2 0)), (1, .int a1), (2, .int a2), (3, .ref (G.2.2 120))]) C1 17 dL_set_17 (by decide) rfl ?_
          refine j_iconst (v := 2) C1 19 dL_set_19 rfl ?_
          exact jw_iret C1 rfl Wp.2.2.1 Wp.2.2.2.1 20 hr rfl rfl dL_set_20
        · rw [if_neg h2]
          exact jt_none
    · cases e
def f_L_append (c : VC) (o : Nat → Int64) (a1 : Int32) : Option (Int32 × VC × (Nat → Int64)) :=
  (f_X5_append c a1).bind fun r => Sum.elim (fun n : Nat × VC => if n.1 = 2 then some (1, n.2, o) else if n.1 = 3 then some (2, n.2, o) else none) (fun q : Int32 × VC => some (0, q.2, vp_updL o 0 (q.1).toInt64)) r
set_option maxRecDepth 100000 in
set_option maxHeartbeats 4000000 in
theorem c_L_append {G : GG} {l : Launch} {sa : Nat → Nat} (hG : Gok G) (hl : l.stackTraces = false) (c : VC) (mo : VM) (o : Nat → Int64) (a1 : Int32) {x : Int32 × VC × (Nat → Int64)} (hf : f_L_append c o a1 = some x) : CtW l yL_append cL_append 4 (some .int) [(0, 9, 12, 15), (0, 9, 15, 17)] 9 [.ref (G.2.2 0), .int a1, .ref (G.2.2 120)] G sa (c, (mo, o)) (some (.int x.1)) (x.2.1, (mo, x.2.2)) := by
  refine ctw_of (y := yL_append) (as := [.ref (G.2.2 0), .int a1, .ref (G.2.2 120)]) (nL := 4) (x := x) (rv := fun x : Int32 × VC × (Nat → Int64) => (some (.int x.1))) (fin := fun x : Int32 × VC × (Nat → Int64) => ((x.2.1, (mo, x.2.2)) : VA)) (own := RL) hG (by decide) rfl (Nat.le_of_ble_eq_true rfl) (fun X C hr Wp hlx => ?_) hf
  subst hlx
  unfold f_L_append
  refine j_aload_n C 0 2 rfl dL_append_0 ?_
  refine j_iconst (v := 0) C 1 dL_append_1 rfl ?_
  refine j_aload_n C 2 0 rfl dL_append_2 ?_
  refine j_iload_n C 3 1 rfl dL_append_3 ?_
  refine j_bind (fun r hr9 => ?_)
  refine j_vX (As := [.int a1]) (st := [.int 0, .ref (G.2.2 120)]) C Wp.2.1 (by rw [Wp.2.2.1]; exact Wp.2.2.2.2.1) (by rw [Wp.2.2.2.1]; exact Wp.2.2.2.2.2) k_X5_append 4 (c_X5_append C.2.2.2.2.2.2.1 hl c _ hr9) rfl ml_L_46 ii_X5_append is_X5_append dL_append_4 (by decide) rfl (Nat.le_of_ble_eq_true rfl) (fun rv V1 e => ?_) (fun m V1 e => ?_) rfl
  · rcases r with n | q
    · cases e
    · cases e
      have C1 := C.up (by rw [Wp.2.2.1]; exact Wp.2.2.2.2.1) (by rw [Wp.2.2.2.1]; exact Wp.2.2.2.2.2)
      refine j_i2l C1 7 dL_append_7 ?_
      refine j_ost C1 8 dL_append_8 ?_
      refine j_goto C1 9 18 dL_append_9 (by decide) ?_
      refine j_iconst (v := 0) C1 18 dL_append_18 rfl ?_
      exact jw_iret C1 rfl Wp.2.2.1 Wp.2.2.2.1 19 hr rfl rfl dL_append_19
  · rcases r with n | q
    · cases e
      have C1 := C.up (by rw [Wp.2.2.1]; exact Wp.2.2.2.2.1) (by rw [Wp.2.2.2.1]; exact Wp.2.2.2.2.2)
      show JT G 4 (xup X) _ (if n.1 = 2 then some (1, n.2, o) else if n.1 = 3 then some (2, n.2, o) else none) _ 4 _ _ _
      by_cases h2 : n.1 = 2
      · rw [if_pos h2]
        rw [h2]
        refine j_catch C1 Wp.2.1 2 4 [] ⟨0, 9, 12, 15⟩ [⟨0, 9, 15, 17⟩] Wp.1 (fun z hz => nomatch hz) (by decide) rfl (by decide) (fun q9 => ?_)
        refine j_astore_n (L1 := [(3, .ref q9), (0, .ref (G.2.2 0)), (1, .int a1), (2, .ref (G.2.2 120))]) C1 12 rfl dL_append_12 (by decide) rfl ?_
        refine j_iconst (v := 1) C1 13 dL_append_13 rfl ?_
        exact jw_iret C1 rfl Wp.2.2.1 Wp.2.2.2.1 14 hr rfl rfl dL_append_14
      · rw [if_neg h2]
        by_cases h3 : n.1 = 3
        · rw [if_pos h3]
          rw [h3]
          refine j_catch C1 Wp.2.1 3 4 [⟨0, 9, 12, 15⟩] ⟨0, 9, 15, 17⟩ [] Wp.1 (fun z hz => by simp only [List.mem_cons, List.not_mem_nil, or_false] at hz; rcases hz with rfl; exact ⟨by decide, 2, by decide, by decide, by decide, rfl⟩) (by decide) rfl (by decide) (fun q9 => ?_)
          refine j_astore_n (L1 := [(3, .ref q9), (0, .ref (G.2.2 0)), (1, .int a1), (2, .ref (G.2.2 120))]) C1 15 rfl dL_append_15 (by decide) rfl ?_
          refine j_iconst (v := 2) C1 16 dL_append_16 rfl ?_
          exact jw_iret C1 rfl Wp.2.2.1 Wp.2.2.2.1 17 hr rfl rfl dL_append_17
        · rw [if_neg h3]
          exact jt_none
    · cases e
def f_L_run (c : VC) (o : Nat → Int64) : Option (Int32 × VC × (Nat → Int64)) :=
  (f_X5_run c).bind fun r => Sum.elim (fun n : Nat × VC => if n.1 = 2 then some (1, n.2, o) else none) (fun q : Int32 × VC => some (0, q.2, vp_updL o 0 (q.1).toInt64)) r
set_option maxRecDepth 100000 in
set_option maxHeartbeats 4000000 in
theorem c_L_run {G : GG} {l : Launch} {sa : Nat → Nat} (hG : Gok G) (hl : l.stackTraces = false) (c : VC) (mo : VM) (o : Nat → Int64) {x : Int32 × VC × (Nat → Int64)} (hf : f_L_run c o = some x) : CtW l yL_run cL_run 3 (some .int) [(0, 8, 11, 15)] 9 [.ref (G.2.2 0), .ref (G.2.2 120)] G sa (c, (mo, o)) (some (.int x.1)) (x.2.1, (mo, x.2.2)) := by
  refine ctw_of (y := yL_run) (as := [.ref (G.2.2 0), .ref (G.2.2 120)]) (nL := 3) (x := x) (rv := fun x : Int32 × VC × (Nat → Int64) => (some (.int x.1))) (fin := fun x : Int32 × VC × (Nat → Int64) => ((x.2.1, (mo, x.2.2)) : VA)) (own := RL) hG (by decide) rfl (Nat.le_of_ble_eq_true rfl) (fun X C hr Wp hlx => ?_) hf
  subst hlx
  unfold f_L_run
  refine j_aload_n C 0 1 rfl dL_run_0 ?_
  refine j_iconst (v := 0) C 1 dL_run_1 rfl ?_
  refine j_aload_n C 2 0 rfl dL_run_2 ?_
  refine j_bind (fun r hr9 => ?_)
  refine j_vX (As := []) (st := [.int 0, .ref (G.2.2 120)]) C Wp.2.1 (by rw [Wp.2.2.1]; exact Wp.2.2.2.2.1) (by rw [Wp.2.2.2.1]; exact Wp.2.2.2.2.2) k_X5_run 3 (c_X5_run C.2.2.2.2.2.2.1 hl c hr9) rfl ml_L_49 ii_X5_run is_X5_run dL_run_3 (by decide) rfl (Nat.le_of_ble_eq_true rfl) (fun rv V1 e => ?_) (fun m V1 e => ?_) rfl
  · rcases r with n | q
    · cases e
    · cases e
      have C1 := C.up (by rw [Wp.2.2.1]; exact Wp.2.2.2.2.1) (by rw [Wp.2.2.2.1]; exact Wp.2.2.2.2.2)
      refine j_i2l C1 6 dL_run_6 ?_
      refine j_ost C1 7 dL_run_7 ?_
      refine j_goto C1 8 14 dL_run_8 (by decide) ?_
      refine j_iconst (v := 0) C1 14 dL_run_14 rfl ?_
      exact jw_iret C1 rfl Wp.2.2.1 Wp.2.2.2.1 15 hr rfl rfl dL_run_15
  · rcases r with n | q
    · cases e
      have C1 := C.up (by rw [Wp.2.2.1]; exact Wp.2.2.2.2.1) (by rw [Wp.2.2.2.1]; exact Wp.2.2.2.2.2)
      show JT G 3 (xup X) _ (if n.1 = 2 then some (1, n.2, o) else none) _ 3 _ _ _
      by_cases h2 : n.1 = 2
      · rw [if_pos h2]
        rw [h2]
        refine j_catch C1 Wp.2.1 2 3 [] ⟨0, 8, 11, 15⟩ [] Wp.1 (fun z hz => nomatch hz) (by decide) rfl (by decide) (fun q9 => ?_)
        refine j_astore_n (L1 := [(2, .ref q9), (0, .ref (G.2.2 0)), (1, .ref (G.2.2 120))]) C1 11 rfl dL_run_11 (by decide) rfl ?_
        refine j_iconst (v := 1) C1 12 dL_run_12 rfl ?_
        exact jw_iret C1 rfl Wp.2.2.1 Wp.2.2.2.1 13 hr rfl rfl dL_run_13
      · rw [if_neg h2]
        exact jt_none
    · cases e
def f_L_goBack (c : VC) (o : Nat → Int64) : Option (Int32 × VC × (Nat → Int64)) :=
  (f_X5_goBack c).bind fun r => Sum.elim (fun n : Nat × VC => if n.1 = 3 then some (1, n.2, o) else none) (fun q : Int32 × VC => some (0, q.2, vp_updL o 0 (q.1).toInt64)) r
set_option maxRecDepth 100000 in
set_option maxHeartbeats 4000000 in
theorem c_L_goBack {G : GG} {l : Launch} {sa : Nat → Nat} (hG : Gok G) (hl : l.stackTraces = false) (c : VC) (mo : VM) (o : Nat → Int64) {x : Int32 × VC × (Nat → Int64)} (hf : f_L_goBack c o = some x) : CtW l yL_goBack cL_goBack 3 (some .int) [(0, 8, 11, 17)] 9 [.ref (G.2.2 0), .ref (G.2.2 120)] G sa (c, (mo, o)) (some (.int x.1)) (x.2.1, (mo, x.2.2)) := by
  refine ctw_of (y := yL_goBack) (as := [.ref (G.2.2 0), .ref (G.2.2 120)]) (nL := 3) (x := x) (rv := fun x : Int32 × VC × (Nat → Int64) => (some (.int x.1))) (fin := fun x : Int32 × VC × (Nat → Int64) => ((x.2.1, (mo, x.2.2)) : VA)) (own := RL) hG (by decide) rfl (Nat.le_of_ble_eq_true rfl) (fun X C hr Wp hlx => ?_) hf
  subst hlx
  unfold f_L_goBack
  refine j_aload_n C 0 1 rfl dL_goBack_0 ?_
  refine j_iconst (v := 0) C 1 dL_goBack_1 rfl ?_
  refine j_aload_n C 2 0 rfl dL_goBack_2 ?_
  refine j_bind (fun r hr9 => ?_)
  refine j_vX (As := []) (st := [.int 0, .ref (G.2.2 120)]) C Wp.2.1 (by rw [Wp.2.2.1]; exact Wp.2.2.2.2.1) (by rw [Wp.2.2.2.1]; exact Wp.2.2.2.2.2) k_X5_goBack 3 (c_X5_goBack C.2.2.2.2.2.2.1 hl c hr9) rfl ml_L_52 ii_X5_goBack is_X5_goBack dL_goBack_3 (by decide) rfl (Nat.le_of_ble_eq_true rfl) (fun rv V1 e => ?_) (fun m V1 e => ?_) rfl
  · rcases r with n | q
    · cases e
    · cases e
      have C1 := C.up (by rw [Wp.2.2.1]; exact Wp.2.2.2.2.1) (by rw [Wp.2.2.2.1]; exact Wp.2.2.2.2.2)
      refine j_i2l C1 6 dL_goBack_6 ?_
      refine j_ost C1 7 dL_goBack_7 ?_
      refine j_goto C1 8 14 dL_goBack_8 (by decide) ?_
      refine j_iconst (v := 0) C1 14 dL_goBack_14 rfl ?_
      exact jw_iret C1 rfl Wp.2.2.1 Wp.2.2.2.1 15 hr rfl rfl dL_goBack_15
  · rcases r with n | q
    · cases e
      have C1 := C.up (by rw [Wp.2.2.1]; exact Wp.2.2.2.2.1) (by rw [Wp.2.2.2.1]; exact Wp.2.2.2.2.2)
      show JT G 3 (xup X) _ (if n.1 = 3 then some (1, n.2, o) else none) _ 3 _ _ _
      by_cases h3 : n.1 = 3
      · rw [if_pos h3]
        rw [h3]
        refine j_catch C1 Wp.2.1 3 3 [] ⟨0, 8, 11, 17⟩ [] Wp.1 (fun z hz => nomatch hz) (by decide) rfl (by decide) (fun q9 => ?_)
        refine j_astore_n (L1 := [(2, .ref q9), (0, .ref (G.2.2 0)), (1, .ref (G.2.2 120))]) C1 11 rfl dL_goBack_11 (by decide) rfl ?_
        refine j_iconst (v := 1) C1 12 dL_goBack_12 rfl ?_
        exact jw_iret C1 rfl Wp.2.2.1 Wp.2.2.2.1 13 hr rfl rfl dL_goBack_13
      · rw [if_neg h3]
        exact jt_none
    · cases e
def f_L_undo (c : VC) (o : Nat → Int64) : Option (Int32 × VC × (Nat → Int64)) :=
  (f_X5_undo c).bind fun r => Sum.elim (fun n : Nat × VC => if n.1 = 3 then some (1, n.2, o) else none) (fun q : Int32 × VC => some (0, q.2, vp_updL o 0 (q.1).toInt64)) r
set_option maxRecDepth 100000 in
set_option maxHeartbeats 4000000 in
theorem c_L_undo {G : GG} {l : Launch} {sa : Nat → Nat} (hG : Gok G) (hl : l.stackTraces = false) (c : VC) (mo : VM) (o : Nat → Int64) {x : Int32 × VC × (Nat → Int64)} (hf : f_L_undo c o = some x) : CtW l yL_undo cL_undo 3 (some .int) [(0, 8, 11, 17)] 9 [.ref (G.2.2 0), .ref (G.2.2 120)] G sa (c, (mo, o)) (some (.int x.1)) (x.2.1, (mo, x.2.2)) := by
  refine ctw_of (y := yL_undo) (as := [.ref (G.2.2 0), .ref (G.2.2 120)]) (nL := 3) (x := x) (rv := fun x : Int32 × VC × (Nat → Int64) => (some (.int x.1))) (fin := fun x : Int32 × VC × (Nat → Int64) => ((x.2.1, (mo, x.2.2)) : VA)) (own := RL) hG (by decide) rfl (Nat.le_of_ble_eq_true rfl) (fun X C hr Wp hlx => ?_) hf
  subst hlx
  unfold f_L_undo
  refine j_aload_n C 0 1 rfl dL_undo_0 ?_
  refine j_iconst (v := 0) C 1 dL_undo_1 rfl ?_
  refine j_aload_n C 2 0 rfl dL_undo_2 ?_
  refine j_bind (fun r hr9 => ?_)
  refine j_vX (As := []) (st := [.int 0, .ref (G.2.2 120)]) C Wp.2.1 (by rw [Wp.2.2.1]; exact Wp.2.2.2.2.1) (by rw [Wp.2.2.2.1]; exact Wp.2.2.2.2.2) k_X5_undo 3 (c_X5_undo C.2.2.2.2.2.2.1 hl c hr9) rfl ml_L_55 ii_X5_undo is_X5_undo dL_undo_3 (by decide) rfl (Nat.le_of_ble_eq_true rfl) (fun rv V1 e => ?_) (fun m V1 e => ?_) rfl
  · rcases r with n | q
    · cases e
    · cases e
      have C1 := C.up (by rw [Wp.2.2.1]; exact Wp.2.2.2.2.1) (by rw [Wp.2.2.2.1]; exact Wp.2.2.2.2.2)
      refine j_i2l C1 6 dL_undo_6 ?_
      refine j_ost C1 7 dL_undo_7 ?_
      refine j_goto C1 8 14 dL_undo_8 (by decide) ?_
      refine j_iconst (v := 0) C1 14 dL_undo_14 rfl ?_
      exact jw_iret C1 rfl Wp.2.2.1 Wp.2.2.2.1 15 hr rfl rfl dL_undo_15
  · rcases r with n | q
    · cases e
      have C1 := C.up (by rw [Wp.2.2.1]; exact Wp.2.2.2.2.1) (by rw [Wp.2.2.2.1]; exact Wp.2.2.2.2.2)
      show JT G 3 (xup X) _ (if n.1 = 3 then some (1, n.2, o) else none) _ 3 _ _ _
      by_cases h3 : n.1 = 3
      · rw [if_pos h3]
        rw [h3]
        refine j_catch C1 Wp.2.1 3 3 [] ⟨0, 8, 11, 17⟩ [] Wp.1 (fun z hz => nomatch hz) (by decide) rfl (by decide) (fun q9 => ?_)
        refine j_astore_n (L1 := [(2, .ref q9), (0, .ref (G.2.2 0)), (1, .ref (G.2.2 120))]) C1 11 rfl dL_undo_11 (by decide) rfl ?_
        refine j_iconst (v := 1) C1 12 dL_undo_12 rfl ?_
        exact jw_iret C1 rfl Wp.2.2.1 Wp.2.2.2.1 13 hr rfl rfl dL_undo_13
      · rw [if_neg h3]
        exact jt_none
    · cases e
def f_L_slot (c : VC) (o : Nat → Int64) (a1 : Int32) (a2 : Int32) : Option (Int32 × VC × (Nat → Int64)) :=
  (f_X5_slot c a1 a2).bind fun r => Sum.elim (fun n : Nat => if n = 1 then some (1, c, o) else if n = 2 then some (2, c, o) else none) (fun q : Int32 => some (0, c, vp_updL o 0 (q).toInt64)) r
set_option maxRecDepth 100000 in
set_option maxHeartbeats 4000000 in
theorem c_L_slot {G : GG} {l : Launch} {sa : Nat → Nat} (hG : Gok G) (hl : l.stackTraces = false) (c : VC) (mo : VM) (o : Nat → Int64) (a1 : Int32) (a2 : Int32) {x : Int32 × VC × (Nat → Int64)} (hf : f_L_slot c o a1 a2 = some x) : CtW l yL_slot cL_slot 5 (some .int) [(0, 10, 13, 13), (0, 10, 17, 15)] 9 [.ref (G.2.2 0), .int a1, .int a2, .ref (G.2.2 120)] G sa (c, (mo, o)) (some (.int x.1)) (x.2.1, (mo, x.2.2)) := by
  refine ctw_of (y := yL_slot) (as := [.ref (G.2.2 0), .int a1, .int a2, .ref (G.2.2 120)]) (nL := 5) (x := x) (rv := fun x : Int32 × VC × (Nat → Int64) => (some (.int x.1))) (fin := fun x : Int32 × VC × (Nat → Int64) => ((x.2.1, (mo, x.2.2)) : VA)) (own := RL) hG (by decide) rfl (Nat.le_of_ble_eq_true rfl) (fun X C hr Wp hlx => ?_) hf
  subst hlx
  unfold f_L_slot
  refine j_aload_n C 0 3 rfl dL_slot_0 ?_
  refine j_iconst (v := 0) C 1 dL_slot_1 rfl ?_
  refine j_aload_n C 2 0 rfl dL_slot_2 ?_
  refine j_iload_n C 3 1 rfl dL_slot_3 ?_
  refine j_iload_n C 4 2 rfl dL_slot_4 ?_
  refine j_bind (fun r hr9 => ?_)
  refine j_vX (As := [.int a1, .int a2]) (st := [.int 0, .ref (G.2.2 120)]) C Wp.2.1 (by rw [Wp.2.2.1]; exact Wp.2.2.2.2.1) (by rw [Wp.2.2.2.1]; exact Wp.2.2.2.2.2) k_X5_slot 5 (c_X5_slot C.2.2.2.2.2.2.1 hl c _ _ hr9) rfl ml_L_58 ii_X5_slot is_X5_slot dL_slot_5 (by decide) rfl (Nat.le_of_ble_eq_true rfl) (fun rv V1 e => ?_) (fun m V1 e => ?_) rfl
  · rcases r with n | q
    · cases e
    · cases e
      have C1 := C.up (by rw [Wp.2.2.1]; exact Wp.2.2.2.2.1) (by rw [Wp.2.2.2.1]; exact Wp.2.2.2.2.2)
      refine j_i2l C1 8 dL_slot_8 ?_
      refine j_ost C1 9 dL_slot_9 ?_
      refine j_goto C1 10 21 dL_slot_10 (by decide) ?_
      refine j_iconst (v := 0) C1 21 dL_slot_21 rfl ?_
      exact jw_iret C1 rfl Wp.2.2.1 Wp.2.2.2.1 22 hr rfl rfl dL_slot_22
  · rcases r with n | q
    · cases e
      have C1 := C.up (by rw [Wp.2.2.1]; exact Wp.2.2.2.2.1) (by rw [Wp.2.2.2.1]; exact Wp.2.2.2.2.2)
      show JT G 5 (xup X) _ (if m = 1 then some (1, c, o) else if m = 2 then some (2, c, o) else none) _ 5 _ _ _
      by_cases h1 : m = 1
      · rw [if_pos h1]
        rw [h1]
        refine j_catch C1 Wp.2.1 1 5 [] ⟨0, 10, 13, 13⟩ [⟨0, 10, 17, 15⟩] Wp.1 (fun z hz => nomatch hz) (by decide) rfl (by decide) (fun q9 => ?_)
        refine j_astore (L1 := [(4, .ref q9), (0, .ref (G.2.2 0)), (1, .int a1), (2, .int a2), (3, .ref (G.2.2 120))]) C1 13 dL_slot_13 (by decide) rfl ?_
        refine j_iconst (v := 1) C1 15 dL_slot_15 rfl ?_
        exact jw_iret C1 rfl Wp.2.2.1 Wp.2.2.2.1 16 hr rfl rfl dL_slot_16
      · rw [if_neg h1]
        by_cases h2 : m = 2
        · rw [if_pos h2]
          rw [h2]
          refine j_catch C1 Wp.2.1 2 5 [⟨0, 10, 13, 13⟩] ⟨0, 10, 17, 15⟩ [] Wp.1 (fun z hz => by simp only [List.mem_cons, List.not_mem_nil, or_false] at hz; rcases hz with rfl; exact ⟨by decide, 1, by decide, by decide, by decide, rfl⟩) (by decide) rfl (by decide) (fun q9 => ?_)
          refine j_astore (L1 := [(4, .ref q9), (0, .ref (G.2.2 0)), (1, .int a1), (2, .int a2), (3, .ref (G.2.2 120))]) C1 17 dL_slot_17 (by decide) rfl ?_
          refine j_iconst (v := 2) C1 19 dL_slot_19 rfl ?_
          exact jw_iret C1 rfl Wp.2.2.1 Wp.2.2.2.1 20 hr rfl rfl dL_slot_20
        · rw [if_neg h2]
          exact jt_none
    · cases e
def f_L_where (c : VC) (o : Nat → Int64) (a1 : Int32) (a2 : Int32) : Option (Int32 × VC × (Nat → Int64)) :=
  (f_X5_where c a1 a2).bind fun r => Sum.elim (fun n : Nat => if n = 1 then some (1, c, o) else if n = 2 then some (2, c, o) else none) (fun q : Int32 => some (0, c, vp_updL o 0 (q).toInt64)) r
set_option maxRecDepth 100000 in
set_option maxHeartbeats 4000000 in
theorem c_L_where {G : GG} {l : Launch} {sa : Nat → Nat} (hG : Gok G) (hl : l.stackTraces = false) (c : VC) (mo : VM) (o : Nat → Int64) (a1 : Int32) (a2 : Int32) {x : Int32 × VC × (Nat → Int64)} (hf : f_L_where c o a1 a2 = some x) : CtW l yL_where cL_where 5 (some .int) [(0, 10, 13, 13), (0, 10, 17, 15)] 9 [.ref (G.2.2 0), .int a1, .int a2, .ref (G.2.2 120)] G sa (c, (mo, o)) (some (.int x.1)) (x.2.1, (mo, x.2.2)) := by
  refine ctw_of (y := yL_where) (as := [.ref (G.2.2 0), .int a1, .int a2, .ref (G.2.2 120)]) (nL := 5) (x := x) (rv := fun x : Int32 × VC × (Nat → Int64) => (some (.int x.1))) (fin := fun x : Int32 × VC × (Nat → Int64) => ((x.2.1, (mo, x.2.2)) : VA)) (own := RL) hG (by decide) rfl (Nat.le_of_ble_eq_true rfl) (fun X C hr Wp hlx => ?_) hf
  subst hlx
  unfold f_L_where
  refine j_aload_n C 0 3 rfl dL_where_0 ?_
  refine j_iconst (v := 0) C 1 dL_where_1 rfl ?_
  refine j_aload_n C 2 0 rfl dL_where_2 ?_
  refine j_iload_n C 3 1 rfl dL_where_3 ?_
  refine j_iload_n C 4 2 rfl dL_where_4 ?_
  refine j_bind (fun r hr9 => ?_)
  refine j_vX (As := [.int a1, .int a2]) (st := [.int 0, .ref (G.2.2 120)]) C Wp.2.1 (by rw [Wp.2.2.1]; exact Wp.2.2.2.2.1) (by rw [Wp.2.2.2.1]; exact Wp.2.2.2.2.2) k_X5_where 5 (c_X5_where C.2.2.2.2.2.2.1 hl c _ _ hr9) rfl ml_L_61 ii_X5_where is_X5_where dL_where_5 (by decide) rfl (Nat.le_of_ble_eq_true rfl) (fun rv V1 e => ?_) (fun m V1 e => ?_) rfl
  · rcases r with n | q
    · cases e
    · cases e
      have C1 := C.up (by rw [Wp.2.2.1]; exact Wp.2.2.2.2.1) (by rw [Wp.2.2.2.1]; exact Wp.2.2.2.2.2)
      refine j_i2l C1 8 dL_where_8 ?_
      refine j_ost C1 9 dL_where_9 ?_
      refine j_goto C1 10 21 dL_where_10 (by decide) ?_
      refine j_iconst (v := 0) C1 21 dL_where_21 rfl ?_
      exact jw_iret C1 rfl Wp.2.2.1 Wp.2.2.2.1 22 hr rfl rfl dL_where_22
  · rcases r with n | q
    · cases e
      have C1 := C.up (by rw [Wp.2.2.1]; exact Wp.2.2.2.2.1) (by rw [Wp.2.2.2.1]; exact Wp.2.2.2.2.2)
      show JT G 5 (xup X) _ (if m = 1 then some (1, c, o) else if m = 2 then some (2, c, o) else none) _ 5 _ _ _
      by_cases h1 : m = 1
      · rw [if_pos h1]
        rw [h1]
        refine j_catch C1 Wp.2.1 1 5 [] ⟨0, 10, 13, 13⟩ [⟨0, 10, 17, 15⟩] Wp.1 (fun z hz => nomatch hz) (by decide) rfl (by decide) (fun q9 => ?_)
        refine j_astore (L1 := [(4, .ref q9), (0, .ref (G.2.2 0)), (1, .int a1), (2, .int a2), (3, .ref (G.2.2 120))]) C1 13 dL_where_13 (by decide) rfl ?_
        refine j_iconst (v := 1) C1 15 dL_where_15 rfl ?_
        exact jw_iret C1 rfl Wp.2.2.1 Wp.2.2.2.1 16 hr rfl rfl dL_where_16
      · rw [if_neg h1]
        by_cases h2 : m = 2
        · rw [if_pos h2]
          rw [h2]
          refine j_catch C1 Wp.2.1 2 5 [⟨0, 10, 13, 13⟩] ⟨0, 10, 17, 15⟩ [] Wp.1 (fun z hz => by simp only [List.mem_cons, List.not_mem_nil, or_false] at hz; rcases hz with rfl; exact ⟨by decide, 1, by decide, by decide, by decide, rfl⟩) (by decide) rfl (by decide) (fun q9 => ?_)
          refine j_astore (L1 := [(4, .ref q9), (0, .ref (G.2.2 0)), (1, .int a1), (2, .int a2), (3, .ref (G.2.2 120))]) C1 17 dL_where_17 (by decide) rfl ?_
          refine j_iconst (v := 2) C1 19 dL_where_19 rfl ?_
          exact jw_iret C1 rfl Wp.2.2.1 Wp.2.2.2.1 20 hr rfl rfl dL_where_20
        · rw [if_neg h2]
          exact jt_none
    · cases e
def f_L_lies (c : VC) (o : Nat → Int64) (a1 : Int32) (a2 : Int32) : Option (Int32 × VC × (Nat → Int64)) :=
  (f_X5_lies c a1 a2).bind fun r => Sum.elim (fun n : Nat => if n = 1 then some (1, c, o) else none) (fun q : Int32 => some (0, c, vp_updL o 0 (q).toInt64)) r
set_option maxRecDepth 100000 in
set_option maxHeartbeats 4000000 in
theorem c_L_lies {G : GG} {l : Launch} {sa : Nat → Nat} (hG : Gok G) (hl : l.stackTraces = false) (c : VC) (mo : VM) (o : Nat → Int64) (a1 : Int32) (a2 : Int32) {x : Int32 × VC × (Nat → Int64)} (hf : f_L_lies c o a1 a2 = some x) : CtW l yL_lies cL_lies 5 (some .int) [(0, 10, 13, 13)] 9 [.ref (G.2.2 0), .int a1, .int a2, .ref (G.2.2 120)] G sa (c, (mo, o)) (some (.int x.1)) (x.2.1, (mo, x.2.2)) := by
  refine ctw_of (y := yL_lies) (as := [.ref (G.2.2 0), .int a1, .int a2, .ref (G.2.2 120)]) (nL := 5) (x := x) (rv := fun x : Int32 × VC × (Nat → Int64) => (some (.int x.1))) (fin := fun x : Int32 × VC × (Nat → Int64) => ((x.2.1, (mo, x.2.2)) : VA)) (own := RL) hG (by decide) rfl (Nat.le_of_ble_eq_true rfl) (fun X C hr Wp hlx => ?_) hf
  subst hlx
  unfold f_L_lies
  refine j_aload_n C 0 3 rfl dL_lies_0 ?_
  refine j_iconst (v := 0) C 1 dL_lies_1 rfl ?_
  refine j_aload_n C 2 0 rfl dL_lies_2 ?_
  refine j_iload_n C 3 1 rfl dL_lies_3 ?_
  refine j_iload_n C 4 2 rfl dL_lies_4 ?_
  refine j_bind (fun r hr9 => ?_)
  refine j_vX (As := [.int a1, .int a2]) (st := [.int 0, .ref (G.2.2 120)]) C Wp.2.1 (by rw [Wp.2.2.1]; exact Wp.2.2.2.2.1) (by rw [Wp.2.2.2.1]; exact Wp.2.2.2.2.2) k_X5_lies 5 (c_X5_lies C.2.2.2.2.2.2.1 hl c _ _ hr9) rfl ml_L_64 ii_X5_lies is_X5_lies dL_lies_5 (by decide) rfl (Nat.le_of_ble_eq_true rfl) (fun rv V1 e => ?_) (fun m V1 e => ?_) rfl
  · rcases r with n | q
    · cases e
    · cases e
      have C1 := C.up (by rw [Wp.2.2.1]; exact Wp.2.2.2.2.1) (by rw [Wp.2.2.2.1]; exact Wp.2.2.2.2.2)
      refine j_i2l C1 8 dL_lies_8 ?_
      refine j_ost C1 9 dL_lies_9 ?_
      refine j_goto C1 10 17 dL_lies_10 (by decide) ?_
      refine j_iconst (v := 0) C1 17 dL_lies_17 rfl ?_
      exact jw_iret C1 rfl Wp.2.2.1 Wp.2.2.2.1 18 hr rfl rfl dL_lies_18
  · rcases r with n | q
    · cases e
      have C1 := C.up (by rw [Wp.2.2.1]; exact Wp.2.2.2.2.1) (by rw [Wp.2.2.2.1]; exact Wp.2.2.2.2.2)
      show JT G 5 (xup X) _ (if m = 1 then some (1, c, o) else none) _ 5 _ _ _
      by_cases h1 : m = 1
      · rw [if_pos h1]
        rw [h1]
        refine j_catch C1 Wp.2.1 1 5 [] ⟨0, 10, 13, 13⟩ [] Wp.1 (fun z hz => nomatch hz) (by decide) rfl (by decide) (fun q9 => ?_)
        refine j_astore (L1 := [(4, .ref q9), (0, .ref (G.2.2 0)), (1, .int a1), (2, .int a2), (3, .ref (G.2.2 120))]) C1 13 dL_lies_13 (by decide) rfl ?_
        refine j_iconst (v := 1) C1 15 dL_lies_15 rfl ?_
        exact jw_iret C1 rfl Wp.2.2.1 Wp.2.2.2.1 16 hr rfl rfl dL_lies_16
      · rw [if_neg h1]
        exact jt_none
    · cases e
def f_L_count (c : VC) (o : Nat → Int64) (a1 : Int32) : Option (Int32 × VC × (Nat → Int64)) :=
  (f_X5_count c a1).bind fun r => Sum.elim (fun n : Nat => if n = 2 then some (1, c, o) else none) (fun q : Int32 => some (0, c, vp_updL o 0 (q).toInt64)) r
set_option maxRecDepth 100000 in
set_option maxHeartbeats 4000000 in
theorem c_L_count {G : GG} {l : Launch} {sa : Nat → Nat} (hG : Gok G) (hl : l.stackTraces = false) (c : VC) (mo : VM) (o : Nat → Int64) (a1 : Int32) {x : Int32 × VC × (Nat → Int64)} (hf : f_L_count c o a1 = some x) : CtW l yL_count cL_count 4 (some .int) [(0, 9, 12, 15)] 9 [.ref (G.2.2 0), .int a1, .ref (G.2.2 120)] G sa (c, (mo, o)) (some (.int x.1)) (x.2.1, (mo, x.2.2)) := by
  refine ctw_of (y := yL_count) (as := [.ref (G.2.2 0), .int a1, .ref (G.2.2 120)]) (nL := 4) (x := x) (rv := fun x : Int32 × VC × (Nat → Int64) => (some (.int x.1))) (fin := fun x : Int32 × VC × (Nat → Int64) => ((x.2.1, (mo, x.2.2)) : VA)) (own := RL) hG (by decide) rfl (Nat.le_of_ble_eq_true rfl) (fun X C hr Wp hlx => ?_) hf
  subst hlx
  unfold f_L_count
  refine j_aload_n C 0 2 rfl dL_count_0 ?_
  refine j_iconst (v := 0) C 1 dL_count_1 rfl ?_
  refine j_aload_n C 2 0 rfl dL_count_2 ?_
  refine j_iload_n C 3 1 rfl dL_count_3 ?_
  refine j_bind (fun r hr9 => ?_)
  refine j_vX (As := [.int a1]) (st := [.int 0, .ref (G.2.2 120)]) C Wp.2.1 (by rw [Wp.2.2.1]; exact Wp.2.2.2.2.1) (by rw [Wp.2.2.2.1]; exact Wp.2.2.2.2.2) k_X5_count 4 (c_X5_count C.2.2.2.2.2.2.1 hl c _ hr9) rfl ml_L_67 ii_X5_count is_X5_count dL_count_4 (by decide) rfl (Nat.le_of_ble_eq_true rfl) (fun rv V1 e => ?_) (fun m V1 e => ?_) rfl
  · rcases r with n | q
    · cases e
    · cases e
      have C1 := C.up (by rw [Wp.2.2.1]; exact Wp.2.2.2.2.1) (by rw [Wp.2.2.2.1]; exact Wp.2.2.2.2.2)
      refine j_i2l C1 7 dL_count_7 ?_
      refine j_ost C1 8 dL_count_8 ?_
      refine j_goto C1 9 15 dL_count_9 (by decide) ?_
      refine j_iconst (v := 0) C1 15 dL_count_15 rfl ?_
      exact jw_iret C1 rfl Wp.2.2.1 Wp.2.2.2.1 16 hr rfl rfl dL_count_16
  · rcases r with n | q
    · cases e
      have C1 := C.up (by rw [Wp.2.2.1]; exact Wp.2.2.2.2.1) (by rw [Wp.2.2.2.1]; exact Wp.2.2.2.2.2)
      show JT G 4 (xup X) _ (if m = 2 then some (1, c, o) else none) _ 4 _ _ _
      by_cases h2 : m = 2
      · rw [if_pos h2]
        rw [h2]
        refine j_catch C1 Wp.2.1 2 4 [] ⟨0, 9, 12, 15⟩ [] Wp.1 (fun z hz => nomatch hz) (by decide) rfl (by decide) (fun q9 => ?_)
        refine j_astore_n (L1 := [(3, .ref q9), (0, .ref (G.2.2 0)), (1, .int a1), (2, .ref (G.2.2 120))]) C1 12 rfl dL_count_12 (by decide) rfl ?_
        refine j_iconst (v := 1) C1 13 dL_count_13 rfl ?_
        exact jw_iret C1 rfl Wp.2.2.1 Wp.2.2.2.1 14 hr rfl rfl dL_count_14
      · rw [if_neg h2]
        exact jt_none
    · cases e
def f_L_setting (c : VC) (o : Nat → Int64) (a1 : Int32) : Option (Int32 × VC × (Nat → Int64)) :=
  (f_X5_setting c a1).bind fun r => Sum.elim (fun n : Nat => if n = 1 then some (1, c, o) else none) (fun q : Int32 => some (0, c, vp_updL o 0 (q).toInt64)) r
set_option maxRecDepth 100000 in
set_option maxHeartbeats 4000000 in
theorem c_L_setting {G : GG} {l : Launch} {sa : Nat → Nat} (hG : Gok G) (hl : l.stackTraces = false) (c : VC) (mo : VM) (o : Nat → Int64) (a1 : Int32) {x : Int32 × VC × (Nat → Int64)} (hf : f_L_setting c o a1 = some x) : CtW l yL_setting cL_setting 4 (some .int) [(0, 9, 12, 13)] 9 [.ref (G.2.2 0), .int a1, .ref (G.2.2 120)] G sa (c, (mo, o)) (some (.int x.1)) (x.2.1, (mo, x.2.2)) := by
  refine ctw_of (y := yL_setting) (as := [.ref (G.2.2 0), .int a1, .ref (G.2.2 120)]) (nL := 4) (x := x) (rv := fun x : Int32 × VC × (Nat → Int64) => (some (.int x.1))) (fin := fun x : Int32 × VC × (Nat → Int64) => ((x.2.1, (mo, x.2.2)) : VA)) (own := RL) hG (by decide) rfl (Nat.le_of_ble_eq_true rfl) (fun X C hr Wp hlx => ?_) hf
  subst hlx
  unfold f_L_setting
  refine j_aload_n C 0 2 rfl dL_setting_0 ?_
  refine j_iconst (v := 0) C 1 dL_setting_1 rfl ?_
  refine j_aload_n C 2 0 rfl dL_setting_2 ?_
  refine j_iload_n C 3 1 rfl dL_setting_3 ?_
  refine j_bind (fun r hr9 => ?_)
  refine j_vX (As := [.int a1]) (st := [.int 0, .ref (G.2.2 120)]) C Wp.2.1 (by rw [Wp.2.2.1]; exact Wp.2.2.2.2.1) (by rw [Wp.2.2.2.1]; exact Wp.2.2.2.2.2) k_X5_setting 4 (c_X5_setting C.2.2.2.2.2.2.1 hl c _ hr9) rfl ml_L_70 ii_X5_setting is_X5_setting dL_setting_4 (by decide) rfl (Nat.le_of_ble_eq_true rfl) (fun rv V1 e => ?_) (fun m V1 e => ?_) rfl
  · rcases r with n | q
    · cases e
    · cases e
      have C1 := C.up (by rw [Wp.2.2.1]; exact Wp.2.2.2.2.1) (by rw [Wp.2.2.2.1]; exact Wp.2.2.2.2.2)
      refine j_i2l C1 7 dL_setting_7 ?_
      refine j_ost C1 8 dL_setting_8 ?_
      refine j_goto C1 9 15 dL_setting_9 (by decide) ?_
      refine j_iconst (v := 0) C1 15 dL_setting_15 rfl ?_
      exact jw_iret C1 rfl Wp.2.2.1 Wp.2.2.2.1 16 hr rfl rfl dL_setting_16
  · rcases r with n | q
    · cases e
      have C1 := C.up (by rw [Wp.2.2.1]; exact Wp.2.2.2.2.1) (by rw [Wp.2.2.2.1]; exact Wp.2.2.2.2.2)
      show JT G 4 (xup X) _ (if m = 1 then some (1, c, o) else none) _ 4 _ _ _
      by_cases h1 : m = 1
      · rw [if_pos h1]
        rw [h1]
        refine j_catch C1 Wp.2.1 1 4 [] ⟨0, 9, 12, 13⟩ [] Wp.1 (fun z hz => nomatch hz) (by decide) rfl (by decide) (fun q9 => ?_)
        refine j_astore_n (L1 := [(3, .ref q9), (0, .ref (G.2.2 0)), (1, .int a1), (2, .ref (G.2.2 120))]) C1 12 rfl dL_setting_12 (by decide) rfl ?_
        refine j_iconst (v := 1) C1 13 dL_setting_13 rfl ?_
        exact jw_iret C1 rfl Wp.2.2.1 Wp.2.2.2.1 14 hr rfl rfl dL_setting_14
      · rw [if_neg h1]
        exact jt_none
    · cases e
def f_L_sweep (c : VC) (o : Nat → Int64) (a1 : Int32) : Option (Int32 × VC × (Nat → Int64)) :=
  (f_X5_sweep c a1).bind fun r => Sum.elim (fun n : Nat × VC => if n.1 = 2 then some (1, n.2, o) else none) (fun q : Int32 × VC => some (0, q.2, vp_updL o 0 (q.1).toInt64)) r
set_option maxRecDepth 100000 in
set_option maxHeartbeats 4000000 in
theorem c_L_sweep {G : GG} {l : Launch} {sa : Nat → Nat} (hG : Gok G) (hl : l.stackTraces = false) (c : VC) (mo : VM) (o : Nat → Int64) (a1 : Int32) {x : Int32 × VC × (Nat → Int64)} (hf : f_L_sweep c o a1 = some x) : CtW l yL_sweep cL_sweep 4 (some .int) [(0, 9, 12, 15)] 9 [.ref (G.2.2 0), .int a1, .ref (G.2.2 120)] G sa (c, (mo, o)) (some (.int x.1)) (x.2.1, (mo, x.2.2)) := by
  refine ctw_of (y := yL_sweep) (as := [.ref (G.2.2 0), .int a1, .ref (G.2.2 120)]) (nL := 4) (x := x) (rv := fun x : Int32 × VC × (Nat → Int64) => (some (.int x.1))) (fin := fun x : Int32 × VC × (Nat → Int64) => ((x.2.1, (mo, x.2.2)) : VA)) (own := RL) hG (by decide) rfl (Nat.le_of_ble_eq_true rfl) (fun X C hr Wp hlx => ?_) hf
  subst hlx
  unfold f_L_sweep
  refine j_aload_n C 0 2 rfl dL_sweep_0 ?_
  refine j_iconst (v := 0) C 1 dL_sweep_1 rfl ?_
  refine j_aload_n C 2 0 rfl dL_sweep_2 ?_
  refine j_iload_n C 3 1 rfl dL_sweep_3 ?_
  refine j_bind (fun r hr9 => ?_)
  refine j_vX (As := [.int a1]) (st := [.int 0, .ref (G.2.2 120)]) C Wp.2.1 (by rw [Wp.2.2.1]; exact Wp.2.2.2.2.1) (by rw [Wp.2.2.2.1]; exact Wp.2.2.2.2.2) k_X5_sweep 4 (c_X5_sweep C.2.2.2.2.2.2.1 hl c _ hr9) rfl ml_L_73 ii_X5_sweep is_X5_sweep dL_sweep_4 (by decide) rfl (Nat.le_of_ble_eq_true rfl) (fun rv V1 e => ?_) (fun m V1 e => ?_) rfl
  · rcases r with n | q
    · cases e
    · cases e
      have C1 := C.up (by rw [Wp.2.2.1]; exact Wp.2.2.2.2.1) (by rw [Wp.2.2.2.1]; exact Wp.2.2.2.2.2)
      refine j_i2l C1 7 dL_sweep_7 ?_
      refine j_ost C1 8 dL_sweep_8 ?_
      refine j_goto C1 9 15 dL_sweep_9 (by decide) ?_
      refine j_iconst (v := 0) C1 15 dL_sweep_15 rfl ?_
      exact jw_iret C1 rfl Wp.2.2.1 Wp.2.2.2.1 16 hr rfl rfl dL_sweep_16
  · rcases r with n | q
    · cases e
      have C1 := C.up (by rw [Wp.2.2.1]; exact Wp.2.2.2.2.1) (by rw [Wp.2.2.2.1]; exact Wp.2.2.2.2.2)
      show JT G 4 (xup X) _ (if n.1 = 2 then some (1, n.2, o) else none) _ 4 _ _ _
      by_cases h2 : n.1 = 2
      · rw [if_pos h2]
        rw [h2]
        refine j_catch C1 Wp.2.1 2 4 [] ⟨0, 9, 12, 15⟩ [] Wp.1 (fun z hz => nomatch hz) (by decide) rfl (by decide) (fun q9 => ?_)
        refine j_astore_n (L1 := [(3, .ref q9), (0, .ref (G.2.2 0)), (1, .int a1), (2, .ref (G.2.2 120))]) C1 12 rfl dL_sweep_12 (by decide) rfl ?_
        refine j_iconst (v := 1) C1 13 dL_sweep_13 rfl ?_
        exact jw_iret C1 rfl Wp.2.2.1 Wp.2.2.2.1 14 hr rfl rfl dL_sweep_14
      · rw [if_neg h2]
        exact jt_none
    · cases e
def f_L_ifStarted (c : VC) (o : Nat → Int64) (a1 : Int32) (a2 : Int32) : Option (Int32 × VC × (Nat → Int64)) :=
  (f_X5_ifStarted c a1 a2).bind fun r => Sum.elim (fun n : Nat × VC => if n.1 = 2 then some (1, n.2, o) else none) (fun q : Int32 × VC => some (0, q.2, vp_updL o 0 (q.1).toInt64)) r
set_option maxRecDepth 100000 in
set_option maxHeartbeats 4000000 in
theorem c_L_ifStarted {G : GG} {l : Launch} {sa : Nat → Nat} (hG : Gok G) (hl : l.stackTraces = false) (c : VC) (mo : VM) (o : Nat → Int64) (a1 : Int32) (a2 : Int32) {x : Int32 × VC × (Nat → Int64)} (hf : f_L_ifStarted c o a1 a2 = some x) : CtW l yL_ifStarted cL_ifStarted 5 (some .int) [(0, 10, 13, 15)] 9 [.ref (G.2.2 0), .int a1, .int a2, .ref (G.2.2 120)] G sa (c, (mo, o)) (some (.int x.1)) (x.2.1, (mo, x.2.2)) := by
  refine ctw_of (y := yL_ifStarted) (as := [.ref (G.2.2 0), .int a1, .int a2, .ref (G.2.2 120)]) (nL := 5) (x := x) (rv := fun x : Int32 × VC × (Nat → Int64) => (some (.int x.1))) (fin := fun x : Int32 × VC × (Nat → Int64) => ((x.2.1, (mo, x.2.2)) : VA)) (own := RL) hG (by decide) rfl (Nat.le_of_ble_eq_true rfl) (fun X C hr Wp hlx => ?_) hf
  subst hlx
  unfold f_L_ifStarted
  refine j_aload_n C 0 3 rfl dL_ifStarted_0 ?_
  refine j_iconst (v := 0) C 1 dL_ifStarted_1 rfl ?_
  refine j_aload_n C 2 0 rfl dL_ifStarted_2 ?_
  refine j_iload_n C 3 1 rfl dL_ifStarted_3 ?_
  refine j_iload_n C 4 2 rfl dL_ifStarted_4 ?_
  refine j_bind (fun r hr9 => ?_)
  refine j_vX (As := [.int a1, .int a2]) (st := [.int 0, .ref (G.2.2 120)]) C Wp.2.1 (by rw [Wp.2.2.1]; exact Wp.2.2.2.2.1) (by rw [Wp.2.2.2.1]; exact Wp.2.2.2.2.2) k_X5_ifStarted 5 (c_X5_ifStarted C.2.2.2.2.2.2.1 hl c _ _ hr9) rfl ml_L_76 ii_X5_ifStarted is_X5_ifStarted dL_ifStarted_5 (by decide) rfl (Nat.le_of_ble_eq_true rfl) (fun rv V1 e => ?_) (fun m V1 e => ?_) rfl
  · rcases r with n | q
    · cases e
    · cases e
      have C1 := C.up (by rw [Wp.2.2.1]; exact Wp.2.2.2.2.1) (by rw [Wp.2.2.2.1]; exact Wp.2.2.2.2.2)
      refine j_i2l C1 8 dL_ifStarted_8 ?_
      refine j_ost C1 9 dL_ifStarted_9 ?_
      refine j_goto C1 10 17 dL_ifStarted_10 (by decide) ?_
      refine j_iconst (v := 0) C1 17 dL_ifStarted_17 rfl ?_
      exact jw_iret C1 rfl Wp.2.2.1 Wp.2.2.2.1 18 hr rfl rfl dL_ifStarted_18
  · rcases r with n | q
    · cases e
      have C1 := C.up (by rw [Wp.2.2.1]; exact Wp.2.2.2.2.1) (by rw [Wp.2.2.2.1]; exact Wp.2.2.2.2.2)
      show JT G 5 (xup X) _ (if n.1 = 2 then some (1, n.2, o) else none) _ 5 _ _ _
      by_cases h2 : n.1 = 2
      · rw [if_pos h2]
        rw [h2]
        refine j_catch C1 Wp.2.1 2 5 [] ⟨0, 10, 13, 15⟩ [] Wp.1 (fun z hz => nomatch hz) (by decide) rfl (by decide) (fun q9 => ?_)
        refine j_astore (L1 := [(4, .ref q9), (0, .ref (G.2.2 0)), (1, .int a1), (2, .int a2), (3, .ref (G.2.2 120))]) C1 13 dL_ifStarted_13 (by decide) rfl ?_
        refine j_iconst (v := 1) C1 15 dL_ifStarted_15 rfl ?_
        exact jw_iret C1 rfl Wp.2.2.1 Wp.2.2.2.1 16 hr rfl rfl dL_ifStarted_16
      · rw [if_neg h2]
        exact jt_none
    · cases e
