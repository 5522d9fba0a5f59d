-- ===== append, clearBuffer =====
theorem IvS.tx {T : Nat} {c : VC} {mo : VM} {Z : Nat → Nat} {SZ : Nat → Nat → Nat} {n : Nat} {KZ : Nat → Nat} {kp : Nat} (h : IvS T c mo Z SZ n KZ kp) (tv : VTx) (t' : Int32) (r' : (Nat → Int32) × Int32 × Int32 × Int32) : IvS T (sTx c tv) (t', mo.2.1, mo.2.2.1, mo.2.2.2.1, mo.2.2.2.2.1, mo.2.2.2.2.2.1, mo.2.2.2.2.2.2.1, r') Z SZ n KZ kp := h
theorem L_append_in {c c' : VC} {o : Nat → Int64} {a1 x : Int32} (h : f_X5_append c a1 = some (.inr (x, c'))) : f_L_append c o a1 = some (0, c', vp_updL o 0 x.toInt64) := by unfold f_L_append; rw [h]; rfl
theorem i60 : (60 : Int32) = nI 60 := rfl
theorem op_append {T : Nat} (c : VC) (mo : VM) (o : Nat → Int64) (a1 : Int32) (h : Iv T (c, (mo, o))) : Ok T (callG (f_L_append c o a1) (f_X6_append mo a1)) := by
  unfold f_X6_append
  rcases w_or a1 (lo := 33) (hi := 126) (by omega) (by omega) with ⟨h1, g1⟩ | ⟨j, p1, q1, rfl, h1, g1⟩
  · have e1 : f_X5_append c a1 = some (.inl (2, c)) := by unfold f_X5_append; rw [show f_X5_isWithin a1 33 126 = some 0 from h1]; rfl
    refine ⟨_, Iv.thr (t' := 1) (o' := o) h (by omega), callG_th (c' := c) (x := 0) (k := 1) (by unfold f_L_append; rw [e1]; rfl) ?_ (by decide)⟩
    rw [show f_X6_in a1 33 126 = some 0 from g1]; rfl
  rw [show f_X6_in (nI j) 33 126 = some 1 from g1, Option.bind_some, if_neg (by decide)]
  have hall := h
  obtain ⟨Z, SZ, n, KZ, kp, tx, len, hS, hT⟩ := h
  obtain ⟨t1, t2, t3, t4⟩ := hT
  have hml : mo.2.2.2.2.2.2.2.2.1 = nI len := t3
  have hcl : c.2.2.2.2.2.1.2.1 = nI len := t2
  rw [hml, i60]
  simp (discharger := omega) only [nI_eq]
  have hpre : f_X5_append c (nI j) = if len < 60 then some (.inr (nI (len + 1), sTx c (upd c.2.2.2.2.2.1.1 len (nI j), nI (len + 1), c.2.2.2.2.2.1.2.2))) else some (.inl (3, c)) := by
    unfold f_X5_append
    rw [show f_X5_isWithin (nI j) 33 126 = some 1 from h1, Option.bind_some, if_neg (by decide)]
    unfold f_X4_isFull f_X4_add
    rw [hcl, i60, i0, if_neg (nI_nlt (Nat.zero_le _) (by omega))]
    simp (discharger := omega) only [nI_ltI]
    by_cases e : len < 60
    · rw [if_pos e, Option.bind_some, if_pos rfl, if_pos e, p_aup e (by omega), Option.bind_some, Option.bind_some, if_pos e, i1, nI_add]; rfl
    · rw [if_neg e, Option.bind_some, if_neg (by decide), if_neg e]
  by_cases e : len = 60
  · rw [if_pos e]
    rw [if_neg (by omega)] at hpre
    refine ⟨_, Iv.thr (t' := 2) (o' := o) hall (by omega), callG_th (c' := c) (x := 0) (k := 2) (by unfold f_L_append; rw [hpre]; rfl) rfl (by decide)⟩
  · rw [if_neg e]
    rw [if_pos (by omega)] at hpre
    have hm : b_X6_append_30 mo (nI j) 0 = some (nI (len + 1), (0, mo.2.1, mo.2.2.1, mo.2.2.2.1, mo.2.2.2.2.1, mo.2.2.2.2.2.1, mo.2.2.2.2.2.2.1, upd mo.2.2.2.2.2.2.2.1 len (nI j), nI (len + 1), mo.2.2.2.2.2.2.2.2.2)) := by
      unfold b_X6_append_30
      rw [if_neg (by decide), hml, p_aup (by omega) (by omega), Option.bind_some, i1, nI_add]
    refine ⟨_, ?_, callG_ok (L_append_in hpre) hm⟩
    refine ⟨Z, SZ, n, KZ, kp, (fun i => if i = len then j else tx i), len + 1, hS.tx _ 0 _, by omega, rfl, rfl, fun i hi => ?_⟩
    dsimp only [sTx]
    by_cases e2 : i = len
    · subst e2
      rw [upd_eq, upd_eq, if_pos rfl]
      exact ⟨rfl, rfl, p1, q1⟩
    · rw [upd_ne _ _ e2, upd_ne _ _ e2, if_neg e2]
      exact t4 i (by omega)
/-- a call that answers the same on both sides: no throw -/
def sameG (fl : Option (Int32 × VC)) (fm : Option (Int32 × VM)) (o : Nat → Int64) (K : VA → Option Unit) : Option Unit :=
  fl.bind fun r => fm.bind fun q => if r.1 = q.1 then K (r.2, (q.2, o)) else none
theorem sameG_ok {fl : Option (Int32 × VC)} {fm : Option (Int32 × VM)} {o : Nat → Int64} {x : Int32} {c' : VC} {m' : VM} (h1 : fl = some (x, c')) (h2 : fm = some (x, m')) (K : VA → Option Unit) : sameG fl fm o K = K (c', (m', o)) := by
  subst h1; subst h2
  unfold sameG
  simp
theorem op_clear {T : Nat} (c : VC) (mo : VM) (o : Nat → Int64) (h : Iv T (c, (mo, o))) : Ok T (sameG (f_X5_clearBuffer c) (f_X6_clearBuffer mo) o) := by
  obtain ⟨Z, SZ, n, KZ, kp, tx, len, hS, hT⟩ := h
  obtain ⟨t1, t2, t3, t4⟩ := hT
  have hml : mo.2.2.2.2.2.2.2.2.1 = nI len := t3
  have hcl : c.2.2.2.2.2.1.2.1 = nI len := t2
  have h1 : f_X5_clearBuffer c = some (nI len, sTx c (c.2.2.2.2.2.1.1, 0, c.2.2.2.2.2.1.2.2)) := by
    unfold f_X5_clearBuffer f_X4_empty
    rw [Option.bind_some, hcl]
  have h2 : f_X6_clearBuffer mo = some (nI len, (0, mo.2.1, mo.2.2.1, mo.2.2.2.1, mo.2.2.2.2.1, mo.2.2.2.2.2.1, mo.2.2.2.2.2.2.1, mo.2.2.2.2.2.2.2.1, 0, mo.2.2.2.2.2.2.2.2.2)) := by
    unfold f_X6_clearBuffer
    rw [hml]
  refine ⟨_, ?_, sameG_ok h1 h2⟩
  exact ⟨Z, SZ, n, KZ, kp, tx, 0, hS.tx _ 0 _, by omega, rfl, rfl, fun i hi => by omega⟩
