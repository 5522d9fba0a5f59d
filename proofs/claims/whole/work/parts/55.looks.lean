-- ===== looks: nothing changes but the reference's 'thrown' =====
def lookG (c : VC) (fl : Option Int32) (fm : Option (Int32 × VM)) (o : Nat → Int64) (K : VA → Option Unit) : Option Unit :=
  fl.bind fun r => fm.bind fun q => if r = q.1 then K (c, (q.2, o)) else none
theorem lookG_ok {c : VC} {fl : Option Int32} {fm : Option (Int32 × VM)} {o : Nat → Int64} {x : Int32} {m' : VM} (h1 : fl = some x) (h2 : fm = some (x, m')) (K : VA → Option Unit) : lookG c fl fm o K = K (c, (m', o)) := by
  subst h1; subst h2
  unfold lookG
  simp
theorem op_why {T : Nat} (c : VC) (mo : VM) (o : Nat → Int64) (h : Iv T (c, (mo, o))) : Ok T (lookG c (f_X5_why c) (f_X6_why mo) o) := by
  have hall := h
  obtain ⟨Z, SZ, n, KZ, kp, tx, len, hS, hT⟩ := h
  obtain ⟨W, hR, hZ, -⟩ := hS
  have h46 : Z 46 ≤ 2 := W.2.2.2.2.2.2.2.2.1
  have h1 : f_X5_why c = some (nI (whyN Z (Z 46))) := by
    unfold f_X5_why
    rw [show (c.2.2.2.2.1 0).1 = nI (Z 46) from hR.2.2.2.2.1, show c.1 0 = (gSt c 0).1 from rfl, k_hind W hR.1 h46]; rfl
  have h2 : f_X6_why mo = some (nI (whyN Z (Z 46)), (0, mo.2)) := by
    unfold f_X6_why
    rw [show (46 : Int32) = nI 46 from rfl, m_at hZ (by omega) (by omega), Option.bind_some, m_why (m := (0, mo.2)) W hZ h46]; rfl
  exact ⟨_, Iv.thr (t' := 0) (o' := o) hall (Nat.le_refl _), lookG_ok h1 h2⟩
theorem L_setting_in {c : VC} {o : Nat → Int64} {a1 x : Int32} (h : f_X5_setting c a1 = some (.inr x)) : f_L_setting c o a1 = some (0, c, vp_updL o 0 x.toInt64) := by unfold f_L_setting; rw [h]; rfl
theorem op_setting {T : Nat} (c : VC) (mo : VM) (o : Nat → Int64) (a1 : Int32) (h : Iv T (c, (mo, o))) : Ok T (callG (f_L_setting c o a1) (f_X6_setting mo a1)) := by
  unfold f_X6_setting
  rcases w_or a1 (lo := 0) (hi := 1) (by omega) (by omega) with ⟨h1, g1⟩ | ⟨s, p1, q1, rfl, h1, g1⟩
  · have e1 : f_X5_setting c a1 = some (.inl 1) := by unfold f_X5_setting; rw [show f_X5_isWithin a1 0 1 = some 0 from h1]; rfl
    refine ⟨_, Iv.thr (t' := 1) (o' := o) h (by omega), callG_th (c' := c) (x := 0) (k := 1) (by unfold f_L_setting; rw [e1]; rfl) ?_ (by decide)⟩
    rw [show f_X6_in a1 0 1 = some 0 from g1]; rfl
  have hall := h
  obtain ⟨Z, SZ, n, KZ, kp, tx, len, hS, hT⟩ := h
  obtain ⟨W, hR, hZ, -⟩ := hS
  have h2 : f_X5_setting c (nI s) = some (.inr (nI (Z (46 + s)))) := by
    unfold f_X5_setting f_X2_settingOf
    rw [show f_X5_isWithin (nI s) 0 1 = some 1 from h1, Option.bind_some, if_neg (by decide)]
    rcases (show s = 0 ∨ s = 1 by omega) with rfl | rfl
    · rw [if_neg (by decide), Option.bind_some, hR.2.2.2.2.1]
    · rw [if_pos (by decide), Option.bind_some, hR.2.2.2.2.2.1]
  have h3 : b_X6_setting_15 mo (nI s) 0 = some (nI (Z (46 + s)), (0, mo.2)) := by
    unfold b_X6_setting_15
    rw [if_neg (by decide), show (46 : Int32) = nI 46 from rfl, nI_add, show ard 96 mo.2.1 (nI (46 + s)) = some (nI (Z (46 + s))) from m_at hZ (by omega) (by omega), Option.bind_some]
  rw [show f_X6_in (nI s) 0 1 = some 1 from g1, Option.bind_some, if_neg (by decide)]
  exact ⟨_, Iv.thr (t' := 0) (o' := _) hall (Nat.le_refl _), callG_ok (L_setting_in h2) h3⟩
theorem L_lies_in {c : VC} {o : Nat → Int64} {a1 a2 x : Int32} (h : f_X5_lies c a1 a2 = some (.inr x)) : f_L_lies c o a1 a2 = some (0, c, vp_updL o 0 x.toInt64) := by unfold f_L_lies; rw [h]; rfl
theorem op_lies {T : Nat} (c : VC) (mo : VM) (o : Nat → Int64) (a1 a2 : Int32) (h : Iv T (c, (mo, o))) : Ok T (callG (f_L_lies c o a1 a2) (f_X6_lies mo a1 a2)) := by
  unfold f_X6_lies
  rcases slot_or a1 with ⟨h1, g1⟩ | ⟨s, hs, rfl⟩
  · have e1 : f_X5_lies c a1 a2 = some (.inl 1) := by unfold f_X5_lies; rw [h1]; rfl
    refine ⟨_, Iv.thr (t' := 1) (o' := o) h (by omega), callG_th (c' := c) (x := 0) (k := 1) (by unfold f_L_lies; rw [e1]; rfl) ?_ (by decide)⟩
    rw [g1]; rfl
  rw [m_isSlot hs, Option.bind_some, if_neg (by decide)]
  rcases w_or a2 (lo := 0) (hi := 11) (by omega) (by omega) with ⟨h1, g1⟩ | ⟨j, p1, q1, rfl, h1, g1⟩
  · have e1 : f_X5_lies c (nI s) a2 = some (.inl 1) := by unfold f_X5_lies; rw [p_slot hs, Option.bind_some, if_neg (by decide), show f_X5_isWithin a2 0 11 = some 0 from h1]; rfl
    refine ⟨_, Iv.thr (t' := 1) (o' := o) h (by omega), callG_th (c' := c) (x := 0) (k := 1) (by unfold f_L_lies; rw [e1]; rfl) ?_ (by decide)⟩
    rw [show f_X6_in a2 0 11 = some 0 from g1]; rfl
  have hall := h
  obtain ⟨Z, SZ, n, KZ, kp, tx, len, hS, hT⟩ := h
  obtain ⟨W, hR, hZ, -⟩ := hS
  have h2 : f_X5_lies c (nI s) (nI j) = some (.inr (bkI Z s j)) := by
    unfold f_X5_lies
    rw [p_slot hs, Option.bind_some, if_neg (by decide), show f_X5_isWithin (nI j) 0 11 = some 1 from h1, Option.bind_some, if_neg (by decide), show c.2.1 0 = (gSt c 0).2.1 from rfl, l_at W hR.2.1 hs (by omega)]; rfl
  have h3 : b_X6_lies_23 mo (nI s) (nI j) 0 = some (bkI Z s j, (0, mo.2)) := by
    unfold b_X6_lies_23
    rw [if_neg (by decide), m_blockAt (m := (0, mo.2)) W hZ hs (by omega)]; rfl
  rw [show f_X6_in (nI j) 0 11 = some 1 from g1, Option.bind_some, if_neg (by decide)]
  exact ⟨_, Iv.thr (t' := 0) (o' := _) hall (Nat.le_refl _), callG_ok (L_lies_in h2) h3⟩
