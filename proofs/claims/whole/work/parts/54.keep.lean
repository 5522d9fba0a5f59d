-- ===== keep, goBack, undo =====
def cpW (src dst : Nat → Int32) (j : Nat) : Nat → Int32 := fun k => if k < j then src k else dst k
theorem cpW_succ (src dst : Nat → Int32) (j : Nat) : upd (cpW src dst j) j (src j) = cpW src dst (j + 1) := by
  funext k
  unfold upd cpW
  by_cases e : k = j
  · subst e; rw [if_pos rfl, if_pos (by omega)]
  · rw [if_neg e]
    by_cases q : k < j
    · rw [if_pos q, if_pos (by omega)]
    · rw [if_neg q, if_neg (by omega)]
theorem cpW_0 (src dst : Nat → Int32) : cpW src dst 0 = dst := by funext k; unfold cpW; rw [if_neg (by omega)]
theorem RZ_cpW {src dst : Nat → Int32} {Z : Nat → Nat} (h : ∀ k, k < 96 → src k = zOf Z k) : RZ (cpW src dst 96) Z := fun k hk => by unfold cpW; rw [if_pos hk]; exact h k hk
theorem m_keepL (t : Int32) (z a sv kt : Nat → Int32) (n ik : Int32) (r : (Nat → Int32) × Int32 × Int32 × Int32) : ∀ (d j f : Nat), j + d = 96 → d < f → l_X6_keep_7 f (t, z, a, sv, n, cpW z kt j, ik, r) (nI j) = some (z 41, (t, z, a, sv, n, cpW z kt 96, 1, r)) := by
  intro d
  induction d with
  | zero =>
    intro j f hj hf
    obtain ⟨f, rfl⟩ := Nat.exists_eq_succ_of_ne_zero (show f ≠ 0 by omega)
    unfold l_X6_keep_7
    rw [i96, if_neg (nI_nlt (by omega) (by omega)), show j = 96 by omega]
    dsimp only
    rw [i41, p_ard (by omega) (by omega)]; rfl
  | succ d ih =>
    intro j f hj hf
    obtain ⟨f, rfl⟩ := Nat.exists_eq_succ_of_ne_zero (show f ≠ 0 by omega)
    unfold l_X6_keep_7
    rw [i96, if_pos (nI_lt (by omega) (by omega))]
    dsimp only
    rw [p_ard (by omega) (by omega), Option.bind_some, p_aup (by omega) (by omega), Option.bind_some, cpW_succ, i1, nI_add, ← i1]
    exact ih (j + 1) f (by omega) (by omega)
theorem op_keep {T : Nat} (c : VC) (mo : VM) (o : Nat → Int64) (h : Iv T (c, (mo, o))) : Ok T (sameG (f_X5_keep c) (f_X6_keep mo) o) := by
  obtain ⟨Z, SZ, n, KZ, kp, tx, len, hS, hT⟩ := h
  obtain ⟨W, hR, hZ, b4, b5, b6, b7, b8, b9, b10, b11, b12⟩ := hS
  obtain ⟨w, hw, hRw⟩ := s_copy (v := gSt c 1) W hR
  have htick : (gSt c 0).2.2.1.2.1 = nI (Z 41) := hR.2.2.1.2.1
  have h1 : f_X5_keep c = some (nI (Z 41), sSp (sSt c 1 w) (1, c.2.2.2.2.2.2.2)) := by
    unfold f_X5_keep
    rw [hw, Option.bind_some]
    have : ((sSp (sSt c 1 w) (1, (sSt c 1 w).2.2.2.2.2.2.2)).2.2.1 0).2.1 = nI (Z 41) := by
      rw [← htick]
      exact congrArg (fun q : VSt => q.2.2.1.2.1) (gSt_ne c w (show (0 : Nat) ≠ 1 by omega))
    rw [this]; rfl
  have h2 : f_X6_keep mo = some (nI (Z 41), (0, mo.2.1, mo.2.2.1, mo.2.2.2.1, mo.2.2.2.2.1, cpW mo.2.1 mo.2.2.2.2.2.1 96, 1, mo.2.2.2.2.2.2.2)) := by
    have := m_keepL 0 mo.2.1 mo.2.2.1 mo.2.2.2.1 mo.2.2.2.2.2.1 mo.2.2.2.2.1 mo.2.2.2.2.2.2.1 mo.2.2.2.2.2.2.2 96 0 FU (by omega) (by decide)
    rw [cpW_0, show mo.2.1 41 = nI (Z 41) from hZ 41 (by omega)] at this
    exact this
  refine ⟨_, ?_, sameG_ok h1 h2⟩
  refine ⟨Z, SZ, n, Z, 1, tx, len, ⟨W, ?_, hZ, b4, b5, b6, b7, fun i hi => ?_, by omega, rfl, rfl, fun _ => ⟨W, ?_, RZ_cpW hZ⟩⟩, hT⟩
  · show RS (gSt (sSt c 1 w) 0) Z
    rw [gSt_ne _ _ (by omega)]
    exact hR
  · obtain ⟨g1, g2, g3⟩ := b8 i hi
    refine ⟨g1, ?_, g3⟩
    show RS (gSt (sSt c 1 w) (c.2.2.2.2.2.2.2.2 i)) (SZ i)
    have h2p : 2 ≤ c.2.2.2.2.2.2.2.2 i := (b7.1 i (by omega)).1
    rw [gSt_ne _ _ (show c.2.2.2.2.2.2.2.2 i ≠ 1 by omega)]
    exact g2
  · show RS (gSt (sSt c 1 w) 1) Z
    rw [sSt_get]
    exact hRw
theorem m_backL (t : Int32) (z a sv kt : Nat → Int32) (n ik : Int32) (r : (Nat → Int32) × Int32 × Int32 × Int32) : ∀ (d j f : Nat), j + d = 96 → d < f → l_X6_goBack_31 f (t, cpW kt z j, a, sv, n, kt, ik, r) (nI j) = some (kt 41, (t, cpW kt z 96, a, sv, n, kt, ik, r)) := by
  intro d
  induction d with
  | zero =>
    intro j f hj hf
    obtain ⟨f, rfl⟩ := Nat.exists_eq_succ_of_ne_zero (show f ≠ 0 by omega)
    unfold l_X6_goBack_31
    rw [i96, if_neg (nI_nlt (by omega) (by omega)), show j = 96 by omega]
    dsimp only
    rw [i41, p_ard (by omega) (by omega), Option.bind_some, show cpW kt z 96 41 = kt 41 from if_pos (by omega)]
  | succ d ih =>
    intro j f hj hf
    obtain ⟨f, rfl⟩ := Nat.exists_eq_succ_of_ne_zero (show f ≠ 0 by omega)
    unfold l_X6_goBack_31
    rw [i96, if_pos (nI_lt (by omega) (by omega))]
    dsimp only
    rw [p_ard (by omega) (by omega), Option.bind_some, p_aup (by omega) (by omega), Option.bind_some, cpW_succ, i1, nI_add]
    exact ih (j + 1) f (by omega) (by omega)
theorem L_goBack_in {c c' : VC} {o : Nat → Int64} {x : Int32} (h : f_X5_goBack c = some (.inr (x, c'))) : f_L_goBack c o = some (0, c', vp_updL o 0 x.toInt64) := by unfold f_L_goBack; rw [h]; rfl
theorem op_goBack {T : Nat} (c : VC) (mo : VM) (o : Nat → Int64) (h : Iv T (c, (mo, o))) : Ok T (callG (f_L_goBack c o) (f_X6_goBack mo)) := by
  have hall := h
  obtain ⟨Z, SZ, n, KZ, kp, tx, len, hS, hT⟩ := h
  have hS0 := hS
  obtain ⟨W, hR, hZ, b4, b5, b6, b7, b8, b9, b10, b11, b12⟩ := hS0
  have b10' : c.2.2.2.2.2.2.1 = nI kp := b10
  have b11' : mo.2.2.2.2.2.2.1 = nI kp := b11
  unfold f_X6_goBack
  rw [b11']
  rcases (show kp = 0 ∨ kp = 1 by omega) with rfl | rfl
  · have e1 : f_X5_goBack c = some (.inl (3, c)) := by unfold f_X5_goBack; rw [b10']; rfl
    refine ⟨_, Iv.thr (t' := 1) (o' := o) hall (by omega), callG_th (c' := c) (x := 0) (k := 1) (by unfold f_L_goBack; rw [e1]; rfl) rfl (by decide)⟩
  obtain ⟨c', m2, SZ', n', hsv, hrec, hI, htx, hg0, hz, hm2⟩ := save hS
  obtain ⟨a1, a2, a3, a4, a5, a6, a7, a8, a9, a10, a11, a12⟩ := hI 0
  obtain ⟨k1, k2, k3⟩ := a12 rfl
  obtain ⟨w, hw, hRw⟩ := s_copy (v := gSt c' 0) k1 k2
  have hcl : f_X5_goBack c = some (.inr (nI (KZ 41), sSt c' 0 w)) := by
    unfold f_X5_goBack
    rw [b10', if_neg (by decide), hsv, Option.bind_some, hw, Option.bind_some]
    have : ((sSt c' 0 w).2.2.1 0).2.1 = nI (KZ 41) := by
      rw [sSt_g3]
      exact hRw.2.2.1.2.1
    rw [this]
  have hm : b_X6_goBack_13 mo 0 = some (nI (KZ 41), (0, cpW m2.2.2.2.2.1 m2.1 96, m2.2)) := by
    unfold b_X6_goBack_13
    rw [if_neg (by decide), hrec, Option.bind_some]
    have := m_backL 0 m2.1 m2.2.1 m2.2.2.1 m2.2.2.2.2.1 m2.2.2.2.1 m2.2.2.2.2.2.1 m2.2.2.2.2.2.2 96 0 FU (by omega) (by decide)
    rw [cpW_0, show m2.2.2.2.2.1 41 = nI (KZ 41) from k3 41 (by omega)] at this
    exact this
  rw [if_neg (by decide)]
  exact op_end (Z' := KZ) hI (Nat.le_refl _) hT htx hm2 (L_goBack_in hcl) hm (gSt_sSt0 _ _) (fun k hk _ => gSt_ne _ _ hk) rfl k1 hRw (RZ_cpW k3)
theorem m_undoL (t : Int32) (z a sv : Nat → Int32) (n : Nat) (hn : n < 6) (r : (Nat → Int32) × Int32 × (Nat → Int32) × Int32 × Int32 × Int32) : ∀ (d j f : Nat), j + d = 96 → d < f → l_X6_undo_37 f (t, cpW (fun k => sv (96 * n + k)) z j, a, sv, nI n, r) (nI j) = some (nI n, (t, cpW (fun k => sv (96 * n + k)) z 96, a, sv, nI n, r)) := by
  intro d
  induction d with
  | zero =>
    intro j f hj hf
    obtain ⟨f, rfl⟩ := Nat.exists_eq_succ_of_ne_zero (show f ≠ 0 by omega)
    unfold l_X6_undo_37
    rw [i96, if_neg (nI_nlt (by omega) (by omega)), show j = 96 by omega]
  | succ d ih =>
    intro j f hj hf
    obtain ⟨f, rfl⟩ := Nat.exists_eq_succ_of_ne_zero (show f ≠ 0 by omega)
    unfold l_X6_undo_37
    rw [i96, if_pos (nI_lt (by omega) (by omega))]
    dsimp only
    rw [pk_mul, nI_add, p_ard (by omega) (by omega), Option.bind_some, p_aup (by omega) (by omega), Option.bind_some, cpW_succ (fun k => sv (96 * n + k)), i1, nI_add]
    exact ih (j + 1) f (by omega) (by omega)
theorem L_undo_in {c c' : VC} {o : Nat → Int64} {x : Int32} (h : f_X5_undo c = some (.inr (x, c'))) : f_L_undo c o = some (0, c', vp_updL o 0 x.toInt64) := by unfold f_L_undo; rw [h]; rfl
theorem op_undo {T : Nat} (c : VC) (mo : VM) (o : Nat → Int64) (h : Iv T (c, (mo, o))) : Ok T (callG (f_L_undo c o) (f_X6_undo mo)) := by
  have hall := h
  obtain ⟨Z, SZ, n, KZ, kp, tx, len, hS, hT⟩ := h
  obtain ⟨W, hR, hZ, b4, b5, b6, b7, b8, b9, b10, b11, b12⟩ := hS
  have b5' : c.2.2.2.2.2.2.2.1 = nI n := b5
  have b6' : mo.2.2.2.2.1 = nI n := b6
  have b7' : PO c.2.2.2.2.2.2.2.2 := b7
  unfold f_X6_undo
  rw [b6', i0]
  simp (discharger := omega) only [nI_eq]
  by_cases e : n = 0
  · subst e
    rw [if_pos rfl]
    have e1 : f_X5_undo c = some (.inl (3, c)) := by unfold f_X5_undo; rw [b5', if_pos (by decide)]
    refine ⟨_, Iv.thr (t' := 1) (o' := o) hall (by omega), callG_th (c' := c) (x := 0) (k := 1) (by unfold f_L_undo; rw [e1]; rfl) rfl (by decide)⟩
  obtain ⟨q, rfl⟩ := Nat.exists_eq_succ_of_ne_zero e
  rw [if_neg e]
  obtain ⟨k1, k2, k3⟩ := b8 q (by omega)
  obtain ⟨w, hw, hRw⟩ := s_copy (v := gSt c 0) k1 k2
  have hcl : f_X5_undo c = some (.inr (nI q, sSt (sSp c (c.2.2.2.2.2.2.1, nI q, c.2.2.2.2.2.2.2.2)) 0 w)) := by
    unfold f_X5_undo
    rw [b5', i1, if_neg (nI_nlt (by omega) (by omega)), i6, if_neg (nI_nlt (by omega) (by omega)), pk_sub (by omega)]
    show ((rdp 6 c.2.2.2.2.2.2.2.2 (nI (q + 1 - 1))).bind _) = _
    rw [Nat.add_sub_cancel, p_rdp (by omega) (b7'.1 q (by omega)), Option.bind_some]
    show ((f_X2_copyFrom (gSt c 0) (gSt c (c.2.2.2.2.2.2.2.2 q))).bind _) = _
    rw [hw]; rfl
  have hm : b_X6_undo_13 mo 0 = some (nI q, (0, cpW (fun k => mo.2.2.2.1 (96 * q + k)) mo.2.1 96, mo.2.2.1, mo.2.2.2.1, nI q, mo.2.2.2.2.2)) := by
    unfold b_X6_undo_13
    rw [if_neg (by decide), b6', i1, pk_sub (by omega), Nat.succ_sub_one]
    have := m_undoL 0 mo.2.1 mo.2.2.1 mo.2.2.2.1 q (by omega) mo.2.2.2.2.2 96 0 FU (by omega) (by decide)
    rw [cpW_0] at this
    exact this
  refine ⟨_, ?_, callG_ok (L_undo_in hcl) hm⟩
  refine ⟨SZ q, SZ, q, KZ, kp, tx, len, ⟨k1, ?_, RZ_cpW k3, by omega, rfl, rfl, b7, fun i hi => ?_, b9, b10, b11, fun z => ?_⟩, hT⟩
  · show RS (gSt (sSt (sSp c (c.2.2.2.2.2.2.1, nI q, c.2.2.2.2.2.2.2.2)) 0 w) 0) (SZ q)
    rw [sSt_get]
    exact hRw
  · obtain ⟨g1, g2, g3⟩ := b8 i (by omega)
    refine ⟨g1, ?_, g3⟩
    have h2p : 2 ≤ c.2.2.2.2.2.2.2.2 i := (b7'.1 i (by omega)).1
    show RS (gSt (sSt (sSp c (c.2.2.2.2.2.2.1, nI q, c.2.2.2.2.2.2.2.2)) 0 w) (c.2.2.2.2.2.2.2.2 i)) (SZ i)
    rw [gSt_ne _ _ (show c.2.2.2.2.2.2.2.2 i ≠ 0 by omega)]
    exact g2
  · obtain ⟨g1, g2, g3⟩ := b12 z
    refine ⟨g1, ?_, g3⟩
    show RS (gSt (sSt (sSp c (c.2.2.2.2.2.2.1, nI q, c.2.2.2.2.2.2.2.2)) 0 w) 1) KZ
    rw [gSt_ne _ _ (by omega)]
    exact g2
