-- ===== what would be =====
theorem IvS.look {T : Nat} {c c' : VC} {mo : VM} {Z : Nat → Nat} {SZ : Nat → Nat → Nat} {n : Nat} {KZ : Nat → Nat} {kp : Nat} (h : IvS T c mo Z SZ n KZ kp) (hg : ∀ k, k < 8 → gSt c' k = gSt c k) (hsp : c'.2.2.2.2.2 = c.2.2.2.2.2) (t' : Int32) (z' a' : Nat → Int32) (hZ : RZ z' Z) : IvS T c' (t', z', a', mo.2.2.2) Z SZ n KZ kp := by
  obtain ⟨h1, h2, h3, h4, h5, h6, h7, h8, h9, h10, h11, h12⟩ := h
  have e2 : c'.2.2.2.2.2.2 = c.2.2.2.2.2.2 := by rw [hsp]
  refine ⟨h1, by rw [hg 0 (by omega)]; exact h2, hZ, h4, by rw [e2]; exact h5, h6, by rw [e2]; exact h7, fun i hi => ?_, h9, by rw [e2]; exact h10, h11, fun q => ?_⟩
  · obtain ⟨g1, g2, g3⟩ := h8 i hi
    have hp := h7.1 i (by omega)
    rw [e2, hg _ hp.2]
    exact ⟨g1, g2, g3⟩
  · obtain ⟨g1, g2, g3⟩ := h12 q
    rw [hg 1 (by omega)]
    exact ⟨g1, g2, g3⟩
abbrev M0 : Type := (Nat → Int32) × Int32 × (Nat → Int32) × Int32 × (Nat → Int32) × Int32 × Int32 × Int32
theorem m_asideL (t : Int32) (z a : Nat → Int32) (R : M0) : ∀ (d j f : Nat), j + d = 96 → d < f → l_X6_putAside_2 f (t, z, cpW z a j, R) (nI j) = some (t, z, cpW z a 96, R) := by
  intro d
  induction d with
  | zero =>
    intro j f hj hf
    obtain ⟨f, rfl⟩ := Nat.exists_eq_succ_of_ne_zero (show f ≠ 0 by omega)
    unfold l_X6_putAside_2
    rw [i96, if_neg (nI_nlt (by omega) (by omega)), show j = 96 by omega]
  | succ d ih =>
    intro j f hj hf
    obtain ⟨f, rfl⟩ := Nat.exists_eq_succ_of_ne_zero (show f ≠ 0 by omega)
    unfold l_X6_putAside_2
    rw [i96, if_pos (nI_lt (by omega) (by omega))]
    dsimp only
    rw [p_ard (by omega) (by omega), Option.bind_some, p_aup (by omega) (by omega), Option.bind_some, cpW_succ, i1, nI_add]
    exact ih (j + 1) f (by omega) (by omega)
theorem m_aside (t : Int32) (z a : Nat → Int32) (R : M0) : f_X6_putAside (t, z, a, R) = some (t, z, cpW z a 96, R) := by
  have := m_asideL t z a R 96 0 FU (by omega) (by decide)
  rw [cpW_0] at this
  exact this
theorem m_backwL (t : Int32) (z a : Nat → Int32) (R : M0) : ∀ (d j f : Nat), j + d = 96 → d < f → l_X6_putBack_2 f (t, cpW a z j, a, R) (nI j) = some (t, cpW a z 96, a, R) := by
  intro d
  induction d with
  | zero =>
    intro j f hj hf
    obtain ⟨f, rfl⟩ := Nat.exists_eq_succ_of_ne_zero (show f ≠ 0 by omega)
    unfold l_X6_putBack_2
    rw [i96, if_neg (nI_nlt (by omega) (by omega)), show j = 96 by omega]
  | succ d ih =>
    intro j f hj hf
    obtain ⟨f, rfl⟩ := Nat.exists_eq_succ_of_ne_zero (show f ≠ 0 by omega)
    unfold l_X6_putBack_2
    rw [i96, if_pos (nI_lt (by omega) (by omega))]
    dsimp only
    rw [p_ard (by omega) (by omega), Option.bind_some, p_aup (by omega) (by omega), Option.bind_some, cpW_succ, i1, nI_add]
    exact ih (j + 1) f (by omega) (by omega)
theorem m_backw (t : Int32) (z a : Nat → Int32) (R : M0) : f_X6_putBack (t, z, a, R) = some (t, cpW a z 96, a, R) := by
  have := m_backwL t z a R 96 0 FU (by omega) (by decide)
  rw [cpW_0] at this
  exact this
theorem RZ_back {z z2 a : Nat → Int32} {Z : Nat → Nat} (h : RZ z Z) : RZ (cpW (cpW z a 96) z2 96) Z := RZ_cpW (fun k hk => by unfold cpW; rw [if_pos hk]; exact h k hk)
-- started
def stN (Z : Nat → Nat) (map what : Nat) : Nat := if whyN Z map = 0 then (if what = 0 then blkN (mapZ Z map) else wideN (mapZ Z map)) else 0
theorem gLy (c : VC) (w : VLy) {k : Nat} (h : k < 8) : gSt (sLy c 8 w) k = gSt c k := by
  unfold gSt sLy
  simp only [va_up_ne _ _ (show k ≠ 8 by omega)]
theorem gCk8 (c : VC) (w : VCk) {k : Nat} (h : k < 8) : gSt (sCk c 8 w) k = gSt c k := by
  unfold gSt sCk
  simp only [va_up_ne _ _ (show k ≠ 8 by omega)]
section
variable {T : Nat} {Z : Nat → Nat} {map what : Nat} {c : VC}
theorem c_started (W : WF T Z) (h : RK (c.1 0) Z) (hm : map ≤ 2) (hw : what ≤ 1) : ∃ c', f_X5_blocksIfStarted c (nI map) (nI what) = some (nI (stN Z map what), c') ∧ (∀ k, k < 8 → gSt c' k = gSt c k) ∧ c'.2.2.2.2.2 = c.2.2.2.2.2 := by
  have hy := whyN_le Z map
  unfold f_X5_blocksIfStarted stN
  rw [k_hind W h hm, Option.bind_some, i0]
  simp (discharger := omega) only [nI_eq]
  by_cases e : whyN Z map = 0
  · rw [if_pos e, if_pos e]
    obtain ⟨w, h1, h2⟩ := l_lay (ly := c.2.1 8) W h hm
    rw [h1, Option.bind_some]
    refine ⟨sLy c 8 w, ?_, fun k hk => gLy c w hk, rfl⟩
    rw [sLy_get, h2.2.2.2.2.2.1, h2.2.2.2.2.2.2]
    split <;> rfl
  · rw [if_neg e, if_neg e]
    exact ⟨c, rfl, fun k _ => rfl, rfl⟩
theorem m_started {t : Int32} {z a : Nat → Int32} {R : M0} (W : WF T Z) (h : RZ z Z) (hm : map ≤ 2) (hw : what ≤ 1) : ∃ z' a', f_X6_started (t, z, a, R) (nI map) (nI what) = some (nI (stN Z map what), (t, z', a', R)) ∧ RZ z' Z := by
  have hy := whyN_le Z map
  have W' := WF_map W hm
  unfold f_X6_started stN
  rw [m_why (m := (t, z, a, R)) W h hm, Option.bind_some, i0]
  simp (discharger := omega) only [nI_eq, nI_ltI]
  by_cases e : whyN Z map = 0
  · rw [if_neg (by omega), if_pos e, m_aside, Option.bind_some]
    obtain ⟨z1, h1, h2⟩ := m_make (m := (t, z, cpW z a 96, R)) (map := map) W h
    rw [h1, Option.bind_some, m_blk (m := (t, z1, cpW z a 96, R)) W' h2, m_wide (m := (t, z1, cpW z a 96, R)) W' h2]
    unfold b_X6_started_34
    dsimp only
    rw [m_backw]
    refine ⟨cpW (cpW z a 96) z1 96, cpW z a 96, ?_, RZ_back (z2 := z1) h⟩
    split <;> rfl
  · rw [if_pos (by omega), if_neg e]
    exact ⟨z, a, rfl, h⟩
end
theorem L_ifStarted_in {c c' : VC} {o : Nat → Int64} {a1 a2 x : Int32} (h : f_X5_ifStarted c a1 a2 = some (.inr (x, c'))) : f_L_ifStarted c o a1 a2 = some (0, c', vp_updL o 0 x.toInt64) := by unfold f_L_ifStarted; rw [h]; rfl
theorem op_ifStarted {T : Nat} (c : VC) (mo : VM) (o : Nat → Int64) (a1 a2 : Int32) (h : Iv T (c, (mo, o))) : Ok T (callG (f_L_ifStarted c o a1 a2) (f_X6_ifStarted mo a1 a2)) := by
  unfold f_X6_ifStarted
  rcases w_or a1 (lo := 0) (hi := 2) (by omega) (by omega) with ⟨h1, g1⟩ | ⟨s, p1, q1, rfl, h1, g1⟩
  · have e1 : f_X5_ifStarted c a1 a2 = some (.inl (2, c)) := by unfold f_X5_ifStarted; rw [show f_X5_isWithin a1 0 2 = some 0 from h1]; rfl
    refine ⟨_, Iv.thr (t' := 1) (o' := o) h (by omega), callG_th (c' := c) (x := 0) (k := 1) (by unfold f_L_ifStarted; rw [e1]; rfl) ?_ (by decide)⟩
    rw [show f_X6_in a1 0 2 = some 0 from g1]; rfl
  rw [show f_X6_in (nI s) 0 2 = some 1 from g1, Option.bind_some, if_neg (by decide)]
  rcases w_or a2 (lo := 0) (hi := 1) (by omega) (by omega) with ⟨h2, g2⟩ | ⟨j, p2, q2, rfl, h2, g2⟩
  · have e1 : f_X5_ifStarted c (nI s) a2 = some (.inl (2, c)) := by unfold f_X5_ifStarted; rw [show f_X5_isWithin (nI s) 0 2 = some 1 from h1, Option.bind_some, if_neg (by decide), show f_X5_isWithin a2 0 1 = some 0 from h2]; rfl
    refine ⟨_, Iv.thr (t' := 1) (o' := o) h (by omega), callG_th (c' := c) (x := 0) (k := 1) (by unfold f_L_ifStarted; rw [e1]; rfl) ?_ (by decide)⟩
    rw [show f_X6_in a2 0 1 = some 0 from g2]; rfl
  obtain ⟨Z, SZ, n, KZ, kp, tx, len, hS, hT⟩ := h
  have hS0 := hS
  obtain ⟨W, hR, hZ, -⟩ := hS0
  obtain ⟨c', k1, k2, k3⟩ := c_started (c := c) W hR.1 q1 q2
  obtain ⟨z', a', m1, m2⟩ := m_started (t := 0) (z := mo.2.1) (a := mo.2.2.1) (R := mo.2.2.2) W hZ q1 q2
  have h3 : f_X5_ifStarted c (nI s) (nI j) = some (.inr (nI (stN Z s j), c')) := by
    unfold f_X5_ifStarted
    rw [show f_X5_isWithin (nI s) 0 2 = some 1 from h1, Option.bind_some, if_neg (by decide), show f_X5_isWithin (nI j) 0 1 = some 1 from h2, Option.bind_some, if_neg (by decide), k1, Option.bind_some]
  have h4 : b_X6_ifStarted_24 mo (nI s) (nI j) 0 = some (nI (stN Z s j), (0, z', a', mo.2.2.2)) := by
    unfold b_X6_ifStarted_24
    have : f_X6_started (0, mo.2) (nI s) (nI j) = _ := m1
    rw [if_neg (by decide), this, Option.bind_some]
  rw [show f_X6_in (nI j) 0 1 = some 1 from g2, Option.bind_some, if_neg (by decide)]
  refine ⟨(c', ((0, z', a', mo.2.2.2), vp_updL o 0 (nI (stN Z s j)).toInt64)), ⟨Z, SZ, n, KZ, kp, tx, len, hS.look k2 k3 0 z' a' m2, ?_⟩, callG_ok (L_ifStarted_in h3) h4⟩
  show IvT c'.2.2.2.2.2.1 mo.2.2.2.2.2.2.2 tx len
  rw [k3]
  exact hT
