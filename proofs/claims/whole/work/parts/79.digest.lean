-- ===== digest: the call =====
def dgE (Z : Nat → Nat) (kp : Nat) (tx : Nat → Nat) (len : Nat) (H : Int64) : Int64 :=
  itN (hsh (fun i => nI (tx i))) 0 len (((31 : Int64) * (((31 : Int64) * (((31 : Int64) * (((31 : Int64) * (((31 : Int64) * H) + ((bcZ Z).1).toInt64)) + (shX Z).toInt64)) + (mnX Z).toInt32.toInt64)) + (nI kp).toInt64)) + (nI len).toInt64)
def dgI (Z : Nat → Nat) (n kp : Nat) (tx : Nat → Nat) (len : Nat) : Int64 :=
  dgE Z kp tx len (itN (stH Z) 0 3 (itN (hsh (swI Z)) 0 3 (((31 : Int64) * itN (blH Z) 0 (blkN Z) (itN (slH Z) 0 4 (((31 : Int64) * (((31 : Int64) * itN (hsh (cnI Z n)) 0 12 (3691 : Int64)) + (nI (Z 46)).toInt64)) + (nI (Z 47)).toInt64))) + (nI (whyN Z (Z 46))).toInt64)))
section
variable {T : Nat} {Z : Nat → Nat} {c : VC} {n kp : Nat} {tx : Nat → Nat} {len : Nat}
theorem s_set0 {st : VSt} (h : RS st Z) : f_X2_settingOf st (nI 0) = some (nI (Z 46)) := by
  unfold f_X2_settingOf
  rw [if_neg (by decide), h.2.2.2.2.1]
theorem s_set1 {st : VSt} (h : RS st Z) : f_X2_settingOf st (nI 1) = some (nI (Z 47)) := by
  unfold f_X2_settingOf
  rw [if_pos (by decide), h.2.2.2.2.2.1]
theorem c_digest {r : R4} (W : WF T Z) (hT : T < 16000000) (h : RS (gSt c 0) Z) (hn : c.2.2.2.2.2.2.2.1 = nI n) (hkp : kp ≤ 1) (hk : c.2.2.2.2.2.2.1 = nI kp) (hx : IvT c.2.2.2.2.2.1 r tx len) : ∃ c', smC c c' ∧ f_X5_digest c = some (dgI Z n kp tx len, c') := by
  have hbl := W.blk
  have hfu : FU = 1000 := rfl
  have h46 : Z 46 ≤ 2 := W.2.2.2.2.2.2.2.2.1
  obtain ⟨hcd, -, -⟩ := hx.cd
  have h60 := hcd.1
  have hcl : c.2.2.2.2.2.1.2.1 = nI len := hx.2.1
  have hwhy : f_X5_why c = some (nI (whyN Z (Z 46))) := by
    unfold f_X5_why
    rw [show (c.2.2.2.2.1 0).1 = nI (Z 46) from h.2.2.2.2.1, show c.1 0 = (gSt c 0).1 from rfl, k_hind W h.1 h46]; rfl
  obtain ⟨c', g1, g2⟩ := cd_15 W hT 3 0 FU (((31 : Int64) * itN (blH Z) 0 (blkN Z) (itN (slH Z) 0 4 (((31 : Int64) * (((31 : Int64) * itN (hsh (cnI Z n)) 0 12 (3691 : Int64)) + (nI (Z 46)).toInt64)) + (nI (Z 47)).toInt64))) + (nI (whyN Z (Z 46))).toInt64) c h.1 (by omega) (by omega)
  have h' : RS (gSt c' 0) Z := by rw [g1.1 0 (by omega)]; exact h
  refine ⟨c', g1, ?_⟩
  have hft : f_X5_foldTrials c (itN (blH Z) 0 (blkN Z) (itN (slH Z) 0 4 (((31 : Int64) * (((31 : Int64) * itN (hsh (cnI Z n)) 0 12 (3691 : Int64)) + (nI (Z 46)).toInt64)) + (nI (Z 47)).toInt64))) = some (((31 : Int64) * itN (stH Z) 0 3 (itN (hsh (swI Z)) 0 3 (((31 : Int64) * itN (blH Z) 0 (blkN Z) (itN (slH Z) 0 4 (((31 : Int64) * (((31 : Int64) * itN (hsh (cnI Z n)) 0 12 (3691 : Int64)) + (nI (Z 46)).toInt64)) + (nI (Z 47)).toInt64))) + (nI (whyN Z (Z 46))).toInt64))) + ((bcZ Z).1).toInt64, c') := by
    unfold f_X5_foldTrials
    rw [hwhy, Option.bind_some]
    exact g2
  unfold f_X5_digest
  refine (cd_6 (n := n) (fun j hj => c_count W h hn hj) 12 0 FU (3691 : Int64) (by omega) (by omega)).trans ?_
  show l_X5_digest_33 (999 + 1) c _ (nI 0) = _
  rw [l_X5_digest_33, if_pos (by decide), s_set0 h, Option.bind_some, show (nI 0 + 1 : Int32) = nI 1 from rfl, show (999 : Nat) = 998 + 1 from rfl, l_X5_digest_33, if_pos (by decide), s_set1 h, Option.bind_some, show (nI 1 + 1 : Int32) = nI 2 from rfl, show (998 : Nat) = 997 + 1 from rfl, l_X5_digest_33, if_neg (by decide)]
  have hfs : ∀ g, f_X5_foldSlots c g = some (itN (slH Z) 0 4 g) := fun g => cd_5 W h 4 0 FU g (by omega) (by omega)
  have hfb : ∀ g, f_X5_foldBlocks c g = some (itN (blH Z) 0 (blkN Z) g) := fun g => cd_b5 W h (blkN Z) 0 FU g (by omega) (by omega)
  rw [hfs, Option.bind_some, hfb, Option.bind_some, hft, Option.bind_some]
  dsimp only
  rw [c_share (c := c') W h'.2.1, Option.bind_some, sh_bits W, Option.bind_some, c_mean (c := c') W (by omega) h', Option.bind_some, mn_bits W (by omega), Option.bind_some]
  have hk' : c'.2.2.2.2.2.2.1 = nI kp := by rw [g1.2]; exact hk
  have hcd' : CdX c'.2.2.2.2.2.1.1 tx len := by rw [g1.2]; exact hcd
  have hcl' : c'.2.2.2.2.2.1.2.1 = nI len := by rw [g1.2]; exact hcl
  rw [hk']
  have h123 : ∀ g, b_X5_digest_123 c' (nI kp) g = some (itN (hsh (fun i => nI (tx i))) 0 len (((31 : Int64) * (g + (nI kp).toInt64)) + (nI len).toInt64), c') := fun g => by
    unfold b_X5_digest_123 f_X4_fold
    rw [hcl', show (0 : Int32) = nI 0 from rfl, cd_tx hcd' hcl' len 0 FU _ (by omega) (by omega), Option.bind_some]
  rcases (show kp = 0 ∨ kp = 1 by omega) with rfl | rfl
  · rw [if_pos (by decide)]
    exact h123 _
  · rw [if_neg (by decide)]
    exact h123 _
theorem md_258 {t : Int32} {R : M0} (W : WF T Z) (hT : T < 16000000) (hkp : kp ≤ 1) (hk : R.2.2.2.1 = nI kp) (hx : RTx R.2.2.2.2 tx len) : ∀ (d j f : Nat) (g : Int64) (z a : Nat → Int32), RZ z Z → j + d = 3 → d < f → ∃ z' a', RZ z' Z ∧ l_X6_digest_258 f (t, z, a, R) g (nI j) = some (dgE Z kp tx len (itN (stH Z) j d g), (t, z', a', R)) := by
  have hfu : FU = 1000 := rfl
  have h60 := hx.1
  intro d
  induction d with
  | zero =>
    intro j f g z a h hj hf
    obtain ⟨f, rfl⟩ := Nat.exists_eq_succ_of_ne_zero (show f ≠ 0 by omega)
    obtain ⟨z', k1, k2⟩ := m_best (t := t) (R := (a, R)) W h
    refine ⟨z', a, k2, ?_⟩
    rw [l_X6_digest_258, i3, if_neg (nI_nlt (by omega) (by omega)), k1, Option.bind_some]
    dsimp only
    rw [m_share (m := (t, z', a, R)) W k2, Option.bind_some, d2lb (shX_no W), Option.bind_some, m_mean (m := (t, z', a, R)) W (by omega) k2, Option.bind_some, f2ib (mnX_no W (by omega)), Option.bind_some, hk]
    have h353 : ∀ g, b_X6_digest_353 (t, z', a, R) (nI kp) g = some (itN (hsh (fun i => nI (tx i))) 0 len (((31 : Int64) * (g + (nI kp).toInt64)) + (nI len).toInt64), (t, z', a, R)) := fun g => by
      unfold b_X6_digest_353
      rw [show ((t, z', a, R) : VM).2.2.2.2.2.2.2.2.1 = nI len from hx.2.1, show (0 : Int32) = nI 0 from rfl]
      exact md_tx (m := (t, z', a, R)) hx rfl len 0 FU _ (by omega) (by omega)
    rcases (show kp = 0 ∨ kp = 1 by omega) with rfl | rfl
    · rw [if_pos (by decide)]
      exact h353 _
    · rw [if_neg (by decide)]
      exact h353 _
  | succ d ih =>
    intro j f g z a h hj hf
    obtain ⟨f, rfl⟩ := Nat.exists_eq_succ_of_ne_zero (show f ≠ 0 by omega)
    obtain ⟨z1, a1, k1, r1⟩ := m_started (t := t) (z := z) (a := a) (R := R) (map := j) (what := 0) W h (by omega) (by omega)
    obtain ⟨z2, a2, k2, r2⟩ := m_started (t := t) (z := z1) (a := a1) (R := R) (map := j) (what := 1) W r1 (by omega) (by omega)
    obtain ⟨z', a', r3, k3⟩ := ih (j + 1) f (stH Z j g) z2 a2 r2 (by omega) (by omega)
    refine ⟨z', a', r3, ?_⟩
    have k1' : f_X6_started (t, z, a, R) (nI j) 0 = _ := k1
    have k2' : f_X6_started (t, z1, a1, R) (nI j) 1 = _ := k2
    rw [l_X6_digest_258, i3, if_pos (show nI j < nI 3 from nI_lt (show j < 3 by omega) (by omega)), k1', Option.bind_some]
    dsimp only
    rw [k2', Option.bind_some, show (nI j + 1 : Int32) = nI (j + 1) from nI_add j 1]
    exact k3
theorem md_232 {t : Int32} {R : M0} (W : WF T Z) (hT : T < 16000000) (hkp : kp ≤ 1) (hk : R.2.2.2.1 = nI kp) (hx : RTx R.2.2.2.2 tx len) : ∀ (d j f : Nat) (g : Int64) (z a : Nat → Int32), RZ z Z → j + d = 3 → d < f → ∃ z' a', RZ z' Z ∧ l_X6_digest_232 f (t, z, a, R) g (nI j) = some (dgE Z kp tx len (itN (stH Z) 0 3 (itN (hsh (swI Z)) j d g)), (t, z', a', R)) := by
  have hfu : FU = 1000 := rfl
  intro d
  induction d with
  | zero =>
    intro j f g z a h hj hf
    obtain ⟨f, rfl⟩ := Nat.exists_eq_succ_of_ne_zero (show f ≠ 0 by omega)
    obtain ⟨z', a', r1, k1⟩ := md_258 (t := t) W hT hkp hk hx 3 0 FU g z a h (by omega) (by omega)
    refine ⟨z', a', r1, ?_⟩
    rw [l_X6_digest_232, i3, if_neg (nI_nlt (by omega) (by omega))]
    exact k1
  | succ d ih =>
    intro j f g z a h hj hf
    obtain ⟨f, rfl⟩ := Nat.exists_eq_succ_of_ne_zero (show f ≠ 0 by omega)
    obtain ⟨z1, a1, k1, r1⟩ := m_swept (t := t) (z := z) (a := a) (R := R) (map := j) W hT h (by omega)
    obtain ⟨z', a', r3, k3⟩ := ih (j + 1) f (hsh (swI Z) j g) z1 a1 r1 (by omega) (by omega)
    refine ⟨z', a', r3, ?_⟩
    rw [l_X6_digest_232, i3, if_pos (show nI j < nI 3 from nI_lt (show j < 3 by omega) (by omega)), k1, Option.bind_some, show (nI j + 1 : Int32) = nI (j + 1) from nI_add j 1]
    exact k3
theorem m_digest {mo : VM} (W : WF T Z) (hT : T < 16000000) (h : RZ mo.2.1 Z) (hn : mo.2.2.2.2.1 = nI n) (hkp : kp ≤ 1) (hk : mo.2.2.2.2.2.2.1 = nI kp) (hx : RTx mo.2.2.2.2.2.2.2 tx len) : ∃ z' a', RZ z' Z ∧ f_X6_digest mo = some (dgI Z n kp tx len, (0, z', a', mo.2.2.2)) := by
  have hbl := W.blk
  have hfu : FU = 1000 := rfl
  obtain ⟨z', a', r1, k1⟩ := md_232 (t := 0) (R := mo.2.2.2) W hT hkp hk hx 3 0 FU (((31 : Int64) * itN (blH Z) 0 (blkN Z) (itN (slH Z) 0 4 (((31 : Int64) * (((31 : Int64) * itN (hsh (cnI Z n)) 0 12 (3691 : Int64)) + (nI (Z 46)).toInt64)) + (nI (Z 47)).toInt64))) + (nI (whyN Z (Z 46))).toInt64) mo.2.1 mo.2.2.1 h (by omega) (by omega)
  refine ⟨z', a', r1, ?_⟩
  unfold f_X6_digest
  refine (md_11 (m := (0, mo.2)) (n := n) W h hn 12 0 FU (3691 : Int64) (by omega) (by omega)).trans ?_
  refine (md_66 (m := (0, mo.2)) W h 4 0 FU _ (by omega) (by omega)).trans ?_
  refine (md_141 (m := (0, mo.2)) W h (blkN Z) 0 FU _ (by omega) (by omega)).trans ?_
  exact k1
end
def digG (fl : Option (Int64 × VC)) (fm : Option (Int64 × VM)) (o : Nat → Int64) (K : VA → Option Unit) : Option Unit :=
  fl.bind fun r => fm.bind fun q => if r.1 = q.1 then K (r.2, (q.2, o)) else none
theorem op_digest {T : Nat} (hT24 : T < 16000000) (c : VC) (mo : VM) (o : Nat → Int64) (h : Iv T (c, (mo, o))) : Ok T (digG (f_X5_digest c) (f_X6_digest mo) o) := by
  obtain ⟨Z, SZ, n, KZ, kp, tx, len, hS, hT⟩ := h
  have hS0 := hS
  obtain ⟨W, hR, hZ, b4, b5, b6, b7, b8, b9, b10, b11, b12⟩ := hS0
  obtain ⟨c', g1, g2⟩ := c_digest (c := c) (n := n) (kp := kp) W hT24 hR b5 b9 b10 hT
  obtain ⟨z', a', r1, k1⟩ := m_digest (mo := mo) (n := n) (kp := kp) W hT24 hZ b6 b9 b11 hT.cd.2.1
  refine ⟨(c', ((0, z', a', mo.2.2.2), o)), ⟨Z, SZ, n, KZ, kp, tx, len, hS.look g1.1 g1.2 0 z' a' r1, ?_⟩, fun K => ?_⟩
  · show IvT c'.2.2.2.2.2.1 mo.2.2.2.2.2.2.2 tx len
    rw [g1.2]
    exact hT
  · unfold digG
    rw [g2, k1, Option.bind_some, Option.bind_some]
    dsimp only
    rw [if_pos rfl]
