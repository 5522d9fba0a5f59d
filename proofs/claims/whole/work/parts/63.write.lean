-- ===== write =====
def wrZ (Z : Nat → Nat) (b v : Nat) : Nat → Nat := fun k => if k = 48 + 12 * slotN Z b + numN Z b ∨ (Z 40 = 3 ∧ k = 48 + 12 * slN Z 1 b + nuN Z 1 b) then v else Z k
theorem ard_up {n : Nat} {f : Nat → Int32} {k p : Nat} {x : Int32} (hk : k < n) (hn : n < 2 ^ 31) (h : k ≠ p) : ard n (upd f p x) (nI k) = ard n f (nI k) := by
  rw [p_ard hk hn, p_ard hk hn, upd_ne _ _ h]
section
variable {T : Nat} {Z : Nat → Nat} {ly : VLy} {sk : VSk} {ck : VCk} {st : VSt} {m : VM} {b s v : Nat}
theorem wr_SL (Z : Nat → Nat) (b v : Nat) : SL Z (wrZ Z b v) := fun k _ h2 => by
  unfold wrZ
  rw [if_neg (by omega)]
theorem wr_lo {k : Nat} (h : k < 48) : wrZ Z b v k = Z k := by unfold wrZ; rw [if_neg (by omega)]
theorem mir_slot (h3 : Z 40 = 3) (b : Nat) : slotN Z b < 2 ∧ 2 ≤ slN Z 1 b := by
  unfold slotN
  have : chN Z b = 0 := by unfold chN; rw [if_pos h3]
  rw [this]
  unfold slN
  constructor
  · split <;> omega
  · split <;> omega
theorem wr_at (W : WF T Z) (hb : b < blkN Z) {b2 : Nat} (hb2 : b2 < blkN Z) : wrZ Z b v (48 + 12 * slotN Z b2 + numN Z b2) = if b2 = b then v else Z (48 + 12 * slotN Z b2 + numN Z b2) := by
  unfold wrZ
  by_cases e : b2 = b
  · subst e; rw [if_pos (Or.inl rfl), if_pos rfl]
  · rw [if_neg e, if_neg]
    rintro (q | ⟨q3, q⟩)
    · exact e (place_inj W hb2 hb q)
    · have h1 := mir_slot q3 b
      have h2 := mir_slot q3 b2
      have h3 := num_lt W hb2
      have h4 := num2_lt W hb q3
      omega
theorem wr_at2 (W : WF T Z) (hb : b < blkN Z) {b2 : Nat} (hb2 : b2 < blkN Z) (q3 : Z 40 = 3) : wrZ Z b v (48 + 12 * slN Z 1 b2 + nuN Z 1 b2) = if b2 = b then v else Z (48 + 12 * slN Z 1 b2 + nuN Z 1 b2) := by
  unfold wrZ
  by_cases e : b2 = b
  · subst e; rw [if_pos (Or.inr ⟨q3, rfl⟩), if_pos rfl]
  · rw [if_neg e, if_neg]
    have h1 := mir_slot q3 b
    have h2 := mir_slot q3 b2
    have h3 := num2_lt W hb2 q3
    have h4 := num2_lt W hb q3
    rintro (q | ⟨_, q⟩)
    · have h5 := num_lt W hb
      omega
    · have e1 : slN Z 1 b2 = slN Z 1 b := by omega
      have e2 : nuN Z 1 b2 = nuN Z 1 b := by omega
      apply e
      rw [← bk_inv2 W hb2 q3, ← bk_inv2 W hb q3, e1, e2]
theorem WF_wr (W : WF T Z) (hb : b < blkN Z) (hv : v ≤ 99) : WF T (wrZ Z b v) := by
  have hs := wr_SL Z b v
  obtain ⟨a0, a1, a2, a3, a4, a5, a6, a7, a8, a9, a10, a11⟩ := id W
  refine ⟨fun q hq => ?_, ?_, ?_, ?_, ?_, ?_, ?_, ?_, ?_, ?_, ?_, ?_⟩
  · have := a0 q hq
    rw [wr_lo (k := 9 * q) (by omega), wr_lo (k := 9 * q + 1) (by omega), wr_lo (k := 9 * q + 2) (by omega), wr_lo (k := 9 * q + 3) (by omega), wr_lo (k := 9 * q + 4) (by omega), wr_lo (k := 9 * q + 5) (by omega), wr_lo (k := 9 * q + 6) (by omega), wr_lo (k := 9 * q + 7) (by omega), wr_lo (k := 9 * q + 8) (by omega), wr_lo (k := 36 + q) (by omega), wr_lo (k := 41) (by omega)]
    exact this
  · rw [wr_lo (by omega)]; exact a1
  · rw [wr_lo (by omega)]
    intro e q hq
    rw [wr_lo (by omega), wr_lo (by omega)]
    exact a2 e q hq
  · rw [wr_lo (by omega)]; exact a3
  · rw [wr_lo (by omega)]; exact a4
  · rw [wr_lo (by omega)]; exact a5
  · rw [wr_lo (by omega)]; exact a6
  · rw [wr_lo (by omega)]; exact a7
  · rw [wr_lo (by omega)]; exact a8
  · rw [wr_lo (by omega)]; exact a9
  · intro k h1 h2
    unfold wrZ
    split
    · exact hv
    · exact a10 k h1 h2
  · rw [wr_lo (by omega)]
    intro e b2 hb2
    rw [hs.blk] at hb2
    rw [hs.slot, hs.num, hs.sl (by omega), hs.nu (by omega), wr_at W hb hb2, wr_at2 W hb hb2 e, a11 e b2 hb2]
theorem s_exch (W : WF T Z) (h : RS st Z) (hb : b < blkN Z) : f_X2_exchange st (nI b) (nI v) = some (nI (Z (48 + 12 * slotN Z b + numN Z b)), (st.1, st.2.1, st.2.2.1, upd st.2.2.2.1 b (nI v), st.2.2.2.2)) := by
  have := W.blk
  unfold f_X2_exchange
  rw [s_held W h hb, Option.bind_some, if_neg (nI_pos (by omega)), i48, if_pos (nI_lt (by omega) (by omega)), p_aup (by omega) (by omega)]; rfl
theorem wr_RS (W : WF T Z) (h : RS st Z) (hb : b < blkN Z) : RS (st.1, st.2.1, st.2.2.1, upd st.2.2.2.1 b (nI v), st.2.2.2.2) (wrZ Z b v) := by
  obtain ⟨hk, hl, hc, hv, hi⟩ := h
  have hs := wr_SL Z b v
  refine ⟨fun q hq => ?_, hs.ly hl, ⟨fun q hq => ?_, ?_, ?_⟩, fun b2 hb2 => ?_, ?_⟩
  · have := hk q hq
    unfold gt at *
    rw [wr_lo (k := 9 * q) (by omega), wr_lo (k := 9 * q + 1) (by omega), wr_lo (k := 9 * q + 2) (by omega), wr_lo (k := 9 * q + 3) (by omega), wr_lo (k := 9 * q + 4) (by omega), wr_lo (k := 9 * q + 5) (by omega), wr_lo (k := 9 * q + 8) (by omega)]
    exact this
  · rw [wr_lo (by omega), wr_lo (by omega)]; exact hc.1 q hq
  · rw [wr_lo (by omega)]; exact hc.2.1
  · rw [wr_lo (by omega)]; exact hc.2.2
  · rw [hs.blk] at hb2
    rw [hs.slot, hs.num, wr_at W hb hb2]
    dsimp only
    unfold upd
    by_cases e : b2 = b
    · rw [if_pos e, if_pos e]
    · rw [if_neg e, if_neg e]; exact hv b2 hb2
  · unfold RI
    rw [wr_lo (by omega), wr_lo (by omega), wr_lo (by omega), wr_lo (by omega), wr_lo (by omega)]
    exact hi
theorem m_write {t : Int32} {m2 : M2} (W : WF T Z) (h : RZ m2.1 Z) (hb : b < blkN Z) (hc : canN Z b) {mo : VM} (hrec : ∀ t, f_X6_record (t, mo.2) = some (t, m2)) : ∃ z', b_X6_write_40 mo (nI b) (nI v) 0 = some (nI (Z (48 + 12 * slotN Z b + numN Z b)), (0, z', m2.2)) ∧ RZ z' (wrZ Z b v) := by
  have h1 := slot_lt Z b
  have h2 := num_lt W hb
  have hS2 := m_slot2 (m := (0, m2)) W h hb
  have hN2 := m_num2 (m := (0, m2)) W h hb
  unfold b_X6_write_40
  rw [if_neg (by decide), hrec, Option.bind_some, m_val (m := (0, m2)) W h hb hc, Option.bind_some, m_slot (m := (0, m2)) W h hb, Option.bind_some, m_num (m := (0, m2)) W h hb, Option.bind_some, i48, i12, pk_mul, nI_add, nI_add, m_aup (0, m2) (by omega), Option.bind_some, i40, ard_up (by omega) (by omega) (by omega), m_40 (m := (0, m2)) h, Option.bind_some, i2]
  simp only [kI_2 W.2.1]
  by_cases e3 : Z 40 = 3
  · have h3 := sl_lt (Z := Z) (c := 1) (i := b) (by omega)
    have h4 := num2_lt W hb e3
    have u1 : f_X6_secondSlot (0, upd m2.1 (48 + 12 * slotN Z b + numN Z b) (nI v), m2.2) (nI b) = f_X6_secondSlot (0, m2) (nI b) := by
      unfold f_X6_secondSlot f_X6_slotIn
      simp (discharger := omega) only [i40, i36, i2, i1, pk_mul, nI_add, ard_up, Nat.reduceMul, Nat.reduceAdd]
    have u2 : f_X6_secondNumber (0, upd m2.1 (48 + 12 * slotN Z b + numN Z b) (nI v), m2.2) (nI b) = f_X6_secondNumber (0, m2) (nI b) := by
      unfold f_X6_secondNumber f_X6_numberIn
      simp (discharger := omega) only [i40, i36, i2, i1, pk_mul, nI_add, ard_up, Nat.reduceMul, Nat.reduceAdd]
    rw [if_pos e3]
    rw [u1, u2, hS2, hN2, if_pos e3, if_pos e3, Option.bind_some, Option.bind_some, pk_mul, nI_add, nI_add, p_aup (by omega) (by omega), Option.bind_some]
    refine ⟨_, rfl, RZ_congr (RZ_zu (RZ_zu h (k := 48 + 12 * slotN Z b + numN Z b) (x := v) (by omega)) (k := 48 + 12 * slN Z 1 b + nuN Z 1 b) (x := v) (by omega)) (fun k hk => ?_)⟩
    unfold wrZ zu
    by_cases q2 : k = 48 + 12 * slN Z 1 b + nuN Z 1 b
    · rw [if_pos (Or.inr ⟨e3, q2⟩), if_pos q2]
    · rw [if_neg q2]
      by_cases q1 : k = 48 + 12 * slotN Z b + numN Z b
      · rw [if_pos (Or.inl q1), if_pos q1]
      · rw [if_neg q1, if_neg (fun q => q.elim q1 (fun q => q2 q.2))]
  · rw [if_neg e3]
    refine ⟨_, rfl, RZ_congr (RZ_zu h (k := 48 + 12 * slotN Z b + numN Z b) (x := v) (by omega)) (fun k hk => ?_)⟩
    unfold wrZ zu
    by_cases q1 : k = 48 + 12 * slotN Z b + numN Z b
    · rw [if_pos (Or.inl q1), if_pos q1]
    · rw [if_neg q1, if_neg (fun q => q.elim q1 (fun q => e3 q.1))]
end
theorem L_write_in {c c' : VC} {o : Nat → Int64} {a1 a2 x : Int32} (h : f_X5_write c a1 a2 = some (.inr (x, c'))) : f_L_write c o a1 a2 = some (0, c', vp_updL o 0 x.toInt64) := by unfold f_L_write; rw [h]; rfl
theorem op_write {T : Nat} (c : VC) (mo : VM) (o : Nat → Int64) (a1 a2 : Int32) (h : Iv T (c, (mo, o))) : Ok T (callG (f_L_write c o a1 a2) (f_X6_write mo a1 a2)) := by
  unfold f_X6_write
  have hall := h
  obtain ⟨Z, SZ, n, KZ, kp, tx, len, hS, hT⟩ := h
  have hS0 := hS
  obtain ⟨W, hR, hZ, -⟩ := hS0
  rcases blk_or W hR hZ a1 with ⟨h1, g1⟩ | ⟨b, hb, rfl, h1, g1⟩
  · have e1 : f_X5_write c a1 a2 = some (.inl (1, c)) := by unfold f_X5_write; rw [h1]; rfl
    refine ⟨_, Iv.thr (t' := 1) (o' := o) hall (by omega), callG_th (c' := c) (x := 0) (k := 1) (by unfold f_L_write; rw [e1]; rfl) ?_ (by decide)⟩
    rw [g1]; rfl
  rw [g1, Option.bind_some, if_neg (by decide)]
  rcases w_or a2 (lo := 0) (hi := 99) (by omega) (by omega) with ⟨h2, g2⟩ | ⟨j, p1, q1, rfl, h2, g2⟩
  · have e1 : f_X5_write c (nI b) a2 = some (.inl (2, c)) := by unfold f_X5_write; rw [h1, Option.bind_some, if_neg (by decide), show f_X5_isWithin a2 0 99 = some 0 from h2]; rfl
    refine ⟨_, Iv.thr (t' := 2) (o' := o) hall (by omega), callG_th (c' := c) (x := 0) (k := 2) (by unfold f_L_write; rw [e1]; rfl) ?_ (by decide)⟩
    rw [show f_X6_in a2 0 99 = some 0 from g2]; rfl
  have hbl := W.blk
  have hcan := s_can W hR (b := b) (by omega)
  have hcc : (decide (b < blkN Z ∧ canN Z b)) = decide (canN Z b) := by simp [hb]
  rw [hcc] at hcan
  rw [show f_X6_in (nI j) 0 99 = some 1 from g2, Option.bind_some, if_neg (by decide), m_can W hZ hb, Option.bind_some]
  by_cases e : canN Z b
  · rw [if_neg (bI_t e)]
    obtain ⟨c', m2, SZ', n', hsv, hrec, hI, htx, hg0, hz, hm2⟩ := save hS
    have hR' : RS (gSt c' 0) Z := by rw [hg0]; exact hR
    have hZ2 : RZ m2.1 Z := by rw [hz]; exact hZ
    obtain ⟨z', hm, hz'⟩ := m_write (t := 0) (v := j) W hZ2 hb e hrec
    have hcl : f_X5_write c (nI b) (nI j) = some (.inr (nI (Z (48 + 12 * slotN Z b + numN Z b)), sSt c' 0 ((gSt c' 0).1, (gSt c' 0).2.1, (gSt c' 0).2.2.1, upd (gSt c' 0).2.2.2.1 b (nI j), (gSt c' 0).2.2.2.2))) := by
      unfold f_X5_write
      rw [h1, Option.bind_some, if_neg (by decide), show f_X5_isWithin (nI j) 0 99 = some 1 from h2, Option.bind_some, if_neg (by decide), hcan, Option.bind_some, if_neg (bI_t e), hsv, Option.bind_some, s_exch W hR' hb, Option.bind_some]
    exact op_end (Z' := wrZ Z b j) hI (Nat.le_refl _) hT htx hm2 (L_write_in hcl) hm (gSt_sSt0 _ _) (fun k hk _ => gSt_ne _ _ hk) rfl (WF_wr W hb q1) (wr_RS W hR' hb) hz'
  · rw [if_pos (bI_f e)]
    have e1 : f_X5_write c (nI b) (nI j) = some (.inl (3, c)) := by unfold f_X5_write; rw [h1, Option.bind_some, if_neg (by decide), show f_X5_isWithin (nI j) 0 99 = some 1 from h2, Option.bind_some, if_neg (by decide), hcan, Option.bind_some, if_pos (bI_f e)]
    exact ⟨_, Iv.thr (t' := 3) (o' := o) hall (by omega), callG_th (c' := c) (x := 0) (k := 3) (by unfold f_L_write; rw [e1]; rfl) rfl (by decide)⟩
