-- ===== rest and set =====
def zu (Z : Nat → Nat) (k x : Nat) : Nat → Nat := fun j => if j = k then x else Z j
theorem zu_ne {Z : Nat → Nat} {k x j : Nat} (h : j ≠ k) : zu Z k x j = Z j := if_neg h
theorem zu_eq {Z : Nat → Nat} {k x : Nat} : zu Z k x k = x := if_pos rfl
theorem RZ_zu {z : Nat → Int32} {Z : Nat → Nat} {k x : Nat} (h : RZ z Z) (h4 : k ≠ 40) : RZ (upd z k (nI x)) (zu Z k x) := by
  intro j hj
  unfold zOf
  by_cases e : j = k
  · subst e
    rw [upd_eq, if_neg h4, zu_eq]
  · rw [upd_ne _ _ e, h j hj, zu_ne e, zu_ne (fun q => h4 q.symm)]; rfl
theorem m_aup (m : VM) {k : Nat} (hk : k < 96) (x : Int32) : aup 96 m.2.1 (nI k) x = some (upd m.2.1 k x) := p_aup hk (by omega)
section
variable {T : Nat} {Z : Nat → Nat} {k x : Nat} {st : VSt}
theorem zu_SL (h : 40 < k) : SL Z (zu Z k x) := fun j _ h2 => zu_ne (by omega)
theorem zu_gt (h : 40 < k) {s j : Nat} (hs : s < 4) (hj : j < 9) : gt (zu Z k x) s j = gt Z s j := by unfold gt; rw [zu_ne (by omega), zu_ne (by omega)]
theorem zu_K (h : 40 < k) {sk : VSk} (r : RK sk Z) : RK sk (zu Z k x) := fun s hs => by
  rw [zu_gt h hs (by omega), zu_gt h hs (by omega), zu_gt h hs (by omega), zu_gt h hs (by omega), zu_gt h hs (by omega), zu_ne (by omega)]
  exact r s hs
theorem WF_zu (W : WF T Z) {T' : Nat} (h : 40 < k) (h2 : k < 48) (hT : T ≤ T') (h41 : k = 41 → Z 41 ≤ x) (hx : (k = 46 → x ≤ 2) ∧ (k = 47 → x ≤ 1) ∧ x ≤ T' + 2) (hx2 : k < 46 → x ≤ T') : WF T' (zu Z k x) := by
  obtain ⟨a0, a1, a2, a3, a4, a5, a6, a7, a8, a9, a10, a11⟩ := W.mono hT
  have hs := zu_SL (Z := Z) (x := x) h
  have ev : ∀ j, zu Z k x j = if j = k then x else Z j := fun _ => rfl
  refine ⟨fun q hq => ?_, ?_, ?_, ?_, ?_, ?_, ?_, ?_, ?_, ?_, ?_, ?_⟩
  · obtain ⟨w0, w1, w2, w3, w4, w5, w6, w7, w8, w9, w10, w11⟩ := a0 q hq
    rw [zu_ne (j := 9 * q) (by omega), zu_ne (j := 9 * q + 1) (by omega), zu_ne (j := 9 * q + 2) (by omega), zu_ne (j := 9 * q + 3) (by omega), zu_ne (j := 9 * q + 4) (by omega), zu_ne (j := 9 * q + 5) (by omega), zu_ne (j := 9 * q + 6) (by omega), zu_ne (j := 9 * q + 7) (by omega), zu_ne (j := 9 * q + 8) (by omega), zu_ne (j := 36 + q) (by omega)]
    refine ⟨w0, w1, w2, w3, w4, w5, w6, ?_, ?_, w9, w10, w11⟩
    · rw [ev 41]; split <;> omega
    · rw [ev 41]; split <;> omega
  · rw [zu_ne (by omega)]; exact a1
  · rw [zu_ne (by omega)]
    intro e q hq
    rw [zu_ne (by omega), zu_ne (by omega)]
    exact a2 e q hq
  · rw [ev 41]; split <;> omega
  · rw [ev 42]; split <;> omega
  · rw [ev 43]; split <;> omega
  · rw [ev 44]; split <;> omega
  · rw [ev 45]; split <;> omega
  · rw [ev 46]; split <;> omega
  · rw [ev 47]; split <;> omega
  · intro j h1 h2
    rw [zu_ne (by omega)]; exact a10 j h1 h2
  · rw [zu_ne (by omega)]
    intro e b hb
    rw [hs.blk] at hb
    have b1 := slot_lt Z b
    rw [hs.slot, hs.num, hs.sl (by omega), hs.nu (by omega), zu_ne (by omega), zu_ne (by omega)]
    exact a11 e b hb
end
theorem L_rest_in {c c' : VC} {o : Nat → Int64} {a1 x : Int32} (h : f_X5_rest c a1 = some (.inr (x, c'))) : f_L_rest c o a1 = some (0, c', vp_updL o 0 x.toInt64) := by unfold f_L_rest; rw [h]; rfl
theorem op_rest {T : Nat} (c : VC) (mo : VM) (o : Nat → Int64) (a1 : Int32) (h : Iv T (c, (mo, o))) : Ok (T + 99) (callG (f_L_rest c o a1) (f_X6_rest mo a1)) := by
  unfold f_X6_rest
  rcases w_or a1 (lo := 1) (hi := 99) (by omega) (by omega) with ⟨h1, g1⟩ | ⟨j, p1, q1, rfl, h1, g1⟩
  · have e1 : f_X5_rest c a1 = some (.inl (2, c)) := by unfold f_X5_rest; rw [show f_X5_isWithin a1 1 99 = some 0 from h1]; rfl
    refine ⟨_, Iv.thr (t' := 1) (o' := o) h (by omega), callG_th (c' := c) (x := 0) (k := 1) (by unfold f_L_rest; rw [e1]; rfl) ?_ (by decide)⟩
    rw [show f_X6_in a1 1 99 = some 0 from g1]; rfl
  obtain ⟨Z, SZ, n, KZ, kp, tx, len, hS, hT⟩ := h
  have hS0 := hS
  obtain ⟨W, hR, hZ, -⟩ := hS0
  obtain ⟨c', m2, SZ', n', hsv, hrec, hI, htx, hg0, hz, hm2⟩ := save hS
  have hR' : RS (gSt c' 0) Z := by rw [hg0]; exact hR
  have hZ2 : RZ m2.1 Z := by rw [hz]; exact hZ
  have hcl : f_X5_rest c (nI j) = some (.inr (nI (Z 41 + j), sCk c' 0 ((gSt c' 0).2.2.1.1, nI (Z 41 + j), (gSt c' 0).2.2.1.2.2))) := by
    unfold f_X5_rest
    rw [show f_X5_isWithin (nI j) 1 99 = some 1 from h1, Option.bind_some, if_neg (by decide), hsv, Option.bind_some]
    unfold f_X0_pass
    rw [Option.bind_some]
    have e2 : (c'.2.2.1 0).2.1 = nI (Z 41) := hR'.2.2.1.2.1
    have e3 : ((sCk c' 0 ((c'.2.2.1 0).1, (c'.2.2.1 0).2.1 + nI j, (c'.2.2.1 0).2.2)).2.2.1 0).2.1 = nI (Z 41 + j) := by
      rw [sCk_get, e2]
      exact nI_add _ _
    rw [e3, e2, nI_add]; rfl
  refine op_end (Z' := zu Z 41 (Z 41 + j)) hI (by omega) hT htx hm2 (L_rest_in hcl) (z' := upd m2.1 41 (nI (Z 41 + j))) (a' := m2.2.1) ?_ (gCk0 _ _) (fun k hk _ => gCk_ne _ _ hk) rfl (WF_zu W (by omega) (by omega) (by omega) (fun _ => by omega) ⟨fun q => by omega, fun q => by omega, by have := W.2.2.2.1; omega⟩ (fun _ => by have := W.2.2.2.1; omega)) ?_ (RZ_zu hZ2 (by omega))
  · rw [show f_X6_in (nI j) 1 99 = some 1 from g1, Option.bind_some, if_neg (by decide)]
    unfold b_X6_rest_16
    rw [if_neg (by decide), hrec, Option.bind_some, i41, m_at (m := (0, m2)) hZ2 (by omega) (by omega), Option.bind_some, nI_add, m_aup (0, m2) (by omega), Option.bind_some, p_ard (by omega) (by omega), Option.bind_some, upd_eq]
  · obtain ⟨hk, hl, hc, hv, hi⟩ := hR'
    have hsl := zu_SL (Z := Z) (k := 41) (x := Z 41 + j) (by omega)
    refine ⟨zu_K (by omega) hk, hsl.ly hl, ⟨fun q hq => ?_, zu_eq.symm ▸ rfl, ?_⟩, hsl.vl (fun k h1 _ => zu_ne (by omega)) W hv, ?_⟩
    · rw [zu_ne (by omega), zu_ne (by omega)]; exact hc.1 q hq
    · rw [zu_ne (by omega)]; exact hc.2.2
    · unfold RI
      rw [zu_ne (by omega), zu_ne (by omega), zu_ne (by omega), zu_ne (by omega), zu_ne (by omega)]
      exact hi
