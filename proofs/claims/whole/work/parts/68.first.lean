-- ===== firstError; readings that rise =====
theorem IvT.cd {tv : VTx} {r : R4} {tx : Nat → Nat} {len : Nat} (h : IvT tv r tx len) : CdX tv.1 tx len ∧ RTx r tx len ∧ tv = (tv.1, nI len, tv.2.2) := by
  obtain ⟨t1, t2, t3, t4⟩ := h
  refine ⟨⟨t1, fun i hi => ⟨(t4 i hi).1, (t4 i hi).2.2⟩⟩, ⟨t1, t3, fun i hi => (t4 i hi).2⟩, ?_⟩
  rw [← t2]
theorem IvT.mk2 {tv : VTx} {r r' : R4} {q : S5} {tx : Nat → Nat} {len : Nat} (h : IvT tv r tx len) (h1 : r'.1 = r.1) (h2 : r'.2.1 = r.2.1) : IvT (tv.1, nI len, q) r' tx len := by
  obtain ⟨t1, t2, t3, t4⟩ := h
  exact ⟨t1, rfl, h2.trans t3, fun i hi => by rw [h1]; exact t4 i hi⟩
theorem op_first {T : Nat} (c : VC) (mo : VM) (o : Nat → Int64) (h : Iv T (c, (mo, o))) : Ok T (sameG (f_X5_firstError c) (f_X6_firstError mo) o) := by
  obtain ⟨Z, SZ, n, KZ, kp, tx, len, hS, hT⟩ := h
  obtain ⟨h1, h2, h3⟩ := hT.cd
  obtain ⟨n, hn, hc, hx⟩ := ch_ex (tx := tx) (len := len) h1.1
  have h60 := h1.1
  obtain ⟨q, g1, g2, g3⟩ := c_scan h1 hn hc hx c.2.2.2.2.2.1.2.2
  obtain ⟨r', f1, f2, f3⟩ := m_find (m := (0, mo.2)) h2 hn hc hx
  have hcs : f_X5_firstError c = some (if okP tx len (ppN tx len n) then nI (enP tx len (ppN tx len n)) else nI (erP tx len (ppN tx len n)), sTx c (c.2.2.2.2.2.1.1, nI len, q)) := by
    unfold f_X5_firstError
    rw [h3.trans rfl, g1, Option.bind_some]
  have hms : f_X6_firstError mo = some (if okP tx len (ppN tx len n) then nI (enP tx len (ppN tx len n)) else nI (erP tx len (ppN tx len n)), MT (0, mo.2) r') := by
    unfold f_X6_firstError
    have f4 : f_X6_findError (0, mo.2) = _ := f3
    rw [f4, Option.bind_some]
    dsimp only
    by_cases e : okP tx len (ppN tx len n)
    · have hle := enP_le e
      rw [if_pos e, if_pos e]
      by_cases e2 : enP tx len (ppN tx len n) = len
      · rw [if_pos e2, if_pos (by decide), e2, show (MT (0, mo.2) r').2.2.2.2.2.2.2.2.1 = nI len from f2.trans h2.2.1]
      · rw [if_neg e2, if_neg (nI_pos (by omega))]
    · have := (g3 e).2
      rw [if_neg e, if_neg e, if_neg (nI_pos (by omega))]
  exact ⟨(sTx c (c.2.2.2.2.2.1.1, nI len, q), (MT (0, mo.2) r', o)), ⟨Z, SZ, _, KZ, kp, tx, len, hS.tx (c.2.2.2.2.2.1.1, nI len, q) 0 r', hT.mk2 f1 f2⟩, sameG_ok hcs hms⟩
section
variable (tx : Nat → Nat) (len : Nat)
def riN : Nat → Bool
  | 0 => true
  | j + 1 => riN j && decide (vaB tx len (ppN tx len j) ≤ toP tx len (ppN tx len j))
def gdP (n : Nat) : Prop := n < 30 ∧ (∀ j, j < n → chP tx len j) ∧ okP tx len (ppN tx len n) ∧ enP tx len (ppN tx len n) = len
end
section
variable {tx : Nat → Nat} {len p k i n : Nat} {cd F L : Nat → Int32} {nl : Int32}
theorem gd_ok (h : gdP tx len n) {j : Nat} (hj : j ≤ n) : okP tx len (ppN tx len j) := by
  by_cases e : j = n
  · rw [e]; exact h.2.2.1
  · exact (h.2.1 j (by omega)).1
theorem gd_pp (h : gdP tx len n) : ppN tx len (n + 1) = len + 1 := by
  show enP tx len (ppN tx len n) + 1 = len + 1
  rw [h.2.2.2]
theorem ri_false {j : Nat} (h : riN tx len j = false) : ∀ d, riN tx len (j + d) = false
  | 0 => h
  | d + 1 => by
    show (riN tx len (j + d) && _) = false
    rw [ri_false h d]; rfl
theorem ri_T {j : Nat} (h : riN tx len j = true) (h2 : vaB tx len (ppN tx len j) ≤ toP tx len (ppN tx len j)) : riN tx len (j + 1) = true := by
  show (riN tx len j && _) = true
  rw [h, decide_eq_true h2]; rfl
theorem ri_F {j : Nat} (h2 : ¬ vaB tx len (ppN tx len j) ≤ toP tx len (ppN tx len j)) : riN tx len (j + 1) = false := by
  show (riN tx len j && _) = false
  rw [decide_eq_false h2]; cases riN tx len j <;> rfl
theorem c_rise (h : gdP tx len n) {w x : Int32} (hF : ∀ j, j ≤ n → F j = nI (vaB tx len (ppN tx len j)) ∧ L j = nI (toP tx len (ppN tx len j))) : ∀ (d j f : Nat), j + d = n + 1 → d < f → riN tx len j = true → l_X4_tellsReadings_23 f (cd, nl, F, L, nI n, w, x) (nI j) = some (bI (riN tx len (n + 1)), (cd, nl, F, L, nI n, w, x)) := by
  have hn := h.1
  intro d
  induction d with
  | zero =>
    intro j f hj hf hr
    obtain ⟨f, rfl⟩ := Nat.exists_eq_succ_of_ne_zero (show f ≠ 0 by omega)
    unfold l_X4_tellsReadings_23
    dsimp only
    rw [if_pos (nI_lt (by omega) (by omega)), show n + 1 = j by omega, hr]; rfl
  | succ d ih =>
    intro j f hj hf hr
    obtain ⟨f, rfl⟩ := Nat.exists_eq_succ_of_ne_zero (show f ≠ 0 by omega)
    have ho := gd_ok h (j := j) (by omega)
    have h1 := (enP_le ho).2
    have h2 := (enB_le ho.1).2
    unfold l_X4_tellsReadings_23
    dsimp only
    rw [if_neg (nI_nlt (by omega) (by omega))]
    unfold f_X4_lastOf f_X4_firstOf
    dsimp only
    rw [p_entry (by omega) (by omega), p_entry (by omega) (by omega), Option.bind_some, Option.bind_some, Option.bind_some, Option.bind_some, (hF j (by omega)).1, (hF j (by omega)).2]
    simp (discharger := omega) only [nI_ltI]
    by_cases e : vaB tx len (ppN tx len j) ≤ toP tx len (ppN tx len j)
    · rw [if_neg (by omega), i1, nI_add]
      exact ih (j + 1) f (by omega) (by omega) (ri_T hr e)
    · rw [if_pos (by omega), show n + 1 = (j + 1) + d by omega, ri_false (ri_F e)]; rfl
theorem m_rise {m : VM} (h : gdP tx len n) : ∀ (d j f : Nat) (r : R4), RTx r tx len → j + d = n + 1 → d < f → ∃ r' : R4, r'.1 = r.1 ∧ r'.2.1 = r.2.1 ∧ l_X6_areRising_4 f (MT m r) (bI (riN tx len j)) (nI (ppN tx len j)) = some (bI (riN tx len (n + 1)), MT m r') := by
  have hn := h.1
  intro d
  induction d with
  | zero =>
    intro j f r hr hj hf
    obtain ⟨f, rfl⟩ := Nat.exists_eq_succ_of_ne_zero (show f ≠ 0 by omega)
    have h60 := hr.1
    have hl : (MT m r).2.2.2.2.2.2.2.2.1 = nI len := hr.2.1
    refine ⟨r, rfl, rfl, ?_⟩
    unfold l_X6_areRising_4
    rw [hl, show j = n + 1 by omega, gd_pp h, if_neg (nI_nlt (by omega) (by omega)), bck_b]; rfl
  | succ d ih =>
    intro j f r hr hj hf
    obtain ⟨f, rfl⟩ := Nat.exists_eq_succ_of_ne_zero (show f ≠ 0 by omega)
    have h60 := hr.1
    have hl : (MT m r).2.2.2.2.2.2.2.2.1 = nI len := hr.2.1
    have ho := gd_ok h (j := j) (by omega)
    have hpl := ho.1.1
    have h1 := (enP_le ho).2
    have h2 := (enB_le ho.1).2
    obtain ⟨r', k1, k2, k3⟩ := ih (j + 1) f (r.1, r.2.1, nI (vaB tx len (ppN tx len j)), nI (toP tx len (ppN tx len j))) (hr.to rfl rfl) (by omega) (by omega)
    refine ⟨r', k1, k2, ?_⟩
    unfold l_X6_areRising_4
    rw [hl, if_pos (nI_lt hpl (by omega)), (m_part (m := m) hr (p := ppN tx len j) (by omega)).1 ho, Option.bind_some]
    dsimp only
    rw [i1, nI_add]
    rw [show (MT m (r.1, r.2.1, nI (vaB tx len (ppN tx len j)), nI (toP tx len (ppN tx len j)))).2.2.2.2.2.2.2.2.2.2 = nI (toP tx len (ppN tx len j)) from rfl, show (MT m (r.1, r.2.1, nI (vaB tx len (ppN tx len j)), nI (toP tx len (ppN tx len j)))).2.2.2.2.2.2.2.2.2.1 = nI (vaB tx len (ppN tx len j)) from rfl]
    simp (discharger := omega) only [nI_ltI]
    change _ = some (bI (riN tx len (n + 1)), MT m r') at k3
    by_cases er : riN tx len j = false
    · rw [er, if_pos (by decide)]
      rw [show riN tx len (j + 1) = false from ri_false er 1] at k3
      exact k3
    · have er' : riN tx len j = true := by cases e : riN tx len j <;> simp [e] at er ⊢
      rw [er', if_neg (by decide)]
      by_cases e : vaB tx len (ppN tx len j) ≤ toP tx len (ppN tx len j)
      · rw [if_neg (by omega)]
        rw [ri_T er' e] at k3
        exact k3
      · rw [if_pos (by omega)]
        rw [ri_F e] at k3
        exact k3
end
