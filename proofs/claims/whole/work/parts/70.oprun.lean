-- ===== run: the call =====
theorem L_run_in {c c' : VC} {o : Nat → Int64} {x : Int32} (h : f_X5_run c = some (.inr (x, c'))) : f_L_run c o = some (0, c', vp_updL o 0 x.toInt64) := by unfold f_L_run; rw [h]; rfl
/-- does the buffer tell readings, on both sides -/
theorem tells {tv : VTx} {r : R4} {tx : Nat → Nat} {len : Nat} (m : VM) (h : IvT tv r tx len) :
    ∃ (q : S5) (r' : R4), r'.1 = r.1 ∧ r'.2.1 = r.2.1 ∧
      ((f_X4_tellsReadings tv = some (0, (tv.1, nI len, q)) ∧ ∀ o : VM, f_X6_run (MT m r) = b_X6_run_20 (MT m r') 1) ∨
       (∃ n, gdP tx len n ∧ (∀ j, j ≤ n → q.1 j = nI (vaB tx len (ppN tx len j)) ∧ q.2.1 j = nI (toP tx len (ppN tx len j))) ∧ q.2.2.1 = nI n ∧
        f_X4_tellsReadings tv = some (1, (tv.1, nI len, q)) ∧ f_X6_run (MT m r) = b_X6_run_20 (MT m r') 0)) := by
  obtain ⟨h1, h2, h3⟩ := h.cd
  obtain ⟨n, hn, hc, hx⟩ := ch_ex (tx := tx) (len := len) h1.1
  have h60 := h1.1
  obtain ⟨q, g1, g2, g3⟩ := c_scan h1 hn hc hx tv.2.2
  obtain ⟨r', f1, f2, f3⟩ := m_find (m := m) h2 hn hc hx
  rw [← h3] at g1
  by_cases e : okP tx len (ppN tx len n)
  · have hle := enP_le e
    obtain ⟨b1, b2, b3, b4⟩ := g2 e
    rw [if_pos e] at g1 f3
    by_cases e2 : enP tx len (ppN tx len n) = len
    · rw [if_pos e2] at f3
      have hg : gdP tx len n := ⟨b1, hc, e, e2⟩
      have hr' := h2.to f1 f2
      obtain ⟨r2, k1, k2, k3⟩ := m_rise (m := m) hg (n + 1) 0 FU r' hr' (by omega) (by have : FU = 1000 := rfl; omega)
      have hq : q = (q.1, q.2.1, nI n, q.2.2.2.1, q.2.2.2.2) := by rw [← b3]
      have hcr := c_rise (cd := tv.1) (nl := nI len) (w := q.2.2.2.1) (x := q.2.2.2.2) hg b4 (n + 1) 0 FU (by omega) (by have : FU = 1000 := rfl; omega) rfl
      rw [← hq] at hcr
      have hct : f_X4_tellsReadings tv = some (bI (riN tx len (n + 1)), (tv.1, nI len, q)) := by
        unfold f_X4_tellsReadings
        rw [g1, Option.bind_some]
        dsimp only
        rw [e2, if_neg (nI_nlt (Nat.le_refl _) (by omega)), b2, if_neg (nI_nm1 (by omega))]
        exact hcr
      have hmt : f_X6_run (MT m r) = if bI (riN tx len (n + 1)) = 0 then b_X6_run_20 (MT m r2) 1 else b_X6_run_20 (MT m r2) 0 := by
        unfold f_X6_run
        rw [f3, Option.bind_some]
        dsimp only
        rw [if_pos (by decide)]
        have : f_X6_areRising (MT m r') = some (bI (riN tx len (n + 1)), MT m r2) := k3
        rw [this, Option.bind_some]
      refine ⟨q, r2, k1.trans f1, k2.trans f2, ?_⟩
      cases hri : riN tx len (n + 1) with
      | true =>
        right
        rw [hri] at hct hmt
        exact ⟨n, hg, b4, b3, hct, by rw [hmt, if_neg (by decide)]⟩
      | false =>
        left
        rw [hri] at hct hmt
        exact ⟨hct, fun _ => by rw [hmt, if_pos (by decide)]⟩
    · rw [if_neg e2] at f3
      refine ⟨q, r', f1, f2, Or.inl ⟨?_, fun _ => ?_⟩⟩
      · unfold f_X4_tellsReadings
        rw [g1, Option.bind_some]
        dsimp only
        rw [if_pos (nI_lt (by omega) (by omega))]
      · unfold f_X6_run
        rw [f3, Option.bind_some]
        dsimp only
        rw [if_neg (nI_pos (by omega))]
  · obtain ⟨b1, b2⟩ := g3 e
    rw [if_neg e] at g1 f3
    refine ⟨q, r', f1, f2, Or.inl ⟨?_, fun _ => ?_⟩⟩
    · unfold f_X4_tellsReadings
      rw [g1, Option.bind_some]
      dsimp only
      rw [b1]
      by_cases e3 : erP tx len (ppN tx len n) < len
      · rw [if_pos (nI_lt e3 (by omega))]
      · rw [if_neg (nI_nlt (by omega) (by omega)), if_pos rfl]
    · unfold f_X6_run
      rw [f3, Option.bind_some]
      dsimp only
      rw [if_neg (nI_pos (by omega))]
theorem run_T {T n : Nat} (h : T < 16000000) (hn : n < 30) : T + 588 * (n + 1) + 100 < 2 ^ 24 := by omega
theorem op_run {T : Nat} (hT24 : T < 16000000) (c : VC) (mo : VM) (o : Nat → Int64) (h : Iv T (c, (mo, o))) : Ok (T + 18000) (callG (f_L_run c o) (f_X6_run mo)) := by
  obtain ⟨Z, SZ, n0, KZ, kp, tx, len, hS, hT⟩ := h
  obtain ⟨q, r', f1, f2, hq⟩ := tells mo hT
  have hS1 : IvS T (sTx c (c.2.2.2.2.2.1.1, nI len, q)) (MT mo r') Z SZ n0 KZ kp := hS.tx _ _ _
  have hT1 : IvT (c.2.2.2.2.2.1.1, nI len, q) r' tx len := hT.mk2 f1 f2
  rcases hq with ⟨h1, h2⟩ | ⟨n, hg, hF, hqn, h1, h2⟩
  · have e1 : f_X5_run c = some (.inl (2, sTx c (c.2.2.2.2.2.1.1, nI len, q))) := by
      unfold f_X5_run
      rw [h1, Option.bind_some, if_pos rfl]
    have e2 : f_X6_run mo = some (0, (1, (MT mo r').2)) := by
      rw [show f_X6_run mo = b_X6_run_20 (MT mo r') 1 from h2 mo]; rfl
    have hI : Iv T (sTx c (c.2.2.2.2.2.1.1, nI len, q), (MT mo r', o)) := ⟨Z, SZ, n0, KZ, kp, tx, len, hS1, hT1⟩
    exact ⟨_, Iv.thr (t' := 1) (o' := o) hI (by omega), callG_th (x := 0) (k := 1) (by unfold f_L_run; rw [e1]; rfl) e2 (by decide)⟩
  · have hS0 := hS1
    obtain ⟨W, hR, hZ, -⟩ := hS0
    obtain ⟨c', m2, SZ', n', hsv, hrec, hI, htx, hg0, hz, hm2⟩ := save hS1
    have hR' : RS (gSt c' 0) Z := by rw [hg0]; exact hR
    have hZ2 : RZ m2.1 Z := by rw [hz]; exact hZ
    have hr2 : RTx m2.2.2.2.2.2.2 tx len := by rw [hm2]; exact hT1.cd.2.1
    have hqq : q = (q.1, q.2.1, nI n, q.2.2.2.1, q.2.2.2.2) := by rw [← hqn]
    have hn := hg.1
    have hfu : FU = 1000 := rfl
    obtain ⟨st', z', Z', sum', r2, k1, k2, k3, k4, k5, k6⟩ := rd_out (cd := c.2.2.2.2.2.1.1) (nl := nI len) (w := q.2.2.2.1) (x := q.2.2.2.2) hg hF 0 m2.2.1 m2.2.2.1 m2.2.2.2.2.1 m2.2.2.2.1 m2.2.2.2.2.2.1 (n + 1) 0 0 T FU FU (gSt c' 0) m2.1 Z m2.2.2.2.2.2.2 (Nat.zero_add _) hr2 hR' hZ2 W (run_T hT24 hn) (by rw [hfu]; omega) (by rw [hfu]; omega)
    rw [← hqq] at k5
    have htx2 : c'.2.2.2.2.2.1 = (c.2.2.2.2.2.1.1, nI len, q) := htx
    have hcl : f_X5_run c = some (.inr (nI sum', sTx (sSt c' 0 st') (c'.2.2.2.2.2.1.1, 0, c'.2.2.2.2.2.1.2.2))) := by
      unfold f_X5_run
      rw [h1, Option.bind_some, if_neg (show ¬ (1 : Int32) = 0 by decide), hsv, Option.bind_some, htx2]
      have : f_X2_readAll (gSt c' 0) (c.2.2.2.2.2.1.1, nI len, q) = some (nI sum', st') := k5
      rw [this, Option.bind_some]
      unfold f_X4_empty
      rw [Option.bind_some, show (sSt c' 0 (nI sum', st').2).2.2.2.2.2.1 = c'.2.2.2.2.2.1 from rfl, htx2]
    have hm : f_X6_run mo = some (nI sum', (0, z', m2.2.1, m2.2.2.1, m2.2.2.2.1, m2.2.2.2.2.1, m2.2.2.2.2.2.1, r2)) := by
      rw [show f_X6_run mo = b_X6_run_20 (MT mo r') 0 from h2]
      unfold b_X6_run_20
      rw [if_neg (by decide), hrec, Option.bind_some]
      exact k6
    refine ⟨(sTx (sSt c' 0 st') (c'.2.2.2.2.2.1.1, 0, c'.2.2.2.2.2.1.2.2), ((0, z', m2.2.1, m2.2.2.1, m2.2.2.2.1, m2.2.2.2.2.1, m2.2.2.2.2.2.1, r2), vp_updL o 0 (nI sum').toInt64)), ?_, callG_ok (L_run_in hcl) hm⟩
    have hfin : IvS (T + 18000) (sSt c' 0 st') (0, z', m2.2.1, m2.2.2) Z' SZ' n' KZ kp := IvS.to (hI 0) (by omega) st' z' m2.2.1 (gSt_sSt0 _ _) (fun k hk _ => gSt_ne _ _ hk) rfl (k3.mono (by omega)) k1 k2
    exact ⟨Z', SZ', n', KZ, kp, tx, 0, hfin.tx (c'.2.2.2.2.2.1.1, 0, c'.2.2.2.2.2.1.2.2) 0 r2, by omega, rfl, k4, fun i hi => by omega⟩
