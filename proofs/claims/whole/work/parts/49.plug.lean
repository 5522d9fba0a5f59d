-- ===== plug =====
theorem p_slot0 {s : Nat} (hs : s < 4) : ¬ (1 : Int32) = 0 := by decide
theorem k_put (v : VSk) {s : Nat} (hs : s < 4) (a b d : Int32) : f_X3_put v (nI s) a b d = some (upd v.1 s a, upd v.2.1 s b, upd v.2.2.1 s d, upd v.2.2.2.1 s (nI 0), upd v.2.2.2.2.1 s (nI 0), upd v.2.2.2.2.2 s (nI 0)) := by
  unfold f_X3_put
  rw [p_slot hs, Option.bind_some, if_neg (by decide)]
  simp (discharger := omega) only [i0, p_aup, p_aupz, Option.bind_some]
theorem c_freeSlot (v : VCk) {s : Nat} (hs : s < 4) : f_X0_freeSlot v (nI s) = some (upd (upd v.1 (2 * s) (nI 0)) (2 * s + 1) (nI 0), v.2) := by
  unfold f_X0_freeSlot
  rw [p_slot hs, Option.bind_some, if_neg (by decide), i2, i1, pk_mul, nI_add]
  simp (discharger := omega) only [i0, p_aup, Option.bind_some]
theorem L_plug_in {c c' : VC} {o : Nat → Int64} {a1 a2 a3 a4 x : Int32} (h : f_X5_plug c a1 a2 a3 a4 = some (.inr (x, c'))) : f_L_plug c o a1 a2 a3 a4 = some (0, c', vp_updL o 0 x.toInt64) := by unfold f_L_plug; rw [h]; rfl
theorem L_plug_th {c c' : VC} {o : Nat → Int64} {a1 a2 a3 a4 : Int32} {n : Nat} (h : f_X5_plug c a1 a2 a3 a4 = some (.inl (n, c'))) (hn : 1 ≤ n ∧ n ≤ 3) : f_L_plug c o a1 a2 a3 a4 = some (nI n, c', o) := by
  unfold f_L_plug
  rw [h]
  rcases (show n = 1 ∨ n = 2 ∨ n = 3 by omega) with rfl | rfl | rfl <;> rfl
def plugG (Z : Nat → Nat) (s a b d : Nat) : Nat → Nat := gput (gput (gput (gput (gput (gput (gput (gput (gput (fun j => Z (9 * s + j)) 0 1) 1 a) 2 b) 3 d) 4 0) 5 0) 6 0) 7 0) 8 0
theorem plugG_at (Z : Nat → Nat) (s a b d : Nat) : plugG Z s a b d 0 = 1 ∧ plugG Z s a b d 1 = a ∧ plugG Z s a b d 2 = b ∧ plugG Z s a b d 3 = d ∧ plugG Z s a b d 4 = 0 ∧ plugG Z s a b d 5 = 0 ∧ plugG Z s a b d 6 = 0 ∧ plugG Z s a b d 7 = 0 ∧ plugG Z s a b d 8 = 0 := by
  simp [plugG, gput]
theorem m_plug71 {T : Nat} {Z : Nat → Nat} {c : VC} {mo : VM} {SZ : Nat → Nat → Nat} {n : Nat} {KZ : Nat → Nat} {kp : Nat} {m2 : M2} (hrec : ∀ t, f_X6_record (t, mo.2) = some (t, m2)) (hz : RZ m2.1 Z) (W : WF T Z) {s a b d : Nat} (hs : s < 4) (W' : WF T (rowZ Z s (plugG Z s a b d))) :
    ∃ z', RZ z' (rowZ Z s (plugG Z s a b d)) ∧ b_X6_plug_71 mo (nI s) (nI a) (nI b) (nI d) (nI 0) = some (nI (onesN (rowZ Z s (plugG Z s a b d))), (nI 0, z', m2.2)) := by
  have r0 : RZ m2.1 (rowZ Z s (fun j => Z (9 * s + j))) := by rw [rowZ_id]; exact hz
  have r1 := RZ_put (x := 1) r0 hs (w := 0) (by omega)
  have r2 := RZ_put (x := a) r1 hs (w := 1) (by omega)
  have r3 := RZ_put (x := b) r2 hs (w := 2) (by omega)
  have r4 := RZ_put (x := d) r3 hs (w := 3) (by omega)
  have r5 := RZ_put (x := 0) r4 hs (w := 4) (by omega)
  have r6 := RZ_put (x := 0) r5 hs (w := 5) (by omega)
  have r7 := RZ_put (x := 0) r6 hs (w := 6) (by omega)
  have r8 := RZ_put (x := 0) r7 hs (w := 7) (by omega)
  have r9 := RZ_put (x := 0) r8 hs (w := 8) (by omega)
  refine ⟨_, r9, ?_⟩
  unfold b_X6_plug_71
  rw [i0, if_neg (by decide), hrec, Option.bind_some, i1, i2, i3, i4, i5, i6, i7, i8]
  simp only [m_put _ hs (show 0 < 9 by omega), m_put _ hs (show 1 < 9 by omega), m_put _ hs (show 2 < 9 by omega), m_put _ hs (show 3 < 9 by omega), m_put _ hs (show 4 < 9 by omega), m_put _ hs (show 5 < 9 by omega), m_put _ hs (show 6 < 9 by omega), m_put _ hs (show 7 < 9 by omega), m_put _ hs (show 8 < 9 by omega), Option.bind_some]
  have := m_ones (m := (nI 0, upd (upd (upd (upd (upd (upd (upd (upd (upd m2.1 (9 * s + 0) (nI 1)) (9 * s + 1) (nI a)) (9 * s + 2) (nI b)) (9 * s + 3) (nI d)) (9 * s + 4) (nI 0)) (9 * s + 5) (nI 0)) (9 * s + 6) (nI 0)) (9 * s + 7) (nI 0)) (9 * s + 8) (nI 0), m2.2)) W' r9
  rw [i0] at this
  rw [this, Option.bind_some]
theorem plug_RS {T : Nat} {Z : Nat → Nat} {st : VSt} (W : WF T Z) (h : RS st Z) {s a b d : Nat} (hs : s < 4) : RS ((upd st.1.1 s (nI a), upd st.1.2.1 s (nI b), upd st.1.2.2.1 s (nI d), upd st.1.2.2.2.1 s (nI 0), upd st.1.2.2.2.2.1 s (nI 0), upd st.1.2.2.2.2.2 s (nI 0)), st.2.1, (upd (upd st.2.2.1.1 (2 * s) (nI 0)) (2 * s + 1) (nI 0), st.2.2.1.2), st.2.2.2) (rowZ Z s (plugG Z s a b d)) := by
  obtain ⟨hk, hl, hc, hv, hi⟩ := h
  obtain ⟨p0, p1, p2, p3, p4, p5, p6, p7, p8⟩ := plugG_at Z s a b d
  have hsl := SL.row (Z := Z) s (plugG Z s a b d)
  refine ⟨fun q hq => ?_, hsl.ly hl, ⟨fun q hq => ?_, ?_, ?_⟩, hsl.vl (fun k h1 _ => rowZ_hi (by omega)) W hv, ?_⟩
  · have := hk q hq
    rw [gt_row hq (by omega), gt_row hq (by omega), gt_row hq (by omega), gt_row hq (by omega), gt_row hq (by omega), rowZ_at hq (by omega)]
    by_cases e : q = s
    · subst e
      simp [upd, p0, p1, p2, p3, p4, p5, p8]
    · simpa [upd, e] using this
  · have := hc.1 q hq
    rw [rowZ_at hq (by omega), rowZ_at hq (by omega)]
    by_cases e : q = s
    · subst e
      simp [upd, p6, p7]
    · dsimp only
      rw [upd_ne _ _ (by omega), upd_ne _ _ (by omega), upd_ne _ _ (by omega), upd_ne _ _ (by omega), if_neg e, if_neg e]
      exact this
  · rw [rowZ_hi (by omega)]; exact hc.2.1
  · rw [rowZ_hi (by omega)]; exact hc.2.2
  · unfold RI
    rw [rowZ_hi (by omega), rowZ_hi (by omega), rowZ_hi (by omega), rowZ_hi (by omega), rowZ_hi (by omega)]
    exact hi
theorem bind_inr {f : Option Int32} {B : VC} {r : Int32} (h : f = some r) : (f.bind fun x => some (Sum.inr (x, B) : (Nat × VC) ⊕ (Int32 × VC))) = some (.inr (r, B)) := by rw [h]; rfl
theorem op_plug {T : Nat} (c : VC) (mo : VM) (o : Nat → Int64) (a1 a2 a3 a4 : Int32) (h : Iv T (c, (mo, o))) : Ok T (callG (f_L_plug c o a1 a2 a3 a4) (f_X6_plug mo a1 a2 a3 a4)) := by
  obtain ⟨b, hm, hb, hbf⟩ := mp_35 mo a1 a2 a3 a4
  rw [hm]
  unfold b_X6_plug_35
  rcases slot_or a1 with ⟨h1, g1⟩ | ⟨s, hs, rfl⟩
  · have e1 : f_X5_plug c a1 a2 a3 a4 = some (.inl (1, c)) := by unfold f_X5_plug; rw [h1]; rfl
    refine ⟨_, Iv.thr (t' := nI 1) (o' := o) h (Nat.le_refl _), callG_th (L_plug_th e1 (by omega)) (x := 0) ?_ (by decide)⟩
    rw [g1]; rfl
  rw [m_isSlot hs, Option.bind_some, if_neg (by decide)]
  cases b with
  | false =>
    refine ⟨_, Iv.thr (t' := nI 2) (o' := o) h (Nat.le_refl _), callG_th (L_plug_th (hbf c s hs rfl) (by omega)) (x := 0) ?_ (by decide)⟩
    rfl
  | true =>
    obtain ⟨j2, j3, j4, p2, q2, rfl, p3, q3, rfl, p4, q4, rfl⟩ := hb rfl
    have hall := h
    obtain ⟨Z, SZ, n, KZ, kp, tx, len, hS, hT⟩ := h
    have hS0 := hS
    obtain ⟨W, hR, hZ, -⟩ := hS0
    have hc1 : ∀ X : Int32 → Option ((Nat × VC) ⊕ (Int32 × VC)), (f_X3_isPlugged (c.1 0) (nI s)).bind X = X (bI (decide (Z (9 * s) = 1))) := fun X => by rw [show c.1 0 = (gSt c 0).1 from rfl, k_plug W hR.1 hs, Option.bind_some]
    have hpre : f_X5_plug c (nI s) (nI j2) (nI j3) (nI j4) = if bI (decide (Z (9 * s) = 1)) = 0 then ((f_X5_saveState c).bind fun x82 => (f_X3_put (x82.1 0) (nI s) (nI j2) (nI j3) (nI j4)).bind fun x97 => (f_X0_freeSlot ((sSk x82 0 x97).2.2.1 0) (nI s)).bind fun x108 => (f_X3_pluggedOnes ((sCk (sSk x82 0 x97) 0 x108).1 0)).bind fun x118 => some (.inr (x118, (sCk (sSk x82 0 x97) 0 x108)))) else some (.inl (3, c)) := by
      unfold f_X5_plug
      rw [p_slot hs, Option.bind_some, if_neg (by decide), show (1 : Int32) = nI 1 from rfl, show (12 : Int32) = nI 12 from rfl, show (2 : Int32) = nI 2 from rfl, i9, p_within (by omega) (by omega) (by omega), Option.bind_some, if_neg (bI_t ⟨p2, q2⟩), p_within (by omega) (by omega) (by omega), Option.bind_some, if_neg (bI_t ⟨p3, q3⟩), p_within (by omega) (by omega) (by omega), Option.bind_some, if_neg (bI_t ⟨p4, q4⟩), hc1]
    rw [if_neg (show ¬ bI true = 0 by decide), m_there W hZ hs, Option.bind_some]
    by_cases e : Z (9 * s) = 1
    · rw [if_neg (bI_t e)] at hpre
      rw [if_neg (bI_t e)]
      refine ⟨_, Iv.thr (t' := nI 3) (o' := o) hall (Nat.le_refl _), callG_th (L_plug_th hpre (by omega)) (x := 0) ?_ (by decide)⟩
      rfl
    · rw [if_pos (bI_f e)] at hpre
      rw [if_pos (bI_f e)]
      obtain ⟨c', m2, SZ', n', hsv, hrec, hI, htx, hg0, hz, hm2⟩ := save hS
      have hR' : RS (gSt c' 0) Z := by rw [hg0]; exact hR
      have W' : WF T (rowZ Z s (plugG Z s j2 j3 j4)) := by
        obtain ⟨p0, p1, p2', p3', p4', p5, p6, p7, p8⟩ := plugG_at Z s j2 j3 j4
        refine W.row ⟨?_, ?_, ?_, ?_, ?_, ?_, ?_, ?_, ?_, ?_, ?_⟩ (fun _ => p5) <;> omega
      obtain ⟨z', hz', hmo⟩ := m_plug71 (c := c) (SZ := SZ) (n := n) (KZ := KZ) (kp := kp) hrec (by rw [hz]; exact hZ) W (a := j2) (b := j3) (d := j4) hs W'
      have hRS := plug_RS (a := j2) (b := j3) (d := j4) W hR' hs
      rw [hsv, Option.bind_some, k_put _ hs, Option.bind_some] at hpre
      rw [c_freeSlot _ hs, Option.bind_some] at hpre
      have hpl := k_plugs W' hRS.1
      have hfin := hpre.trans (bind_inr (f := f_X3_pluggedOnes _) ((congrArg f_X3_pluggedOnes (va_up_self _ _ _)).trans hpl))
      refine ⟨_, ?_, callG_ok (L_plug_in hfin) hmo⟩
      refine ⟨_, SZ', n', KZ, kp, tx, len, IvS.to (hI 0) (Nat.le_refl _) _ z' m2.2.1 ?_ ?_ rfl W' hRS hz', ?_⟩
      · unfold gSt sCk sSk
        simp only [va_up_self]
      · intro k hk _
        unfold gSt sCk sSk
        simp only [va_up_ne _ _ hk]
      · show IvT c'.2.2.2.2.2.1 m2.2.2.2.2.2.2 tx len
        rw [htx, hm2]
        exact hT
