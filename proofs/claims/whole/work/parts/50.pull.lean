-- ===== the end of a call that saves =====
theorem op_end {T T' : Nat} {c c' c2 : VC} {mo : VM} {m2 : M2} {o : Nat → Int64} {Z Z' : Nat → Nat} {SZ' : Nat → Nat → Nat} {n' : Nat} {KZ : Nat → Nat} {kp : Nat} {tx : Nat → Nat} {len : Nat} {st : VSt} {z' a' : Nat → Int32} {r : Int32} {fl : Option (Int32 × VC × (Nat → Int64))} {fm : Option (Int32 × VM)}
    (hI : ∀ t, IvS T c' (t, m2) Z SZ' n' KZ kp) (hT : T ≤ T') (hx : IvT c.2.2.2.2.2.1 mo.2.2.2.2.2.2.2 tx len) (htx : c'.2.2.2.2.2.1 = c.2.2.2.2.2.1) (hm2 : m2.2.2.2.2.2.2 = mo.2.2.2.2.2.2.2)
    (hl : fl = some (0, c2, vp_updL o 0 r.toInt64)) (hm : fm = some (r, (0, z', a', m2.2.2))) (hg : gSt c2 0 = st) (ho : ∀ k, k ≠ 0 → k < 8 → gSt c2 k = gSt c' k) (hsp : c2.2.2.2.2.2 = c'.2.2.2.2.2) (W' : WF T' Z') (hR : RS st Z') (hZ : RZ z' Z') : Ok T' (callG fl fm) := by
  refine ⟨_, ⟨Z', SZ', n', KZ, kp, tx, len, IvS.to (hI 0) hT st z' a' hg ho (by rw [hsp]) W' hR hZ, ?_⟩, callG_ok hl hm⟩
  show IvT c2.2.2.2.2.2.1 m2.2.2.2.2.2.2 tx len
  rw [hsp, htx, hm2]
  exact hx
theorem gSk0 (c : VC) (v : VSk) : gSt (sSk c 0 v) 0 = (v, (gSt c 0).2) := by unfold gSt sSk; simp only [va_up_self]
theorem gSk_ne (c : VC) (v : VSk) {k : Nat} (h : k ≠ 0) : gSt (sSk c 0 v) k = gSt c k := by unfold gSt sSk; simp only [va_up_ne _ _ h]
theorem gCk0 (c : VC) (v : VCk) : gSt (sCk c 0 v) 0 = ((gSt c 0).1, (gSt c 0).2.1, v, (gSt c 0).2.2.2) := by unfold gSt sCk; simp only [va_up_self]
theorem gCk_ne (c : VC) (v : VCk) {k : Nat} (h : k ≠ 0) : gSt (sCk c 0 v) k = gSt c k := by unfold gSt sCk; simp only [va_up_ne _ _ h]
-- ===== pull and fail =====
theorem L_pull_in {c c' : VC} {o : Nat → Int64} {a1 x : Int32} (h : f_X5_pull c a1 = some (.inr (x, c'))) : f_L_pull c o a1 = some (0, c', vp_updL o 0 x.toInt64) := by unfold f_L_pull; rw [h]; rfl
theorem L_fail_in {c c' : VC} {o : Nat → Int64} {a1 x : Int32} (h : f_X5_fail c a1 = some (.inr (x, c'))) : f_L_fail c o a1 = some (0, c', vp_updL o 0 x.toInt64) := by unfold f_L_fail; rw [h]; rfl
theorem row_put {z : Nat → Int32} {Z : Nat → Nat} (h : RZ z Z) (s : Nat) : RZ z (rowZ Z s (fun j => Z (9 * s + j))) := by rw [rowZ_id]; exact h
def pullG (Z : Nat → Nat) (s : Nat) : Nat → Nat := gput (gput (fun j => Z (9 * s + j)) 0 0) 5 0
def failG (Z : Nat → Nat) (s : Nat) : Nat → Nat := gput (fun j => Z (9 * s + j)) 4 1
theorem pull_RS {T : Nat} {Z : Nat → Nat} {st : VSt} (W : WF T Z) (h : RS st Z) {s : Nat} (hs : s < 4) : RS ((upd st.1.1 s (nI 0), upd st.1.2.1 s (nI 0), upd st.1.2.2.1 s (nI 0), upd st.1.2.2.2.1 s (nI 0), upd st.1.2.2.2.2.1 s (nI 0), upd st.1.2.2.2.2.2 s (nI 0)), st.2) (rowZ Z s (pullG Z s)) := by
  obtain ⟨hk, hl, hc, hv, hi⟩ := h
  have hsl := SL.row (Z := Z) s (pullG Z s)
  refine ⟨fun q hq => ?_, hsl.ly hl, ⟨fun q hq => ?_, ?_, ?_⟩, hsl.vl (fun k h1 _ => rowZ_hi (by omega)) W hv, ?_⟩
  · have := hk q hq
    rw [gt_row hq (by omega), gt_row hq (by omega), gt_row hq (by omega), gt_row hq (by omega), gt_row hq (by omega), rowZ_at hq (by omega)]
    by_cases e : q = s
    · subst e
      simp [upd, pullG, gput]
    · simpa [upd, e] using this
  · have := hc.1 q hq
    rw [rowZ_at hq (by omega), rowZ_at hq (by omega)]
    by_cases e : q = s
    · subst e
      simpa [pullG, gput] using this
    · rw [if_neg e, if_neg e]
      exact this
  · rw [rowZ_hi (by omega)]; exact hc.2.1
  · rw [rowZ_hi (by omega)]; exact hc.2.2
  · unfold RI
    rw [rowZ_hi (by omega), rowZ_hi (by omega), rowZ_hi (by omega), rowZ_hi (by omega), rowZ_hi (by omega)]
    exact hi
theorem fail_RS {T : Nat} {Z : Nat → Nat} {st : VSt} (W : WF T Z) (h : RS st Z) {s : Nat} (hs : s < 4) (hp : Z (9 * s) = 1) : RS ((st.1.1, st.1.2.1, st.1.2.2.1, st.1.2.2.2.1, upd st.1.2.2.2.2.1 s (nI 1), st.1.2.2.2.2.2), st.2) (rowZ Z s (failG Z s)) := by
  obtain ⟨hk, hl, hc, hv, hi⟩ := h
  have hsl := SL.row (Z := Z) s (failG Z s)
  refine ⟨fun q hq => ?_, hsl.ly hl, ⟨fun q hq => ?_, ?_, ?_⟩, hsl.vl (fun k h1 _ => rowZ_hi (by omega)) W hv, ?_⟩
  · have := hk q hq
    rw [gt_row hq (by omega), gt_row hq (by omega), gt_row hq (by omega), gt_row hq (by omega), gt_row hq (by omega), rowZ_at hq (by omega)]
    by_cases e : q = s
    · subst e
      simp [upd, failG, gput, gt, hp] at this ⊢
      exact ⟨this.1, this.2.1, this.2.2.1, this.2.2.2.1, this.2.2.2.2.2⟩
    · simpa [upd, e] using this
  · have := hc.1 q hq
    rw [rowZ_at hq (by omega), rowZ_at hq (by omega)]
    by_cases e : q = s
    · subst e
      simpa [failG, gput] using this
    · rw [if_neg e, if_neg e]
      exact this
  · rw [rowZ_hi (by omega)]; exact hc.2.1
  · rw [rowZ_hi (by omega)]; exact hc.2.2
  · unfold RI
    rw [rowZ_hi (by omega), rowZ_hi (by omega), rowZ_hi (by omega), rowZ_hi (by omega), rowZ_hi (by omega)]
    exact hi
theorem op_pull {T : Nat} (c : VC) (mo : VM) (o : Nat → Int64) (a1 : Int32) (h : Iv T (c, (mo, o))) : Ok T (callG (f_L_pull c o a1) (f_X6_pull mo a1)) := by
  unfold f_X6_pull
  rcases slot_or a1 with ⟨h1, g1⟩ | ⟨s, hs, rfl⟩
  · have e1 : f_X5_pull c a1 = some (.inl (1, c)) := by unfold f_X5_pull; rw [h1]; rfl
    refine ⟨_, Iv.thr (t' := 1) (o' := o) h (Nat.le_refl _), callG_th (c' := c) (x := 0) (k := 1) (by unfold f_L_pull; rw [e1]; rfl) ?_ (by decide)⟩
    rw [g1]; rfl
  have hall := h
  obtain ⟨Z, SZ, n, KZ, kp, tx, len, hS, hT⟩ := h
  have hS0 := hS
  obtain ⟨W, hR, hZ, -⟩ := hS0
  have hc1 := k_plug W hR.1 hs
  have hpre : f_X5_pull c (nI s) = if bI (decide (Z (9 * s) = 1)) = 0 then some (.inl (3, c)) else ((f_X5_saveState c).bind fun x42 => (f_X2_usedPlaces (gSt x42 0) (nI s)).bind fun x50 => (f_X3_take (x42.1 0) (nI s)).bind fun x62 => some (.inr (x50, (sSk x42 0 x62)))) := by
    unfold f_X5_pull
    rw [p_slot hs, Option.bind_some, if_neg (by decide)]
    exact congrArg (fun q => Option.bind q _) hc1
  rw [m_isSlot hs, Option.bind_some, if_neg (by decide), m_there W hZ hs, Option.bind_some]
  by_cases e : Z (9 * s) = 1
  · rw [if_neg (bI_t e)] at hpre ⊢
    obtain ⟨c', m2, SZ', n', hsv, hrec, hI, htx, hg0, hz, hm2⟩ := save hS
    have hR' : RS (gSt c' 0) Z := by rw [hg0]; exact hR
    have W' : WF T (rowZ Z s (pullG Z s)) := by
      obtain ⟨w0, w1, w2, w3, w4, w5, w6, w7, w8, w9, w10, w11⟩ := W.1 s hs
      refine W.row ⟨?_, ?_, ?_, ?_, ?_, ?_, ?_, ?_, ?_, ?_, ?_⟩ (fun _ => ?_) <;> simp [pullG, gput] <;> omega
    have hZ2 : RZ m2.1 Z := by rw [hz]; exact hZ
    have r2 := RZ_put (x := 0) (RZ_put (x := 0) (row_put hZ2 s) hs (w := 0) (by omega)) hs (w := 5) (by omega)
    have hm : b_X6_pull_25 mo (nI s) 0 = some (nI (if leftN Z s then usedN Z s else 0), (0, upd (upd m2.1 (9 * s + 0) (nI 0)) (9 * s + 5) (nI 0), m2.2)) := by
      unfold b_X6_pull_25 b_X6_pull_58
      rw [if_neg (by decide), hrec, Option.bind_some, m_left W (m := (0, m2)) hZ2 hs, Option.bind_some, m_used W (m := (0, m2)) hZ2 hs, Option.bind_some, i0, i5]
      simp only [m_put _ hs (show 0 < 9 by omega), m_put _ hs (show 5 < 9 by omega), Option.bind_some]
      by_cases e2 : leftN Z s
      · rw [if_neg (bI_tn e2), if_pos e2]
      · rw [if_pos (bI_fn e2), if_neg e2]
    rw [hsv, Option.bind_some, s_used W hR' hs, Option.bind_some] at hpre
    unfold f_X3_take at hpre
    rw [k_put _ hs, Option.bind_some, Option.bind_some] at hpre
    exact op_end (Z' := rowZ Z s (pullG Z s)) hI (Nat.le_refl _) hT htx hm2 (L_pull_in hpre) hm (gSk0 _ _) (fun k hk _ => gSk_ne _ _ hk) rfl W' (pull_RS W hR' hs) r2
  · rw [if_pos (bI_f e)] at hpre ⊢
    refine ⟨_, Iv.thr (t' := 2) (o' := o) hall (Nat.le_refl _), callG_th (c' := c) (x := 0) (k := 2) (by unfold f_L_pull; rw [hpre]; rfl) rfl (by decide)⟩
theorem k_spoil (v : VSk) {s : Nat} (hs : s < 4) : f_X3_spoil v (nI s) = some (v.1, v.2.1, v.2.2.1, v.2.2.2.1, upd v.2.2.2.2.1 s (nI 1), v.2.2.2.2.2) := by
  unfold f_X3_spoil
  rw [p_slot hs, Option.bind_some, if_neg (by decide), i1, p_aupz hs (by omega) (by omega), Option.bind_some]
theorem op_fail {T : Nat} (c : VC) (mo : VM) (o : Nat → Int64) (a1 : Int32) (h : Iv T (c, (mo, o))) : Ok T (callG (f_L_fail c o a1) (f_X6_fail mo a1)) := by
  unfold f_X6_fail
  rcases slot_or a1 with ⟨h1, g1⟩ | ⟨s, hs, rfl⟩
  · have e1 : f_X5_fail c a1 = some (.inl (1, c)) := by unfold f_X5_fail; rw [h1]; rfl
    refine ⟨_, Iv.thr (t' := 1) (o' := o) h (Nat.le_refl _), callG_th (c' := c) (x := 0) (k := 1) (by unfold f_L_fail; rw [e1]; rfl) ?_ (by decide)⟩
    rw [g1]; rfl
  have hall := h
  obtain ⟨Z, SZ, n, KZ, kp, tx, len, hS, hT⟩ := h
  have hS0 := hS
  obtain ⟨W, hR, hZ, -⟩ := hS0
  obtain ⟨w0, w1, w2, w3, w4, w5, w6, w7, w8, w9, w10, w11⟩ := W.1 s hs
  have hc1 := k_good W hR.1 hs
  have hpre : f_X5_fail c (nI s) = if bI (decide (Z (9 * s) = 1 ∧ Z (9 * s + 4) = 0)) = 0 then some (.inl (3, c)) else ((f_X5_saveState c).bind fun x42 => (f_X2_usedPlaces (gSt x42 0) (nI s)).bind fun x50 => (f_X3_spoil (x42.1 0) (nI s)).bind fun x62 => some (.inr (x50, (sSk x42 0 x62)))) := by
    unfold f_X5_fail
    rw [p_slot hs, Option.bind_some, if_neg (by decide)]
    exact congrArg (fun q => Option.bind q _) hc1
  have hmod : (if bI (decide (Z (9 * s) = 1)) = 0 then b_X6_fail_34 mo (nI s) 2 else (f_X6_of mo (nI s) 4).bind fun x23 => if x23 = 0 then b_X6_fail_34 mo (nI s) 0 else b_X6_fail_34 mo (nI s) 2) = if Z (9 * s) = 1 ∧ Z (9 * s + 4) = 0 then b_X6_fail_34 mo (nI s) 0 else b_X6_fail_34 mo (nI s) 2 := by
    rw [i4, m_of hZ hs (by omega), Option.bind_some]
    by_cases e : Z (9 * s) = 1
    · rw [if_neg (bI_t e), i0]
      simp (discharger := omega) only [nI_eq]
      by_cases e2 : Z (9 * s + 4) = 0
      · rw [if_pos e2, if_pos ⟨e, e2⟩]
      · rw [if_neg e2, if_neg (fun q => e2 q.2)]
    · rw [if_pos (bI_f e), if_neg (fun q => e q.1)]
  rw [m_isSlot hs, Option.bind_some, if_neg (by decide), m_there W hZ hs, Option.bind_some, hmod]
  by_cases e : Z (9 * s) = 1 ∧ Z (9 * s + 4) = 0
  · rw [if_neg (bI_t e)] at hpre
    rw [if_pos e]
    obtain ⟨c', m2, SZ', n', hsv, hrec, hI, htx, hg0, hz, hm2⟩ := save hS
    have hR' : RS (gSt c' 0) Z := by rw [hg0]; exact hR
    have W' : WF T (rowZ Z s (failG Z s)) := by
      refine W.row ⟨?_, ?_, ?_, ?_, ?_, ?_, ?_, ?_, ?_, ?_, ?_⟩ (fun q => ?_) <;> simp [failG, gput]
      all_goals first | omega | exact (W.2.2.1 q s hs).2
    have hZ2 : RZ m2.1 Z := by rw [hz]; exact hZ
    have r2 := RZ_put (x := 1) (row_put hZ2 s) hs (w := 4) (by omega)
    have hm : b_X6_fail_34 mo (nI s) 0 = some (nI (if leftN Z s then usedN Z s else 0), (0, upd m2.1 (9 * s + 4) (nI 1), m2.2)) := by
      unfold b_X6_fail_34 b_X6_fail_67
      rw [if_neg (by decide), hrec, Option.bind_some, m_left W (m := (0, m2)) hZ2 hs, Option.bind_some, m_used W (m := (0, m2)) hZ2 hs, Option.bind_some, i0, i4, i1]
      simp only [m_put _ hs (show 4 < 9 by omega), Option.bind_some]
      by_cases e2 : leftN Z s
      · rw [if_neg (bI_tn e2), if_pos e2]
      · rw [if_pos (bI_fn e2), if_neg e2]
    rw [hsv, Option.bind_some, s_used W hR' hs, Option.bind_some, k_spoil _ hs, Option.bind_some] at hpre
    exact op_end (Z' := rowZ Z s (failG Z s)) hI (Nat.le_refl _) hT htx hm2 (L_fail_in hpre) hm (gSk0 _ _) (fun k hk _ => gSk_ne _ _ hk) rfl W' (fail_RS W hR' hs e.1) r2
  · rw [if_pos (bI_f e)] at hpre
    rw [if_neg e]
    refine ⟨_, Iv.thr (t' := 2) (o' := o) hall (Nat.le_refl _), callG_th (c' := c) (x := 0) (k := 2) (by unfold f_L_fail; rw [hpre]; rfl) rfl (by decide)⟩
