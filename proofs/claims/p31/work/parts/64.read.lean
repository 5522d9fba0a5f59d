-- ===== reads: the ticks =====
def wtZ (Z : Nat → Nat) (x : Nat) : Nat → Nat := zu (zu Z 44 (Z 44 + (x - Z 41))) 41 (max (Z 41) x)
def nwZ (Z : Nat → Nat) (s r : Nat) : Nat → Nat := zu (zu (zu Z (9 * s + (6 + r)) (Z 41 + Z (9 * s + 3))) (9 * s + 8) (Z (9 * s + 8) + 1)) 42 (Z 42 + 1)
def tkZ (Z : Nat → Nat) : Nat → Nat := zu Z 41 (Z 41 + 1)
def rrN (Z : Nat → Nat) (b : Nat) : Nat := rkN Z (rsN Z b) (rnN Z b)
def frN (Z : Nat → Nat) (b : Nat) : Nat := Z (9 * rsN Z b + (6 + rrN Z b))
def oneZ (Z : Nat → Nat) (b : Nat) : Nat → Nat := tkZ (nwZ (wtZ Z (frN Z b)) (rsN Z b) (rrN Z b))
def w2Z (Z : Nat → Nat) (b : Nat) : Nat → Nat := wtZ (wtZ Z (frN Z b)) (frN Z (b + 1))
def twoZ (Z : Nat → Nat) (b : Nat) : Nat → Nat := tkZ (zu (nwZ (nwZ (w2Z Z b) (rsN Z b) (rrN Z b)) (rsN Z (b + 1)) (rrN Z (b + 1))) 43 (Z 43 + 1))
/-- the same sticks, the same layout, the same values -/
def SQ (Z Z' : Nat → Nat) : Prop := ∀ k, (k < 36 ∧ k % 9 < 6) ∨ (36 ≤ k ∧ k ≤ 40) ∨ 45 ≤ k → Z' k = Z k
theorem rk_le (Z : Nat → Nat) (s n : Nat) : rkN Z s n ≤ 1 := by unfold rkN; split <;> omega
theorem rr_le (Z : Nat → Nat) (b : Nat) : rrN Z b ≤ 1 := rk_le _ _ _
section
variable {Z Z' Z'' : Nat → Nat}
theorem SQ.refl (Z : Nat → Nat) : SQ Z Z := fun _ _ => rfl
theorem SQ.trans (h : SQ Z Z') (g : SQ Z' Z'') : SQ Z Z'' := fun k hk => (g k hk).trans (h k hk)
theorem SQ.sl (h : SQ Z Z') : SL Z Z' := fun k h1 h2 => h k (by omega)
theorem SQ.left (h : SQ Z Z') {s : Nat} (hs : s < 4) : leftN Z' s ↔ leftN Z s := by
  unfold leftN
  rw [h (9 * s + 5) (by omega), h (9 * s + 4) (by omega)]
theorem SQ.can (h : SQ Z Z') (b : Nat) : canN Z' b ↔ canN Z b := by
  unfold canN
  rw [h.sl.slot, h.sl.sl (by omega), h.left (slot_lt _ _), h.left (sl_lt (by omega)), h 40 (by omega)]
theorem SQ.rs (h : SQ Z Z') (b : Nat) : rsN Z' b = rsN Z b := by
  unfold rsN
  rw [h.sl.slot, h.sl.sl (by omega)]
  by_cases e : leftN Z (slotN Z b)
  · rw [if_pos e, if_pos ((h.left (slot_lt _ _)).mpr e)]
  · rw [if_neg e, if_neg (fun q => e ((h.left (slot_lt _ _)).mp q))]
theorem SQ.rn (h : SQ Z Z') (b : Nat) : rnN Z' b = rnN Z b := by
  unfold rnN
  rw [h.sl.slot, h.sl.num, h.sl.nu (by omega)]
  by_cases e : leftN Z (slotN Z b)
  · rw [if_pos e, if_pos ((h.left (slot_lt _ _)).mpr e)]
  · rw [if_neg e, if_neg (fun q => e ((h.left (slot_lt _ _)).mp q))]
theorem SQ.rk (h : SQ Z Z') {s : Nat} (hs : s < 4) (n : Nat) : rkN Z' s n = rkN Z s n := by
  unfold rkN
  rw [h (9 * s + 2) (by omega)]
theorem SQ.rr (h : SQ Z Z') (b : Nat) : rrN Z' b = rrN Z b := by
  unfold rrN
  rw [h.rs, h.rn, h.rk (rs_lt _ _)]
theorem SQ_zu {k x : Nat} (hk : (k < 36 ∧ 6 ≤ k % 9) ∨ (40 < k ∧ k < 45)) : SQ Z (zu Z k x) := fun j hj => zu_ne (by omega)
theorem SQ_wt (x : Nat) : SQ Z (wtZ Z x) := (SQ_zu (by omega)).trans (SQ_zu (by omega))
theorem SQ_nw {s r : Nat} (hs : s < 4) (hr : r ≤ 1) : SQ Z (nwZ Z s r) := ((SQ_zu (by omega)).trans (SQ_zu (by omega))).trans (SQ_zu (by omega))
theorem SQ_tk : SQ Z (tkZ Z) := SQ_zu (by omega)
theorem SQ_one (b : Nat) : SQ Z (oneZ Z b) := ((SQ_wt _).trans (SQ_nw (rs_lt _ _) (rr_le _ _))).trans SQ_tk
theorem SQ_two (b : Nat) : SQ Z (twoZ Z b) := (((((SQ_wt _).trans (SQ_wt _)).trans (SQ_nw (rs_lt _ _) (rr_le _ _))).trans (SQ_nw (rs_lt _ _) (rr_le _ _))).trans (SQ_zu (by omega))).trans SQ_tk
theorem WF.sq {T T' : Nat} (W : WF T Z) (h : SQ Z Z') (hT : T ≤ T') (hb : ∀ s, s < 4 → Z' (9 * s + 6) ≤ Z' 41 + 9 ∧ Z' (9 * s + 7) ≤ Z' 41 + 9 ∧ Z' (9 * s + 8) ≤ T') (h41 : Z' 41 ≤ T') (h42 : Z' 42 ≤ T') (h43 : Z' 43 ≤ T') (h44 : Z' 44 ≤ T') : WF T' Z' := by
  obtain ⟨a0, a1, a2, a3, a4, a5, a6, a7, a8, a9, a10, a11⟩ := W
  have hs := h.sl
  refine ⟨fun q hq => ?_, ?_, ?_, h41, h42, h43, h44, ?_, ?_, ?_, ?_, ?_⟩
  · obtain ⟨w0, w1, w2, w3, w4, w5, w6, w7, w8, w9, w10, w11⟩ := a0 q hq
    obtain ⟨b6, b7, b8⟩ := hb q hq
    rw [h (9 * q) (by omega), h (9 * q + 1) (by omega), h (9 * q + 2) (by omega), h (9 * q + 3) (by omega), h (9 * q + 4) (by omega), h (9 * q + 5) (by omega), h (36 + q) (by omega)]
    exact ⟨w0, w1, w2, w3, w4, w5, w6, b6, b7, b8, w10, w11⟩
  · rw [h 40 (by omega)]; exact a1
  · rw [h 40 (by omega)]
    intro e q hq
    rw [h (36 + q) (by omega), h (9 * q + 5) (by omega)]
    exact a2 e q hq
  · rw [h 45 (by omega)]; omega
  · rw [h 46 (by omega)]; exact a8
  · rw [h 47 (by omega)]; exact a9
  · intro k h1 h2
    rw [h k (by omega)]; exact a10 k h1 h2
  · rw [h 40 (by omega)]
    intro e b hb
    rw [hs.blk] at hb
    rw [hs.slot, hs.num, hs.sl (by omega), hs.nu (by omega), h _ (by omega), h _ (by omega)]
    exact a11 e b hb
end
section
variable {T : Nat} {Z : Nat → Nat} {ly : VLy} {sk : VSk} {ck : VCk} {st : VSt} {b s r x : Nat}
theorem WF_wt (W : WF T Z) (hx : x ≤ Z 41 + 9) : WF (T + 9) (wtZ Z x) := by
  obtain ⟨a0, a1, a2, a3, a4, a5, a6, a7, a8, a9, a10, a11⟩ := id W
  have e41 : wtZ Z x 41 = max (Z 41) x := zu_eq
  have e44 : wtZ Z x 44 = Z 44 + (x - Z 41) := by unfold wtZ; rw [zu_ne (by omega), zu_eq]
  have en : ∀ k, k ≠ 41 → k ≠ 44 → wtZ Z x k = Z k := fun k h1 h2 => by unfold wtZ; rw [zu_ne h1, zu_ne h2]
  refine W.sq (SQ_wt x) (by omega) (fun q hq => ?_) ?_ ?_ ?_ ?_
  · obtain ⟨w0, w1, w2, w3, w4, w5, w6, w7, w8, w9, w10, w11⟩ := a0 q hq
    rw [en (9 * q + 6) (by omega) (by omega), en (9 * q + 7) (by omega) (by omega), en (9 * q + 8) (by omega) (by omega), e41]
    omega
  · rw [e41]; omega
  · rw [en 42 (by omega) (by omega)]; omega
  · rw [en 43 (by omega) (by omega)]; omega
  · rw [e44]; omega
theorem WF_nw (W : WF T Z) (hs : s < 4) (hr : r ≤ 1) : WF (T + 1) (nwZ Z s r) := by
  obtain ⟨a0, a1, a2, a3, a4, a5, a6, a7, a8, a9, a10, a11⟩ := id W
  obtain ⟨v0, v1, v2, v3, v4, v5, v6, v7, v8, v9, v10, v11⟩ := a0 s hs
  have ev : ∀ k, nwZ Z s r k = if k = 42 then Z 42 + 1 else if k = 9 * s + 8 then Z (9 * s + 8) + 1 else if k = 9 * s + (6 + r) then Z 41 + Z (9 * s + 3) else Z k := fun k => rfl
  have e41 : nwZ Z s r 41 = Z 41 := by rw [ev, if_neg (by omega), if_neg (by omega), if_neg (by omega)]
  refine W.sq (SQ_nw hs hr) (by omega) (fun q hq => ?_) ?_ ?_ ?_ ?_
  · obtain ⟨w0, w1, w2, w3, w4, w5, w6, w7, w8, w9, w10, w11⟩ := a0 q hq
    rw [e41]
    refine ⟨?_, ?_, ?_⟩
    · rw [ev, if_neg (by omega), if_neg (by omega)]; split <;> omega
    · rw [ev, if_neg (by omega), if_neg (by omega)]; split <;> omega
    · rw [ev, if_neg (by omega)]; split
      · omega
      · rw [if_neg (by omega)]; omega
  · rw [e41]; omega
  · rw [ev, if_pos rfl]; omega
  · rw [ev, if_neg (by omega), if_neg (by omega), if_neg (by omega)]; omega
  · rw [ev, if_neg (by omega), if_neg (by omega), if_neg (by omega)]; omega
theorem WF_tk (W : WF T Z) : WF (T + 1) (tkZ Z) := by
  have := W.2.2.2.1
  exact WF_zu W (by omega) (by omega) (by omega) (fun _ => by omega) ⟨fun q => by omega, fun q => by omega, by omega⟩ (fun _ => by omega)
theorem fr_le (W : WF T Z) (hs : s < 4) (hr : r ≤ 1) : Z (9 * s + (6 + r)) ≤ Z 41 + 9 := by
  obtain ⟨w0, w1, w2, w3, w4, w5, w6, w7, w8, w9, w10, w11⟩ := W.1 s hs
  rcases (show r = 0 ∨ r = 1 by omega) with rfl | rfl
  · exact w7
  · exact w8
theorem WF_one (W : WF T Z) (b : Nat) : WF (T + 12) (oneZ Z b) :=
  (WF_tk (WF_nw (WF_wt W (fr_le W (rs_lt Z b) (rr_le Z b))) (rs_lt Z b) (rr_le Z b))).mono (by omega)
theorem WF_two (W : WF T Z) (b : Nat) : WF (T + 24) (twoZ Z b) := by
  have h1 := WF_wt W (fr_le W (rs_lt Z b) (rr_le Z b))
  have e2 : frN Z (b + 1) ≤ wtZ Z (frN Z b) 41 + 9 := by
    have := fr_le W (rs_lt Z (b + 1)) (rr_le Z (b + 1))
    have e41 : wtZ Z (frN Z b) 41 = max (Z 41) (frN Z b) := zu_eq
    unfold frN at *
    omega
  have h2 := WF_wt h1 e2
  have h3 := WF_nw (WF_nw h2 (rs_lt Z b) (rr_le Z b)) (rs_lt Z (b + 1)) (rr_le Z (b + 1))
  have h43 : Z 43 ≤ T := W.2.2.2.2.2.1
  have h4 := WF_zu h3 (k := 43) (x := Z 43 + 1) (T' := T + 9 + 9 + 1 + 1) (by omega) (by omega) (by omega) (fun q => by omega) ⟨fun q => by omega, fun q => by omega, by omega⟩ (fun _ => by omega)
  exact (WF_tk h4).mono (by omega)
-- the class's clock
def RCt (t0 : Nat) (ck : VCk) (Z : Nat → Nat) : Prop := (∀ s, s < 4 → ∀ r, r ≤ 1 → t0 ≤ Z (9 * s + (6 + r)) ∧ ck.1 (2 * s + r) = nI (Z (9 * s + (6 + r)) - t0)) ∧ t0 ≤ Z 41 ∧ ck.2.1 = nI (Z 41 - t0)
theorem RC.t (h : RC ck Z) : RCt 0 ck Z := ⟨fun s hs r hr => ⟨by omega, by
  rcases (show r = 0 ∨ r = 1 by omega) with rfl | rfl
  · exact (h.1 s hs).1
  · exact (h.1 s hs).2⟩, by omega, h.2.1⟩
theorem RCt.c (h : RCt 0 ck Z) (hw : ck.2.2 = nI (Z 44)) : RC ck Z := ⟨fun s hs => ⟨(h.1 s hs 0 (by omega)).2, (h.1 s hs 1 (by omega)).2⟩, h.2.2, hw⟩
theorem RCt.congr {t0 : Nat} {Z' : Nat → Nat} (h : RCt t0 ck Z) (e : ∀ k, (k < 36 ∧ (k % 9 = 6 ∨ k % 9 = 7)) ∨ k = 41 → Z' k = Z k) : RCt t0 ck Z' := ⟨fun s hs r hr => by rw [e _ (by omega)]; exact h.1 s hs r hr, by rw [e 41 (by omega)]; exact h.2.1, by rw [e 41 (by omega)]; exact h.2.2⟩
theorem c_wait {t0 : Nat} (W : WF T Z) (hT : T < 2 ^ 24) (h : RCt t0 ck Z) (hs : s < 4) (hr : r ≤ 1) : ∃ ck', f_X0_waitFor ck (nI (2 * s + r)) = some ck' ∧ RCt t0 ck' (wtZ Z (Z (9 * s + (6 + r)))) ∧ (t0 = 0 → ck.2.2 = nI (Z 44) → ck'.2.2 = nI (wtZ Z (Z (9 * s + (6 + r))) 44)) := by
  have hf := fr_le W hs hr
  have h41 : Z 41 ≤ T := W.2.2.2.1
  obtain ⟨h1, h2⟩ := h.1 s hs r hr
  obtain ⟨-, h3, h4⟩ := id h
  unfold f_X0_waitFor
  rw [p_entry (by omega) (by omega), Option.bind_some, h2, h4]
  simp (discharger := omega) only [nI_ltI]
  have e41 : wtZ Z (Z (9 * s + (6 + r))) 41 = max (Z 41) (Z (9 * s + (6 + r))) := zu_eq
  have e44 : wtZ Z (Z (9 * s + (6 + r))) 44 = Z 44 + (Z (9 * s + (6 + r)) - Z 41) := by unfold wtZ; rw [zu_ne (by omega), zu_eq]
  have en : ∀ k, k ≠ 41 → k ≠ 44 → wtZ Z (Z (9 * s + (6 + r))) k = Z k := fun k h1 h2 => by unfold wtZ; rw [zu_ne h1, zu_ne h2]
  by_cases e : Z 41 < Z (9 * s + (6 + r))
  · rw [if_pos (by omega)]
    refine ⟨_, rfl, ⟨fun q hq w hw => ?_, ?_, ?_⟩, fun g1 g2 => ?_⟩
    · rw [en _ (by omega) (by omega)]; exact h.1 q hq w hw
    · rw [e41]; omega
    · rw [e41]
      show nI (Z (9 * s + (6 + r)) - t0) = _
      congr 1
      omega
    · subst g1
      rw [e44]
      dsimp only
      rw [g2, pk_sub (by omega), nI_add]
      congr 2
  · rw [if_neg (by omega)]
    refine ⟨_, rfl, ⟨fun q hq w hw => ?_, ?_, ?_⟩, fun g1 g2 => ?_⟩
    · rw [en _ (by omega) (by omega)]; exact h.1 q hq w hw
    · rw [e41]; omega
    · rw [e41, h4]
      congr 1
      omega
    · rw [e44, g2]
      congr 1
      omega
theorem c_occ {t0 d : Nat} (h : RCt t0 ck Z) (hs : s < 4) (hr : r ≤ 1) : ∃ ck', f_X0_occupy ck (nI (2 * s + r)) (nI d) = some ck' ∧ RCt t0 ck' (zu Z (9 * s + (6 + r)) (Z 41 + d)) ∧ ck'.2.2 = ck.2.2 := by
  obtain ⟨g1, g2, g3⟩ := id h
  unfold f_X0_occupy
  rw [if_neg (nI_pos (by omega)), i8, if_pos (nI_lt (by omega) (by omega)), p_aup (by omega) (by omega), Option.bind_some]
  refine ⟨_, rfl, ⟨fun q hq w hw => ?_, ?_, ?_⟩, rfl⟩
  · by_cases e : q = s ∧ w = r
    · obtain ⟨rfl, rfl⟩ := e
      rw [zu_eq]
      refine ⟨by omega, ?_⟩
      dsimp only
      rw [upd_eq, g3, nI_add]
      congr 1
      omega
    · rw [zu_ne (by omega)]
      dsimp only
      rw [upd_ne _ _ (by omega)]
      exact g1 q hq w hw
  · rw [zu_ne (by omega)]; exact g2
  · rw [zu_ne (by omega)]; exact g3
theorem c_pass {t0 : Nat} (h : RCt t0 ck Z) : ∃ ck', f_X0_pass ck 1 = some ck' ∧ RCt t0 ck' (tkZ Z) ∧ ck'.2.2 = ck.2.2 := by
  obtain ⟨g1, g2, g3⟩ := id h
  have e41 : tkZ Z 41 = Z 41 + 1 := zu_eq
  refine ⟨_, rfl, ⟨fun q hq w hw => ?_, by omega, ?_⟩, rfl⟩
  · rw [show tkZ Z (9 * q + (6 + w)) = Z (9 * q + (6 + w)) from zu_ne (by omega)]
    exact g1 q hq w hw
  · rw [e41]
    dsimp only
    rw [g3, i1, nI_add]
    congr 1
    omega
/-- one read of the clock -/
def o1Z (Z : Nat → Nat) (s r : Nat) : Nat → Nat := tkZ (zu (wtZ Z (Z (9 * s + (6 + r)))) (9 * s + (6 + r)) (wtZ Z (Z (9 * s + (6 + r))) 41 + Z (9 * s + 3)))
theorem c_single {t0 : Nat} (W : WF T Z) (hT : T < 2 ^ 24) (h : RCt t0 ck Z) (hs : s < 4) (hr : r ≤ 1) : ∃ ck', f_X0_readSingle ck (nI (2 * s + r)) (nI (Z (9 * s + 3))) = some ck' ∧ RCt t0 ck' (o1Z Z s r) ∧ (t0 = 0 → ck.2.2 = nI (Z 44) → ck'.2.2 = nI (o1Z Z s r 44)) := by
  obtain ⟨c1, h1, r1, w1⟩ := c_wait W hT h hs hr
  obtain ⟨c2, h2, r2, w2⟩ := c_occ (d := Z (9 * s + 3)) r1 hs hr
  obtain ⟨c3, h3, r3, w3⟩ := c_pass r2
  refine ⟨c3, ?_, r3, fun a b => ?_⟩
  · unfold f_X0_readSingle
    rw [h1, Option.bind_some, h2, Option.bind_some, h3]; rfl
  · rw [w3, w2, w1 a b]
    unfold o1Z tkZ
    rw [zu_ne (by omega), zu_ne (by omega)]
def o2Z (Z : Nat → Nat) (s r s2 r2 : Nat) : Nat → Nat :=
  let Y := wtZ (wtZ Z (Z (9 * s + (6 + r)))) (Z (9 * s2 + (6 + r2)))
  tkZ (zu (zu Y (9 * s + (6 + r)) (Y 41 + Z (9 * s + 3))) (9 * s2 + (6 + r2)) (Y 41 + Z (9 * s2 + 3)))
theorem c_pair {t0 s2 r2 : Nat} (W : WF T Z) (hT : T + 9 < 2 ^ 24) (h : RCt t0 ck Z) (hs : s < 4) (hr : r ≤ 1) (hs2 : s2 < 4) (hr2 : r2 ≤ 1) : ∃ ck', f_X0_readPair ck (nI (2 * s + r)) (nI (Z (9 * s + 3))) (nI (2 * s2 + r2)) (nI (Z (9 * s2 + 3))) = some ck' ∧ RCt t0 ck' (o2Z Z s r s2 r2) ∧ (t0 = 0 → ck.2.2 = nI (Z 44) → ck'.2.2 = nI (o2Z Z s r s2 r2 44)) := by
  obtain ⟨c1, h1, q1, w1⟩ := c_wait W (by omega) h hs hr
  have W1 := WF_wt W (fr_le W hs hr)
  have e1 : wtZ Z (Z (9 * s + (6 + r))) (9 * s2 + (6 + r2)) = Z (9 * s2 + (6 + r2)) := by unfold wtZ; rw [zu_ne (by omega), zu_ne (by omega)]
  obtain ⟨c2, h2, q2, w2⟩ := c_wait W1 (by omega) q1 hs2 hr2
  rw [e1] at q2 w2
  obtain ⟨c3, h3, q3, w3⟩ := c_occ (d := Z (9 * s + 3)) q2 hs hr
  obtain ⟨c4, h4, q4, w4⟩ := c_occ (d := Z (9 * s2 + 3)) q3 hs2 hr2
  obtain ⟨c5, h5, q5, w5⟩ := c_pass q4
  rw [show zu (wtZ (wtZ Z (Z (9 * s + (6 + r)))) (Z (9 * s2 + (6 + r2)))) (9 * s + (6 + r)) (wtZ (wtZ Z (Z (9 * s + (6 + r)))) (Z (9 * s2 + (6 + r2))) 41 + Z (9 * s + 3)) 41 = wtZ (wtZ Z (Z (9 * s + (6 + r)))) (Z (9 * s2 + (6 + r2))) 41 from zu_ne (by omega)] at q5
  refine ⟨c5, ?_, q5, fun a b => ?_⟩
  · unfold f_X0_readPair
    rw [h1, Option.bind_some, h2, Option.bind_some, h3, Option.bind_some, h4, Option.bind_some, h5]; rfl
  · rw [w5, w4, w3, w2 a (w1 a b)]
    unfold o2Z tkZ
    rw [zu_ne (by omega), zu_ne (by omega), zu_ne (by omega)]
end
