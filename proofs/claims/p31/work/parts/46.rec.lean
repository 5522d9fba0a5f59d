-- ===== a state is saved, on both sides =====
theorem gSt_ne (c : VC) {k j : Nat} (v : VSt) (h : j ≠ k) : gSt (sSt c k v) j = gSt c j := by
  unfold gSt sSt
  simp only [va_up_ne _ _ h]
theorem p_rdp {p : Nat → Nat} {i : Nat} (hi : i < 6) (h : 2 ≤ p i ∧ p i < 8) : rdp 6 p (nI i) = some (p i) := by
  unfold rdp
  rw [if_neg (nI_in hi (by omega)), nI_clamp (by omega), if_pos h]
theorem p_wrp {p : Nat → Nat} {i x : Nat} (hi : i < 6) (h : x < 8) : wrp 6 p (nI i) x = some (va_up p i x) := by
  unfold wrp
  rw [if_neg (nI_in hi (by omega)), nI_clamp (by omega), if_pos h]
def rtP (p : Nat → Nat) (j : Nat) : Nat → Nat := fun i => if i < j then p (i + 1) else p i
def rotP (p : Nat → Nat) : Nat → Nat := va_up (rtP p 5) 5 (p 0)
theorem rtP_succ (p : Nat → Nat) (j : Nat) : va_up (rtP p j) j (p (j + 1)) = rtP p (j + 1) := by
  funext i
  unfold va_up rtP
  by_cases e : i = j
  · subst e; simp
  · simp only [e, if_false]
    by_cases q : i < j
    · rw [if_pos q, if_pos (by omega)]
    · rw [if_neg q, if_neg (by omega)]
theorem rtP_0 (p : Nat → Nat) : rtP p 0 = p := by funext i; unfold rtP; simp
theorem rtP_at (p : Nat → Nat) (j : Nat) : rtP p j (j + 1) = p (j + 1) := by unfold rtP; rw [if_neg (by omega)]
theorem mo_step {p : Nat → Nat} (hp : PO p) (c : VC) (a b : Int32) (q : Nat) {j n : Nat} (hj : j < 5) : l_X5_moveOldestToEnd_9 (n + 1) (sSp c (a, b, rtP p j)) q (nI (j + 1)) = l_X5_moveOldestToEnd_9 n (sSp c (a, b, rtP p (j + 1))) q (nI (j + 2)) := by
  have h := hp.1 (j + 1) (by omega)
  rw [l_X5_moveOldestToEnd_9, i6, if_pos (nI_lt (by omega) (by omega))]
  show ((rdp 6 (rtP p j) (nI (j + 1))).bind _) = _
  rw [p_rdp (by omega) (by rw [rtP_at]; exact h), Option.bind_some, rtP_at, i1, pk_sub (by omega), nI_add]
  show ((wrp 6 (rtP p j) (nI (j + 1 - 1)) (p (j + 1))).bind _) = _
  rw [Nat.add_sub_cancel, p_wrp (by omega) h.2, Option.bind_some, rtP_succ]
  rfl
theorem mo_all {p : Nat → Nat} (hp : PO p) (c : VC) (a b : Int32) : f_X5_moveOldestToEnd (sSp c (a, b, p)) = some (sSp c (a, b, rotP p)) := by
  unfold f_X5_moveOldestToEnd
  show ((rdp 6 p (nI 0)).bind _) = _
  rw [p_rdp (by omega) (hp.1 0 (by omega)), Option.bind_some]
  show l_X5_moveOldestToEnd_9 (999 + 1) (sSp c (a, b, p)) (p 0) (nI (0 + 1)) = _
  have e0 : sSp c (a, b, p) = sSp c (a, b, rtP p 0) := by rw [rtP_0]
  rw [e0, mo_step hp c a b _ (by omega), show (999 : Nat) = 998 + 1 from rfl, show 0 + 2 = 1 + 1 from rfl, mo_step hp c a b _ (by omega), show (998 : Nat) = 997 + 1 from rfl, show 1 + 2 = 2 + 1 from rfl, mo_step hp c a b _ (by omega), show (997 : Nat) = 996 + 1 from rfl, show 2 + 2 = 3 + 1 from rfl, mo_step hp c a b _ (by omega), show (996 : Nat) = 995 + 1 from rfl, show 3 + 2 = 4 + 1 from rfl, mo_step hp c a b _ (by omega), show (995 : Nat) = 994 + 1 from rfl, l_X5_moveOldestToEnd_9, if_neg (by decide)]
  show ((wrp 6 (rtP p (4 + 1)) (nI 5) (p 0)).bind _) = _
  rw [p_wrp (by omega) (hp.1 0 (by omega)).2]; rfl
theorem rotP_at (p : Nat → Nat) (i : Nat) : rotP p i = if i = 5 then p 0 else rtP p 5 i := rfl
theorem rotP_PO {p : Nat → Nat} (hp : PO p) : PO (rotP p) := by
  have hr : ∀ i, i < 6 → rotP p i = p (if i = 5 then 0 else i + 1) := by
    intro i hi
    rw [rotP_at]
    unfold rtP
    by_cases e : i = 5
    · rw [if_pos e, if_pos e]
    · rw [if_neg e, if_neg e, if_pos (by omega)]
  refine ⟨fun i hi => ?_, fun i j hi hj e => ?_⟩
  · rw [hr i hi]
    exact hp.1 _ (by split <;> omega)
  · rw [hr i hi, hr j hj] at e
    have := hp.2 _ _ (by split <;> omega) (by split <;> omega) e
    split at this <;> split at this <;> omega
theorem sv25 {T : Nat} {Z : Nat → Nat} (c : VC) (a : Int32) {p : Nat → Nat} {q : Nat} (hp : PO p) (hq : q < 6) (W : WF T Z) (h : RS (gSt c 0) Z) : ∃ w, RS w Z ∧ b_X5_saveState_25 (sSp c (a, nI q, p)) = some (sSp (sSt c (p q) w) (a, nI (q + 1), p)) := by
  obtain ⟨w, hw, rw_⟩ := s_copy (v := gSt c (p q)) W h
  refine ⟨w, rw_, ?_⟩
  unfold b_X5_saveState_25
  show ((rdp 6 p (nI q)).bind _) = _
  rw [p_rdp hq (hp.1 q hq), Option.bind_some]
  show ((f_X2_copyFrom (gSt c (p q)) (gSt c 0)).bind _) = _
  rw [hw, Option.bind_some, i1]
  show some (sSp (sSt c (p q) w) (a, nI q + nI 1, p)) = _
  rw [nI_add]
theorem sSp_self (c : VC) : sSp c (c.2.2.2.2.2.2.1, c.2.2.2.2.2.2.2.1, c.2.2.2.2.2.2.2.2) = c := rfl
theorem c_save {T : Nat} {Z : Nat → Nat} {c : VC} {n : Nat} (hp : PO c.2.2.2.2.2.2.2.2) (hn : n ≤ 6) (hs : c.2.2.2.2.2.2.2.1 = nI n) (W : WF T Z) (h : RS (gSt c 0) Z) : ∃ w, RS w Z ∧ f_X5_saveState c = some (if n = 6 then sSp (sSt c (c.2.2.2.2.2.2.2.2 0) w) (c.2.2.2.2.2.2.1, nI 6, rotP c.2.2.2.2.2.2.2.2) else sSp (sSt c (c.2.2.2.2.2.2.2.2 n) w) (c.2.2.2.2.2.2.1, nI (n + 1), c.2.2.2.2.2.2.2.2)) := by
  unfold f_X5_saveState
  rw [hs, i0, if_neg (nI_nlt (Nat.zero_le _) (by omega)), i6]
  simp (discharger := omega) only [nI_ltI]
  by_cases e : n = 6
  · subst e
    rw [if_neg (by omega)]
    simp only [if_true]
    obtain ⟨w, hw, h1⟩ := sv25 (Z := Z) (T := T) c c.2.2.2.2.2.2.1 (q := 5) (rotP_PO hp) (by omega) W h
    refine ⟨w, hw, ?_⟩
    unfold b_X5_saveState_16
    have h2 := mo_all hp c c.2.2.2.2.2.2.1 c.2.2.2.2.2.2.2.1
    rw [sSp_self] at h2
    rw [h2, Option.bind_some]
    exact h1
  · rw [if_pos (by omega)]
    simp only [e, if_false]
    obtain ⟨w, hw, h1⟩ := sv25 (Z := Z) (T := T) c c.2.2.2.2.2.2.1 (q := n) hp (by omega) W h
    refine ⟨w, hw, ?_⟩
    rw [← hs, sSp_self] at h1
    exact h1
