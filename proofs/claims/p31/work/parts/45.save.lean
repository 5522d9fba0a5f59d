-- ===== copies, saved states =====
theorem upd_eq (f : Nat → Int32) (k : Nat) (x : Int32) : upd f k x k = x := if_pos rfl
theorem upd_ne (f : Nat → Int32) {k j : Nat} (x : Int32) (h : j ≠ k) : upd f k x j = f j := if_neg h
theorem p_acp {n n0 n1 : Nat} {f g : Nat → Int32} (h0 : n ≤ n0) (h1 : n ≤ n1) (hn : n < 2 ^ 31) : ∃ h, acp n0 n1 f g (nI 0) (nI 0) (nI n) = some h ∧ ∀ j, j < n → h j = f j := by
  unfold acp
  rw [nI_clamp hn, nI_clamp (by omega), if_neg (by
    have := nI_pos hn
    have h3 : ¬ nI 0 < 0 := by decide
    rintro (q | q | q | q | q)
    · exact h3 q
    · exact h3 q
    · exact this q
    · omega
    · omega)]
  refine ⟨_, rfl, fun j hj => ?_⟩
  unfold va_cpy
  simp [hj]
section
variable {T : Nat} {Z : Nat → Nat} {ly v1 : VLy} {sk v0 : VSk} {ck v2 : VCk} {st v : VSt} {b s : Nat}
theorem gt_le (W : WF T Z) (hs : s < 4) : gt Z s 4 ≤ 1 ∧ Z (9 * s + 5) ≤ 1 := by
  obtain ⟨w0, w1, w2, w3, w4, w5, w6, w7, w8, w9, w10, w11⟩ := W.1 s hs
  unfold gt
  constructor
  · split <;> omega
  · omega
def cpK (u v : VSk) (s : Nat) : VSk := (upd v.1 s (u.1 s), upd v.2.1 s (u.2.1 s), upd v.2.2.1 s (u.2.2.1 s), upd v.2.2.2.1 s (u.2.2.2.1 s), upd v.2.2.2.2.1 s (u.2.2.2.2.1 s), upd v.2.2.2.2.2 s (u.2.2.2.2.2 s))
theorem k_copyL (W : WF T Z) (h : RK sk Z) (hs : s < 4) {n : Nat} : l_X3_copyFrom_2 sk (n + 1) v0 (nI s) = l_X3_copyFrom_2 sk n (cpK sk v0 s) (nI (s + 1)) := by
  obtain ⟨g1, g2⟩ := gt_le W hs
  rw [l_X3_copyFrom_2, i4, if_pos (nI_lt hs (by omega))]
  simp (discharger := omega) only [p_ard, p_aup, Option.bind_some]
  rw [(h s hs).2.2.2.2.1, (h s hs).2.2.2.2.2, p_aupz hs (by omega) g1, Option.bind_some, p_aupz hs (by omega) g2, Option.bind_some, i1, nI_add]
  unfold cpK
  rw [(h s hs).2.2.2.2.1, (h s hs).2.2.2.2.2]
theorem k_copy (W : WF T Z) (h : RK sk Z) : ∃ w, f_X3_copyFrom v0 sk = some w ∧ RK w Z := by
  refine ⟨cpK sk (cpK sk (cpK sk (cpK sk v0 0) 1) 2) 3, ?_, fun s hs => ?_⟩
  · show l_X3_copyFrom_2 sk (999 + 1) v0 (nI 0) = _
    rw [k_copyL W h (by omega), show (999 : Nat) = 998 + 1 from rfl, k_copyL W h (by omega), show (998 : Nat) = 997 + 1 from rfl, k_copyL W h (by omega), show (997 : Nat) = 996 + 1 from rfl, k_copyL W h (by omega), show (996 : Nat) = 995 + 1 from rfl, l_X3_copyFrom_2, if_neg (by decide)]
  · have := h s hs
    unfold cpK
    rcases slot_cases hs with rfl | rfl | rfl | rfl <;> simpa [upd] using this
theorem l_copy (h : RLy ly Z) : ∃ w, f_X1_copyFrom v1 ly = some w ∧ RLy w Z := by
  obtain ⟨g, hg, hj⟩ := p_acp (n := 4) (n0 := 4) (n1 := 4) (f := ly.2.1) (g := v1.2.1) (by omega) (by omega) (by omega)
  refine ⟨(ly.1, g, ly.2.2), ?_, h.1, fun s hs => (hj s hs).trans (h.2.1 s hs), h.2.2⟩
  unfold f_X1_copyFrom
  rw [i0, i4, hg]; rfl
theorem c_copy (h : RC ck Z) : ∃ w, f_X0_copyFrom v2 ck = some w ∧ RC w Z := by
  obtain ⟨g, hg, hj⟩ := p_acp (n := 8) (n0 := 8) (n1 := 8) (f := ck.1) (g := v2.1) (by omega) (by omega) (by omega)
  refine ⟨(g, ck.2), ?_, fun s hs => ⟨(hj _ (by omega)).trans (h.1 s hs).1, (hj _ (by omega)).trans (h.1 s hs).2⟩, h.2⟩
  unfold f_X0_copyFrom
  rw [i0, i8, hg]; rfl
theorem s_copy (W : WF T Z) (h : RS st Z) : ∃ w, f_X2_copyFrom v st = some w ∧ RS w Z := by
  obtain ⟨a, ha, ra⟩ := k_copy (v0 := v.1) W h.1
  obtain ⟨b, hb, rb⟩ := l_copy (v1 := v.2.1) h.2.1
  obtain ⟨c, hc, rc⟩ := c_copy (v2 := v.2.2.1) h.2.2.1
  obtain ⟨g, hg, hj⟩ := p_acp (n := 48) (n0 := 48) (n1 := 48) (f := st.2.2.2.1) (g := v.2.2.2.1) (by omega) (by omega) (by omega)
  have hbl := W.blk
  refine ⟨(a, b, c, g, st.2.2.2.2), ?_, ra, rb, rc, fun q hq => (hj q (by omega)).trans (h.2.2.2.1 q hq), h.2.2.2.2⟩
  unfold f_X2_copyFrom
  rw [ha, Option.bind_some, hb, Option.bind_some, hc, Option.bind_some, i0, i48, hg]; rfl
end
-- the whole of it: now, the saved ones, the snapshot
def PO (p : Nat → Nat) : Prop := (∀ i, i < 6 → 2 ≤ p i ∧ p i < 8) ∧ ∀ i j, i < 6 → j < 6 → p i = p j → i = j
theorem i10 : (480 : Int32) = nI 480 := rfl
-- the reference's record
section
def cpS (z sv : Nat → Int32) (n j : Nat) : Nat → Int32 := fun k => if 96 * n ≤ k ∧ k < 96 * n + j then z (k - 96 * n) else sv k
theorem cpS_succ (z sv : Nat → Int32) (n j : Nat) : upd (cpS z sv n j) (96 * n + j) (z j) = cpS z sv n (j + 1) := by
  funext k
  unfold upd cpS
  by_cases e : k = 96 * n + j
  · subst e
    rw [if_pos rfl, if_pos (by omega), show 96 * n + j - 96 * n = j by omega]
  · rw [if_neg e]
    by_cases q : 96 * n ≤ k ∧ k < 96 * n + j
    · rw [if_pos q, if_pos (by omega)]
    · rw [if_neg q, if_neg (by omega)]
def shS (sv : Nat → Int32) (j : Nat) : Nat → Int32 := fun k => if k < j then sv (96 + k) else sv k
theorem shS_succ (sv : Nat → Int32) (j : Nat) : upd (shS sv j) j (sv (96 + j)) = shS sv (j + 1) := by
  funext k
  unfold upd shS
  by_cases e : k = j
  · subst e
    rw [if_pos rfl, if_pos (by omega)]
  · rw [if_neg e]
    by_cases q : k < j
    · rw [if_pos q, if_pos (by omega)]
    · rw [if_neg q, if_neg (by omega)]
theorem cpS_0 (z sv : Nat → Int32) (n : Nat) : cpS z sv n 0 = sv := by funext k; unfold cpS; rw [if_neg (by omega)]
theorem shS_0 (sv : Nat → Int32) : shS sv 0 = sv := by funext k; unfold shS; rw [if_neg (by omega)]
def recS (z sv : Nat → Int32) (n : Nat) : Nat → Int32 := if n = 6 then cpS z (shS sv 480) 5 96 else cpS z sv n 96
end
