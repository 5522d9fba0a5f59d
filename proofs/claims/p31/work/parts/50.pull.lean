-- ===== the end of a call that saves =====
theorem gSk0 (c : VC) (v : VSk) : gSt (sSk c 0 v) 0 = (v, (gSt c 0).2) := by unfold gSt sSk; simp only [va_up_self]
theorem gSk_ne (c : VC) (v : VSk) {k : Nat} (h : k ≠ 0) : gSt (sSk c 0 v) k = gSt c k := by unfold gSt sSk; simp only [va_up_ne _ _ h]
theorem gCk0 (c : VC) (v : VCk) : gSt (sCk c 0 v) 0 = ((gSt c 0).1, (gSt c 0).2.1, v, (gSt c 0).2.2.2) := by unfold gSt sCk; simp only [va_up_self]
theorem gCk_ne (c : VC) (v : VCk) {k : Nat} (h : k ≠ 0) : gSt (sCk c 0 v) k = gSt c k := by unfold gSt sCk; simp only [va_up_ne _ _ h]
-- ===== pull and fail =====
def pullG (Z : Nat → Nat) (s : Nat) : Nat → Nat := gput (gput (fun j => Z (9 * s + j)) 0 0) 5 0
def failG (Z : Nat → Nat) (s : Nat) : Nat → Nat := gput (fun j => Z (9 * s + j)) 4 1
theorem pull_RS {T : Nat} {Z : Nat → Nat} {st : VSt} (W : WF T Z) (h : RS st Z) {s : Nat} (hs : s < 4) : RS ((upd st.1.1 s (nI 0), upd st.1.2.1 s (nI 0), upd st.1.2.2.1 s (nI 0), upd st.1.2.2.2.1 s (nI 0), upd st.1.2.2.2.2.1 s (nI 0), upd st.1.2.2.2.2.2 s (nI 0)), st.2) (rowZ Z s (pullG Z s)) := by
  obtain ⟨hk, hl, hc, hv, hi⟩ := h
  have hsl := SL.row (Z := Z) s (pullG Z s)
  refine ⟨fun q hq => ?_, hsl.ly hl, ⟨fun q hq => ?_, ?_, ?_⟩, hsl.vl (fun k h1 _ => rowZ_hi (by omega)) W hv, ?_⟩
  · have := hk q hq
    rw [gt_row hq (by omega), gt_row hq (by omega), gt_row hq (by omega), gt_row hq (by omega), gt_row hq (by omega), rowZ_at hq (by omega)]
    by_cases e : q = s
    · subst e
      simp [upd, pullG, gput]
    · simpa [upd, e] using this
  · have := hc.1 q hq
    rw [rowZ_at hq (by omega), rowZ_at hq (by omega)]
    by_cases e : q = s
    · subst e
      simpa [pullG, gput] using this
    · rw [if_neg e, if_neg e]
      exact this
  · rw [rowZ_hi (by omega)]; exact hc.2.1
  · rw [rowZ_hi (by omega)]; exact hc.2.2
  · unfold RI
    rw [rowZ_hi (by omega), rowZ_hi (by omega), rowZ_hi (by omega), rowZ_hi (by omega), rowZ_hi (by omega)]
    exact hi
theorem fail_RS {T : Nat} {Z : Nat → Nat} {st : VSt} (W : WF T Z) (h : RS st Z) {s : Nat} (hs : s < 4) (hp : Z (9 * s) = 1) : RS ((st.1.1, st.1.2.1, st.1.2.2.1, st.1.2.2.2.1, upd st.1.2.2.2.2.1 s (nI 1), st.1.2.2.2.2.2), st.2) (rowZ Z s (failG Z s)) := by
  obtain ⟨hk, hl, hc, hv, hi⟩ := h
  have hsl := SL.row (Z := Z) s (failG Z s)
  refine ⟨fun q hq => ?_, hsl.ly hl, ⟨fun q hq => ?_, ?_, ?_⟩, hsl.vl (fun k h1 _ => rowZ_hi (by omega)) W hv, ?_⟩
  · have := hk q hq
    rw [gt_row hq (by omega), gt_row hq (by omega), gt_row hq (by omega), gt_row hq (by omega), gt_row hq (by omega), rowZ_at hq (by omega)]
    by_cases e : q = s
    · subst e
      simp [upd, failG, gput, gt, hp] at this ⊢
      exact ⟨this.1, this.2.1, this.2.2.1, this.2.2.2.1, this.2.2.2.2.2⟩
    · simpa [upd, e] using this
  · have := hc.1 q hq
    rw [rowZ_at hq (by omega), rowZ_at hq (by omega)]
    by_cases e : q = s
    · subst e
      simpa [failG, gput] using this
    · rw [if_neg e, if_neg e]
      exact this
  · rw [rowZ_hi (by omega)]; exact hc.2.1
  · rw [rowZ_hi (by omega)]; exact hc.2.2
  · unfold RI
    rw [rowZ_hi (by omega), rowZ_hi (by omega), rowZ_hi (by omega), rowZ_hi (by omega), rowZ_hi (by omega)]
    exact hi
theorem k_spoil (v : VSk) {s : Nat} (hs : s < 4) : f_X3_spoil v (nI s) = some (v.1, v.2.1, v.2.2.1, v.2.2.2.1, upd v.2.2.2.2.1 s (nI 1), v.2.2.2.2.2) := by
  unfold f_X3_spoil
  rw [p_slot hs, Option.bind_some, if_neg (by decide), i1, p_aupz hs (by omega) (by omega), Option.bind_some]
