-- ===== set =====
theorem gSt_sSt0 (c : VC) (st : VSt) : gSt (sSt c 0 st) 0 = st := sSt_get c 0 st
theorem set_RS {T : Nat} {Z : Nat → Nat} {st : VSt} {k x : Nat} (W : WF T Z) (h : RS st Z) (hk : k = 46 ∨ k = 47) : RS (st.1, st.2.1, st.2.2.1, st.2.2.2.1, (if k = 46 then (nI x, st.2.2.2.2.2) else (st.2.2.2.2.1, nI x, st.2.2.2.2.2.2))) (zu Z k x) := by
  obtain ⟨hkk, hl, hc, hv, hi⟩ := h
  have hsl := zu_SL (Z := Z) (k := k) (x := x) (by omega)
  refine ⟨zu_K (by omega) hkk, hsl.ly hl, ⟨fun q hq => ?_, ?_, ?_⟩, hsl.vl (fun k h1 _ => zu_ne (by omega)) W hv, ?_⟩
  · rw [zu_ne (by omega), zu_ne (by omega)]; exact hc.1 q hq
  · rw [zu_ne (by omega)]; exact hc.2.1
  · rw [zu_ne (by omega)]; exact hc.2.2
  · unfold RI
    rw [zu_ne (j := 42) (by omega), zu_ne (j := 43) (by omega), zu_ne (j := 45) (by omega)]
    rcases hk with rfl | rfl
    · rw [if_pos rfl, zu_eq, zu_ne (by omega)]
      exact ⟨rfl, hi.2⟩
    · rw [if_neg (by omega), zu_eq, zu_ne (by omega)]
      exact ⟨hi.1, rfl, hi.2.2⟩
