-- ===== plug =====
theorem p_slot0 {s : Nat} (hs : s < 4) : ¬ (1 : Int32) = 0 := by decide
theorem k_put (v : VSk) {s : Nat} (hs : s < 4) (a b d : Int32) : f_X3_put v (nI s) a b d = some (upd v.1 s a, upd v.2.1 s b, upd v.2.2.1 s d, upd v.2.2.2.1 s (nI 0), upd v.2.2.2.2.1 s (nI 0), upd v.2.2.2.2.2 s (nI 0)) := by
  unfold f_X3_put
  rw [p_slot hs, Option.bind_some, if_neg (by decide)]
  simp (discharger := omega) only [i0, p_aup, p_aupz, Option.bind_some]
theorem c_freeSlot (v : VCk) {s : Nat} (hs : s < 4) : f_X0_freeSlot v (nI s) = some (upd (upd v.1 (2 * s) (nI 0)) (2 * s + 1) (nI 0), v.2) := by
  unfold f_X0_freeSlot
  rw [p_slot hs, Option.bind_some, if_neg (by decide), i2, i1, pk_mul, nI_add]
  simp (discharger := omega) only [i0, p_aup, Option.bind_some]
def plugG (Z : Nat → Nat) (s a b d : Nat) : Nat → Nat := gput (gput (gput (gput (gput (gput (gput (gput (gput (fun j => Z (9 * s + j)) 0 1) 1 a) 2 b) 3 d) 4 0) 5 0) 6 0) 7 0) 8 0
theorem plugG_at (Z : Nat → Nat) (s a b d : Nat) : plugG Z s a b d 0 = 1 ∧ plugG Z s a b d 1 = a ∧ plugG Z s a b d 2 = b ∧ plugG Z s a b d 3 = d ∧ plugG Z s a b d 4 = 0 ∧ plugG Z s a b d 5 = 0 ∧ plugG Z s a b d 6 = 0 ∧ plugG Z s a b d 7 = 0 ∧ plugG Z s a b d 8 = 0 := by
  simp [plugG, gput]
theorem plug_RS {T : Nat} {Z : Nat → Nat} {st : VSt} (W : WF T Z) (h : RS st Z) {s a b d : Nat} (hs : s < 4) : RS ((upd st.1.1 s (nI a), upd st.1.2.1 s (nI b), upd st.1.2.2.1 s (nI d), upd st.1.2.2.2.1 s (nI 0), upd st.1.2.2.2.2.1 s (nI 0), upd st.1.2.2.2.2.2 s (nI 0)), st.2.1, (upd (upd st.2.2.1.1 (2 * s) (nI 0)) (2 * s + 1) (nI 0), st.2.2.1.2), st.2.2.2) (rowZ Z s (plugG Z s a b d)) := by
  obtain ⟨hk, hl, hc, hv, hi⟩ := h
  obtain ⟨p0, p1, p2, p3, p4, p5, p6, p7, p8⟩ := plugG_at Z s a b d
  have hsl := SL.row (Z := Z) s (plugG Z s a b d)
  refine ⟨fun q hq => ?_, hsl.ly hl, ⟨fun q hq => ?_, ?_, ?_⟩, hsl.vl (fun k h1 _ => rowZ_hi (by omega)) W hv, ?_⟩
  · have := hk q hq
    rw [gt_row hq (by omega), gt_row hq (by omega), gt_row hq (by omega), gt_row hq (by omega), gt_row hq (by omega), rowZ_at hq (by omega)]
    by_cases e : q = s
    · subst e
      simp [upd, p0, p1, p2, p3, p4, p5, p8]
    · simpa [upd, e] using this
  · have := hc.1 q hq
    rw [rowZ_at hq (by omega), rowZ_at hq (by omega)]
    by_cases e : q = s
    · subst e
      simp [upd, p6, p7]
    · dsimp only
      rw [upd_ne _ _ (by omega), upd_ne _ _ (by omega), upd_ne _ _ (by omega), upd_ne _ _ (by omega), if_neg e, if_neg e]
      exact this
  · rw [rowZ_hi (by omega)]; exact hc.2.1
  · rw [rowZ_hi (by omega)]; exact hc.2.2
  · unfold RI
    rw [rowZ_hi (by omega), rowZ_hi (by omega), rowZ_hi (by omega), rowZ_hi (by omega), rowZ_hi (by omega)]
    exact hi
theorem bind_inr {f : Option Int32} {B : VC} {r : Int32} (h : f = some r) : (f.bind fun x => some (Sum.inr (x, B) : (Nat × VC) ⊕ (Int32 × VC))) = some (.inr (r, B)) := by rw [h]; rfl
