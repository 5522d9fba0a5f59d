-- ===== set =====
theorem L_set_in {c c' : VC} {o : Nat → Int64} {a1 a2 x : Int32} (h : f_X5_set c a1 a2 = some (.inr (x, c'))) : f_L_set c o a1 a2 = some (0, c', vp_updL o 0 x.toInt64) := by unfold f_L_set; rw [h]; rfl
theorem gSt_sSt0 (c : VC) (st : VSt) : gSt (sSt c 0 st) 0 = st := sSt_get c 0 st
theorem set_RS {T : Nat} {Z : Nat → Nat} {st : VSt} {k x : Nat} (W : WF T Z) (h : RS st Z) (hk : k = 46 ∨ k = 47) : RS (st.1, st.2.1, st.2.2.1, st.2.2.2.1, (if k = 46 then (nI x, st.2.2.2.2.2) else (st.2.2.2.2.1, nI x, st.2.2.2.2.2.2))) (zu Z k x) := by
  obtain ⟨hkk, hl, hc, hv, hi⟩ := h
  have hsl := zu_SL (Z := Z) (k := k) (x := x) (by omega)
  refine ⟨zu_K (by omega) hkk, hsl.ly hl, ⟨fun q hq => ?_, ?_, ?_⟩, hsl.vl (fun k h1 _ => zu_ne (by omega)) W hv, ?_⟩
  · rw [zu_ne (by omega), zu_ne (by omega)]; exact hc.1 q hq
  · rw [zu_ne (by omega)]; exact hc.2.1
  · rw [zu_ne (by omega)]; exact hc.2.2
  · unfold RI
    rw [zu_ne (j := 42) (by omega), zu_ne (j := 43) (by omega), zu_ne (j := 45) (by omega)]
    rcases hk with rfl | rfl
    · rw [if_pos rfl, zu_eq, zu_ne (by omega)]
      exact ⟨rfl, hi.2⟩
    · rw [if_neg (by omega), zu_eq, zu_ne (by omega)]
      exact ⟨hi.1, rfl, hi.2.2⟩
theorem op_set {T : Nat} (c : VC) (mo : VM) (o : Nat → Int64) (a1 a2 : Int32) (h : Iv T (c, (mo, o))) : Ok T (callG (f_L_set c o a1 a2) (f_X6_set mo a1 a2)) := by
  unfold f_X6_set
  rcases w_or a1 (lo := 0) (hi := 1) (by omega) (by omega) with ⟨h1, g1⟩ | ⟨s, p1, q1, rfl, h1, g1⟩
  · have e1 : f_X5_set c a1 a2 = some (.inl (1, c)) := by unfold f_X5_set; rw [show f_X5_isWithin a1 0 1 = some 0 from h1]; rfl
    refine ⟨_, Iv.thr (t' := 1) (o' := o) h (by omega), callG_th (c' := c) (x := 0) (k := 1) (by unfold f_L_set; rw [e1]; rfl) ?_ (by decide)⟩
    rw [show f_X6_in a1 0 1 = some 0 from g1]; rfl
  rw [show f_X6_in (nI s) 0 1 = some 1 from g1, Option.bind_some, if_neg (by decide)]
  have hpre : f_X5_set c (nI s) a2 = b_X5_set_30 c (nI s) a2 (nI (2 - s)) (nI 0) a2 := by
    unfold f_X5_set
    rw [show f_X5_isWithin (nI s) 0 1 = some 1 from h1, Option.bind_some, if_neg (by decide)]
    rcases (show s = 0 ∨ s = 1 by omega) with rfl | rfl <;> rfl
  have hsub : (2 : Int32) - nI s = nI (2 - s) := by rw [i2, pk_sub (by omega)]
  rw [hsub]
  unfold b_X5_set_30 at hpre
  rcases w_or a2 (lo := 0) (hi := 2 - s) (by omega) (by omega) with ⟨h2, g2⟩ | ⟨j, p2, q2, rfl, h2, g2⟩
  · rw [h2] at hpre
    refine ⟨_, Iv.thr (t' := 2) (o' := o) h (by omega), callG_th (c' := c) (x := 0) (k := 2) (by unfold f_L_set; rw [hpre]; rfl) ?_ (by decide)⟩
    rw [show f_X6_in a2 0 (nI (2 - s)) = some 0 from g2]; rfl
  obtain ⟨Z, SZ, n, KZ, kp, tx, len, hS, hT⟩ := h
  have hS0 := hS
  obtain ⟨W, hR, hZ, -⟩ := hS0
  obtain ⟨c', m2, SZ', n', hsv, hrec, hI, htx, hg0, hz, hm2⟩ := save hS
  have hR' : RS (gSt c' 0) Z := by rw [hg0]; exact hR
  have hZ2 : RZ m2.1 Z := by rw [hz]; exact hZ
  rw [h2, Option.bind_some, if_neg (by decide), hsv, Option.bind_some] at hpre
  have hex : f_X2_exchangeSetting (gSt c' 0) (nI s) (nI j) = some (nI (Z (46 + s)), ((gSt c' 0).1, (gSt c' 0).2.1, (gSt c' 0).2.2.1, (gSt c' 0).2.2.2.1, (if 46 + s = 46 then (nI j, (gSt c' 0).2.2.2.2.2) else ((gSt c' 0).2.2.2.2.1, nI j, (gSt c' 0).2.2.2.2.2.2)))) := by
    have i1' := hR'.2.2.2.2.1
    have i2' := hR'.2.2.2.2.2.1
    unfold f_X2_exchangeSetting f_X2_settingOf
    rcases (show s = 0 ∨ s = 1 by omega) with rfl | rfl
    · rw [if_neg (by decide), Option.bind_some, if_neg (by decide), if_pos rfl, i1']
    · rw [if_pos (by decide), Option.bind_some, if_pos (by decide), if_neg (by omega), i2']
  rw [hex, Option.bind_some] at hpre
  have hm : b_X6_set_30 mo (nI s) (nI j) 0 = some (nI (Z (46 + s)), (0, upd m2.1 (46 + s) (nI j), m2.2)) := by
    unfold b_X6_set_30
    rw [if_neg (by decide), hrec, Option.bind_some, show (46 : Int32) = nI 46 from rfl, nI_add, m_at (m := (0, m2)) hZ2 (by omega) (by omega), Option.bind_some, m_aup (0, m2) (by omega), Option.bind_some]
  rw [show f_X6_in (nI j) 0 (nI (2 - s)) = some 1 from g2, Option.bind_some, if_neg (by decide)]
  exact op_end (Z' := zu Z (46 + s) j) hI (Nat.le_refl _) hT htx hm2 (L_set_in hpre) hm (gSt_sSt0 _ _) (fun k hk _ => gSt_ne _ _ hk) rfl (WF_zu W (by omega) (by omega) (by omega) (fun q => by omega) ⟨fun q => by omega, fun q => by omega, by omega⟩ (fun q => by omega)) (set_RS W hR' (by omega)) (RZ_zu hZ2 (by omega))
