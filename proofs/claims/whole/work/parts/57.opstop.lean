theorem L_stop_in {c c' : VC} {o : Nat → Int64} {x : Int32} (h : f_X5_stop c = some (.inr (x, c'))) : f_L_stop c o = some (0, c', vp_updL o 0 x.toInt64) := by unfold f_L_stop; rw [h]; rfl
theorem op_stop {T : Nat} (c : VC) (mo : VM) (o : Nat → Int64) (h : Iv T (c, (mo, o))) : Ok T (callG (f_L_stop c o) (f_X6_stop mo)) := by
  have hall := h
  obtain ⟨Z, SZ, n, KZ, kp, tx, len, hS, hT⟩ := h
  have hS0 := hS
  obtain ⟨W, hR, hZ, -⟩ := hS0
  have hk : (c.2.1 0).1 = kI (Z 40) := hR.2.1.1
  unfold f_X6_stop
  rw [i40, m_40 hZ, Option.bind_some]
  by_cases e : Z 40 = 0
  · rw [if_pos ((kI_m W.2.1).mpr e)]
    have e1 : f_X5_stop c = some (.inl (3, c)) := by
      unfold f_X5_stop f_X1_isLaid
      rw [hk, if_pos ((kI_m W.2.1).mpr e)]; rfl
    refine ⟨_, Iv.thr (t' := 1) (o' := o) hall (by omega), callG_th (c' := c) (x := 0) (k := 1) (by unfold f_L_stop; rw [e1]; rfl) rfl (by decide)⟩
  rw [if_neg (fun q => e ((kI_m W.2.1).mp q))]
  obtain ⟨c', m2, SZ', n', hsv, hrec, hI, htx, hg0, hz, hm2⟩ := save hS
  have hR' : RS (gSt c' 0) Z := by rw [hg0]; exact hR
  have hZ2 : RZ m2.1 Z := by rw [hz]; exact hZ
  obtain ⟨w, hw, hRw⟩ := s_end W hR'
  obtain ⟨z', hf, hz'⟩ := m_forget (m := (0, m2)) hZ2
  have hcl : f_X5_stop c = some (.inr (nI (blkN Z), sSt c' 0 w)) := by
    unfold f_X5_stop f_X1_isLaid
    rw [hk, if_neg (fun q => e ((kI_m W.2.1).mp q)), Option.bind_some, if_neg (by decide), hsv, Option.bind_some, hw, Option.bind_some, show (c'.2.1 0).2.2.2.2.2.1 = nI (blkN Z) from hR'.2.1.2.2.2.2.2.1]
  have hm : b_X6_stop_17 mo 0 = some (nI (blkN Z), (0, z', m2.2)) := by
    unfold b_X6_stop_17
    rw [if_neg (by decide), hrec, Option.bind_some, m_blk (m := (0, m2)) W hZ2, Option.bind_some, hf, Option.bind_some]
  exact op_end (Z' := forgetZ Z) hI (Nat.le_refl _) hT htx hm2 (L_stop_in hcl) hm (gSt_sSt0 _ _) (fun k hk _ => gSt_ne _ _ hk) rfl (WF_forget W) hRw hz'
