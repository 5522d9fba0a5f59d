-- ===== the law's other calls =====
theorem IvC.mono {T T' : Nat} {c : VC} {Z : Nat → Nat} (h : IvC T c Z) (hT : T ≤ T') : IvC T' c Z := ⟨h.1.mono hT, h.2⟩
section
variable {T : Nat} {Z Y : Nat → Nat} {g k p q v : Nat → Int32} {c : VC} {s n a b d i r : Nat}
theorem Went.ok {c' : VC} {u' : VRw} {Z' : Nat → Nat} {T' : Nat} (h : IvC T' c' Z') (hT : T' ≤ T) (hu : RG u' Z') (h2 : R2 Z → R2 Z') : Went T Z (some (1, (c', u'))) := ⟨c', u', Z', rfl, h.mono hT, hu, h2⟩
theorem mp_r2 {map j : Nat} (hj : j < 36) (h3 : j % 9 < 3) : mapZ Z map j = Z j := by
  have := mp_at (Z := Z) (map := map) (s := j / 9) (w := j % 9) (by omega) (by omega)
  rw [show 9 * (j / 9) + j % 9 = j by omega, if_neg (by omega), if_neg (by omega)] at this
  exact this
theorem fg_r2 {j : Nat} (hj : j < 36) (h3 : j % 9 < 3) : forgetZ Z j = Z j := by
  have := fg_at (Z := Z) (s := j / 9) (w := j % 9) (by omega) (by omega)
  rw [show 9 * (j / 9) + j % 9 = j by omega, if_neg (by omega)] at this
  exact this
-- stop
theorem a_pqL : ∀ (e j f : Nat), j + e = 48 → e < f → l_L_act_187 f (c, (g, k, fl_part p mI j, fl_part q mI j, v)) (nI n) (nI j) = (f_L_stop c).bind fun x => if x.1 = nI n then some (1, (x.2, (g, k, fl_part p mI 48, fl_part q mI 48, v))) else some (0, (x.2, (g, k, fl_part p mI 48, fl_part q mI 48, v))) := by
  intro e
  induction e with
  | zero =>
    intro j f hj hf
    obtain ⟨f, rfl⟩ := Nat.exists_eq_succ_of_ne_zero (show f ≠ 0 by omega)
    rw [l_L_act_187, show j = 48 by omega, if_neg (by decide)]
  | succ e ih =>
    intro j f hj hf
    obtain ⟨f, rfl⟩ := Nat.exists_eq_succ_of_ne_zero (show f ≠ 0 by omega)
    rw [l_L_act_187, i48, if_pos (nI_lt (by omega) (by omega))]
    dsimp only
    rw [im1, p_aup (by omega) (by omega), Option.bind_some, p_aup (by omega) (by omega), Option.bind_some, fl_part_up, fl_part_up, i1, nI_add]
    exact ih (j + 1) f (by omega) (by omega)
theorem a_kL {j : Nat} (hj : j < 4) : l_L_act_163 (n + 1) (c, (g, stK k j, p, q, v)) (nI a) (nI (8 * j)) = l_L_act_163 n (c, (g, stK k (j + 1), p, q, v)) (nI a) (nI (8 * (j + 1))) := by
  rw [l_L_act_163, i32, if_pos (nI_lt (by omega) (by omega))]
  dsimp only
  rw [i4, nI_add, p_aup (by omega) (by omega), Option.bind_some, i0, stK_s, i8, nI_add, show 8 * (j + 1) = 8 * j + 8 by omega]
theorem a_stop : l_L_act_163 FU (c, (g, k, p, q, v)) (nI a) 0 = (f_L_stop c).bind fun x => if x.1 = nI a then some (1, (x.2, (g, stK k 4, fl_part p mI 48, fl_part q mI 48, v))) else some (0, (x.2, (g, stK k 4, fl_part p mI 48, fl_part q mI 48, v))) := by
  have e0 : l_L_act_163 FU (c, (g, k, p, q, v)) (nI a) 0 = l_L_act_163 (999 + 1) (c, (g, stK k 0, p, q, v)) (nI a) (nI (8 * 0)) := by rw [stK_0]; rfl
  rw [e0, a_kL (by omega), show (999 : Nat) = 998 + 1 from rfl, a_kL (by omega), show (998 : Nat) = 997 + 1 from rfl, a_kL (by omega), show (997 : Nat) = 996 + 1 from rfl, a_kL (by omega), show (996 : Nat) = 995 + 1 from rfl, l_L_act_163, if_neg (by decide)]
  have := a_pqL (c := c) (g := g) (k := stK k 4) (p := p) (q := q) (v := v) (n := a) 48 0 FU (by omega) (by decide)
  rw [fl_part_0, fl_part_0] at this
  exact this
theorem g_at (hg : RGg g Z) {j : Nat} (h1 : 41 ≤ j) (h2 : j ≤ 47) : g (j - 39) = nI (Z j) := by
  obtain ⟨a0, a1, a2, a3, a4, a5, a6, a7, a8, a9⟩ := hg
  rcases (show j = 41 ∨ j = 42 ∨ j = 43 ∨ j = 44 ∨ j = 45 ∨ j = 46 ∨ j = 47 by omega) with rfl | rfl | rfl | rfl | rfl | rfl | rfl <;> assumption
theorem t_227 {u : VRw} (h : IvC T c Z) (hT : T < 2 ^ 24) (hu : RG u Z) (a2 : Int32) (hr : r < 12) (hb : b < 49) : Went (T + 99) Z (b_L_act_227 (c, u) a2 (nI r) (nI b)) := by
  obtain ⟨g, k, p, q, v⟩ := u
  have hu0 := hu
  obtain ⟨hg, hk, hp, hq, hv⟩ := hu
  dsimp only at hg hk hp hq hv
  have W := h.1
  have hbl := W.blk
  have hok : Went (T + 99) Z (some (1, (c, (g, k, p, q, v)))) := Went.ok h (by omega) hu0 id
  unfold b_L_act_227
  dsimp only
  rw [i6, show (10 : Int32) = nI 10 from rfl]
  simp (discharger := omega) only [nI_ltI, nI_eq]
  have eg0 : ard 10 g 0 = some (nI (blkN Z)) := by rw [i0, p_ard (by omega) (by omega), hg.1]
  by_cases c1 : r < 6
  · rw [if_pos c1, i100]
    obtain ⟨j, hj, ej⟩ := t_low (((a2 >>> ((nI 6 : Int32) &&& 31)) : Int32)) (n := 100) (by omega) (by omega)
    rw [ej, Option.bind_some, eg0, Option.bind_some]
    simp (discharger := omega) only [nI_ltI]
    by_cases cb : b < blkN Z
    · rw [if_pos cb, t_can W hk hp hq cb, Option.bind_some]
      by_cases cc : canN Z b
      · obtain ⟨c', hc, hI⟩ := q_write_y h cb (show j ≤ 99 by omega) cc
        have hrs := rs_lt Z b
        have hrn := rn_lt W cb cc
        have hpl := pN_lt W cb
        rw [if_neg (bI_t cc), t_readAt W hk hp hq cb cc, Option.bind_some, t_val W hv cb cc, Option.bind_some, t_p hp cb (by omega), Option.bind_some, p_aup (by omega) (by omega), Option.bind_some, t_q hq (by omega), Option.bind_some]
        by_cases c3 : Z 40 = 3
        · have hql := qN_lt W cb c3
          have hqq : qI Z b = nI (qN Z b) := by unfold qI; rw [if_pos ⟨cb, c3⟩]
          rw [hqq, i0, if_neg (nI_nlt (Nat.zero_le _) (by omega)), Option.bind_some, p_aup (by omega) (by omega), Option.bind_some]
          unfold b_L_act_373
          dsimp only
          rw [hc, Option.bind_some, if_pos rfl]
          refine Went.ok hI (by omega) (hu0.wr W (fun i => ?_)) (fun r2 => r2.congr (fun j hj _ => wr_lo (by omega)))
          unfold upd
          by_cases e1 : i = qN Z b
          · rw [if_pos e1, if_pos (Or.inr ⟨c3, e1⟩)]
          · rw [if_neg e1]
            by_cases e2 : i = pN Z b
            · rw [if_pos e2, if_pos (Or.inl e2)]
            · rw [if_neg e2, if_neg (fun z => z.elim e2 (fun z => e1 z.2))]
        · have hqq : qI Z b = mI := by unfold qI; rw [if_neg (fun z => c3 z.2)]
          rw [hqq, if_pos mI_neg]
          unfold b_L_act_373
          dsimp only
          rw [hc, Option.bind_some, if_pos rfl]
          refine Went.ok hI (by omega) (hu0.wr W (fun i => ?_)) (fun r2 => r2.congr (fun j hj _ => wr_lo (by omega)))
          unfold upd
          by_cases e2 : i = pN Z b
          · rw [if_pos e2, if_pos (Or.inl e2)]
          · rw [if_neg e2, if_neg (fun z => z.elim e2 (fun z => c3 z.1))]
      · rw [if_pos (bI_f cc), q_write_n h cb (show j ≤ 99 by omega) cc, Option.bind_some, if_pos rfl]
        dsimp only
        rw [← i100, q_write_2 h cb, Option.bind_some, if_pos rfl]
        exact hok
    · rw [if_neg cb, q_write_1 h (by omega) (by omega), Option.bind_some, if_pos rfl]
      dsimp only
      rw [q_write_m, Option.bind_some, if_pos rfl]
      exact hok
  rw [if_neg c1]
  by_cases c2 : r < 10
  · rw [if_pos c2, eg0, Option.bind_some]
    simp (discharger := omega) only [nI_ltI]
    by_cases cb : b < blkN Z
    · rw [if_pos cb, t_can W hk hp hq cb, Option.bind_some]
      by_cases cc : canN Z b
      · obtain ⟨c', hc, hI⟩ := q_read_y h hT cb cc
        obtain ⟨u', e1, hu', -⟩ := t_one W hT hu0 cb cc
        have hsq := SQ_one (Z := Z) b
        have W1 := hI.1
        have cb1 : b < blkN (oneZ Z b) := by rw [hsq.sl.blk]; exact cb
        have cc1 : canN (oneZ Z b) b := (hsq.can b).mpr cc
        have hval := t_val W1 hu'.2.2.2.2 cb1 cc1
        rw [hsq.sl.slot, hsq.sl.num, hsq _ (show (48 + 12 * slotN Z b + numN Z b < 36 ∧ _) ∨ (36 ≤ 48 + 12 * slotN Z b + numN Z b ∧ _) ∨ 45 ≤ 48 + 12 * slotN Z b + numN Z b from Or.inr (Or.inr (by omega)))] at hval
        rw [if_neg (bI_t cc), e1, Option.bind_some, hc, Option.bind_some, t_readAt W1 hu'.2.1 hu'.2.2.1 hu'.2.2.2.1 cb1 cc1, Option.bind_some, hval, Option.bind_some, if_pos rfl]
        exact Went.ok hI (by omega) hu' (fun r2 => r2.congr (fun j hj h3 => hsq j (by omega)))
      · rw [if_pos (bI_f cc), q_read_n h cb cc, Option.bind_some, if_pos rfl]
        exact hok
    · rw [if_neg cb, q_read_1 h (by omega) (by omega), Option.bind_some, if_pos rfl]
      exact hok
  rw [if_neg c2]
  by_cases c3 : r = 10
  · rw [if_pos c3, i12]
    obtain ⟨j, hj, ej⟩ := t_low a2 (n := 12) (by omega) (by omega)
    obtain ⟨c', hc, hI⟩ := q_rest h (j := 1 + j) (by omega) (by omega)
    have hz := RG_zu (j := 41) (x := Z 41 + (1 + j)) W hu0 (by omega) (by omega)
    rw [ej, Option.bind_some, i2, p_ard (by omega) (by omega), Option.bind_some, hg.2.2.1, i1, nI_add, nI_add, p_aup (by omega) (by omega), Option.bind_some, hc, Option.bind_some, p_ard (by omega) (by omega), Option.bind_some, upd_eq, if_pos rfl]
    dsimp only
    rw [q_rest_0, Option.bind_some, if_pos rfl]
    dsimp only
    rw [q_rest_100, Option.bind_some, if_pos rfl]
    exact Went.ok hI (by omega) hz (fun r2 => r2.congr (fun j hj _ => zu_ne (by omega)))
  rw [if_neg c3]
  obtain ⟨s, hs, es⟩ := t_and1 a2
  rw [es, i7, nI_add, i3, pk_sub (by omega)]
  obtain ⟨j, hj, ej⟩ := t_low (((a2 >>> ((1 : Int32) &&& 31)) : Int32)) (n := 3 - s) (by omega) (by omega)
  obtain ⟨c', hc, hI⟩ := q_set h hs (j := j) (by omega)
  have hz := RG_zu (j := 46 + s) (x := j) W hu0 (by omega) (by omega)
  have hgs := g_at hg (j := 46 + s) (by omega) (by omega)
  rw [show 46 + s - 39 = 7 + s by omega] at hz hgs
  rw [p_ard (by omega) (by omega), Option.bind_some, hgs, ej, Option.bind_some, p_aup (by omega) (by omega), Option.bind_some, p_ard (by omega) (by omega), Option.bind_some, upd_eq, hc, Option.bind_some, if_pos rfl]
  dsimp only
  rw [q_set_12, Option.bind_some, if_pos rfl]
  dsimp only
  rw [q_set_20, Option.bind_some, if_pos rfl]
  exact Went.ok hI (by omega) hz (fun r2 => r2.congr (fun j hj _ => zu_ne (by omega)))
theorem t_29 {u : VRw} (h : IvC T c Z) (hT : T < 2 ^ 24) (hu : RG u Z) (a2 : Int32) (hr : r < 12) {t : Nat} (ht : 0 < t ∧ t ≤ 49) : Went (T + 99) Z (b_L_act_29 (c, u) a2 (nI r) (nI t) a2) := by
  obtain ⟨b, hb, eb⟩ := t_low a2 (n := t) (by omega) (by omega)
  have h227 := t_227 (r := r) (b := b) h hT hu a2 hr (by omega)
  obtain ⟨g, k, p, q, v⟩ := u
  have hu0 := hu
  obtain ⟨hg, hk, hp, hq, hv⟩ := hu
  dsimp only at hg hk hp hq hv
  have W := h.1
  have hbl := W.blk
  have h46 : Z 46 ≤ 2 := W.2.2.2.2.2.2.2.2.1
  have hwle := whyN_le Z (Z 46)
  have hok : Went (T + 99) Z (some (1, (c, (g, k, p, q, v)))) := Went.ok h (by omega) hu0 id
  unfold b_L_act_29
  rw [eb, Option.bind_some, i2]
  simp (discharger := omega) only [nI_ltI, nI_eq]
  by_cases c1 : r < 2
  · have eg7 : ard 10 g 7 = some (nI (Z 46)) := by rw [i7, p_ard (by omega) (by omega), hg.2.2.2.2.2.2.2.1]
    rw [if_pos c1]
    rw [eg7, Option.bind_some, t_why W hk (by omega), Option.bind_some, i0]
    simp (discharger := omega) only [nI_ltI]
    by_cases c2 : 0 < whyN Z (Z 46)
    · rw [if_pos c2, q_start_n h (by omega), Option.bind_some, if_pos rfl]
      exact hok
    · obtain ⟨c', hc, hI⟩ := q_start_y h (by omega)
      obtain ⟨u1, e1, hu1⟩ := t_make (map := Z 46) (p := p) (q := q) (v := v) W h46 hg hk
      obtain ⟨g1, k1, p1, q1, v1⟩ := u1
      have hz := RG_zu (j := 45) (x := Z 45 + 1) (WF_map W h46) hu1 (by omega) (by omega)
      have hg1 := hu1.1
      dsimp only at hg1
      rw [if_neg c2, Option.bind_some, e1, Option.bind_some]
      dsimp only
      rw [i6, p_ard (by omega) (by omega), Option.bind_some, hg1.2.2.2.2.2.2.1, mp_mid (by omega) (by omega), i1, nI_add, p_aup (by omega) (by omega), Option.bind_some, hc, Option.bind_some, p_ard (by omega) (by omega), Option.bind_some, upd_ne _ _ (by omega), hg1.1, if_pos rfl]
      exact Went.ok hI (by omega) hz (fun r2 => r2.congr (fun j hj h3 => (zu_ne (by omega)).trans (mp_r2 hj h3)))
  rw [if_neg c1]
  by_cases c2 : r = 2
  · rw [if_pos c2]
    by_cases c3 : a2 &&& 7 = 0
    · rw [if_pos c3]
      rw [i9, p_ard (by omega) (by omega), Option.bind_some, hg.2.2.2.2.2.2.2.2.2]
      by_cases c4 : Z 40 = 0
      · rw [if_pos ((kI_lt W.2.1).mpr c4), q_stop_n h c4, Option.bind_some, if_pos rfl]
        exact hok
      · obtain ⟨c', hc, hI⟩ := q_stop_y h c4
        have hz := hu0.forget (p' := fl_part p mI 48) (q' := fl_part q mI 48) (fun b hb => by unfold fl_part; rw [if_pos hb]) (fun b hb => by unfold fl_part; rw [if_pos hb])
        rw [if_neg (fun z => c4 ((kI_lt W.2.1).mp z)), i0, p_ard (by omega) (by omega), Option.bind_some, hg.1, p_aup (by omega) (by omega), Option.bind_some, i1, p_aup (by omega) (by omega), Option.bind_some, imn, p_aup (by omega) (by omega), Option.bind_some, ← i0, a_stop, hc, Option.bind_some, if_pos rfl]
        exact Went.ok hI (by omega) hz (fun r2 => r2.congr (fun j hj h3 => fg_r2 hj h3))
    · rw [if_neg c3]
      exact h227
  · rw [if_neg c2]
    exact h227
theorem t_act {u : VRw} (h : IvC T c Z) (hT : T < 2 ^ 24) (hu : RG u Z) (a1 a2 : Int32) : Went (T + 99) Z (f_L_act (c, u) a1 a2) := by
  have hbl := h.1.blk
  obtain ⟨r, hr, er⟩ := t_low a1 (n := 12) (by omega) (by omega)
  unfold f_L_act
  rw [i12, er, Option.bind_some]
  by_cases c1 : (((a2 >>> ((nI 12 : Int32) &&& 31)) : Int32) &&& 7) = 0
  · rw [if_pos c1]
    exact t_29 h hT hu a2 hr (t := 48) (by omega)
  · rw [if_neg c1]
    dsimp only
    rw [i0, p_ard (by omega) (by omega), Option.bind_some, hu.1.1, i1, nI_add]
    exact t_29 h hT hu a2 hr (t := blkN Z + 1) (by omega)
end
