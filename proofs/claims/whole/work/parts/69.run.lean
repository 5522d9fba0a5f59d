-- ===== run =====
abbrev prP (Z : Nat → Nat) (b last : Nat) : Prop := Z 47 = 1 ∧ b < wideN Z ∧ b % 2 = 0 ∧ b < last ∧ b + 1 < blkN Z ∧ canN Z (b + 1)
section
variable {T : Nat} {Z : Nat → Nat} {st : VSt} {m : VM} {b last : Nat}
theorem s_pair (W : WF T Z) (h : RS st Z) (hb : b < 2 ^ 30) (hl : last < 2 ^ 30) : f_X2_readsPair st (nI b) (nI last) = some (bI (decide (prP Z b last))) := by
  have hbl := W.blk
  have h47 : Z 47 ≤ 1 := W.2.2.2.2.2.2.2.2.2.1
  have hbp : f_X1_beginsPair st.2.1 (nI b) = some (bI (decide (b < wideN Z ∧ b % 2 = 0))) := by
    unfold f_X1_beginsPair f_X1_isWide
    rw [h.2.1.2.2.2.2.2.2, i1, i0, e_and (by omega)]
    simp (discharger := omega) only [nI_ltI]
    by_cases e : b < wideN Z
    · rw [if_pos e, Option.bind_some, if_neg (by decide)]
      simp (discharger := omega) only [nI_eq]
      by_cases e2 : b % 2 = 0
      · rw [if_pos e2, bI_T ⟨e, e2⟩]; rfl
      · rw [if_neg e2, bI_f (fun q => e2 q.2)]; rfl
    · rw [if_neg e, Option.bind_some, if_pos rfl, bI_f (fun q => e q.1)]; rfl
  unfold f_X2_readsPair
  rw [h.2.2.2.2.2.1, hbp, Option.bind_some, i1, nI_add, s_can W h (by omega), Option.bind_some]
  simp (discharger := omega) only [nI_eq, nI_ltI]
  by_cases a : Z 47 = 1
  · rw [if_pos a]
    by_cases e : b < wideN Z ∧ b % 2 = 0
    · rw [if_neg (bI_t e)]
      by_cases e2 : b < last
      · rw [if_pos e2]
        by_cases e3 : b + 1 < blkN Z ∧ canN Z (b + 1)
        · rw [if_neg (bI_t e3), bI_T ⟨a, e.1, e.2, e2, e3.1, e3.2⟩]; rfl
        · rw [if_pos (bI_f e3), bI_f (fun q => e3 ⟨q.2.2.2.2.1, q.2.2.2.2.2⟩)]
      · rw [if_neg e2, bI_f (fun q => e2 q.2.2.2.1)]
    · rw [if_pos (bI_f e), bI_f (fun q => e ⟨q.2.1, q.2.2.1⟩)]
  · rw [if_neg a, bI_f (fun q => a q.1)]
theorem m_canR (W : WF T Z) (h : RZ m.2.1 Z) (hb : b < 2 ^ 31) : f_X6_canRead m (nI b) = some (bI (decide (b < blkN Z ∧ canN Z b))) := by
  unfold f_X6_canRead
  rw [m_isBlk W h (by omega), Option.bind_some]
  by_cases e : b < blkN Z
  · rw [if_neg (bI_t e), m_can W h e, Option.bind_some]
    by_cases e2 : canN Z b
    · rw [if_neg (bI_t e2), bI_T ⟨e, e2⟩]
    · rw [if_pos (bI_f e2), bI_f (fun q => e2 q.2)]
  · rw [if_pos (bI_f e), bI_f (fun q => e q.1)]
theorem m_pairS (W : WF T Z) (h : RZ m.2.1 Z) (hb : b < 2 ^ 30) (hl : last < 2 ^ 30) (hbl : b ≤ last) {n : Nat} {s1 s3 : Int32} {K : VM → Int32 → Int32 → Int32 → Option (Int32 × VM)} : l_X6_run_72 K (n + 1) m s1 1 s3 (nI b) (nI last) = b_X6_run_142 K (l_X6_run_72 K n) m s1 s3 (nI b) (nI last) (if (b < blkN Z ∧ canN Z b) ∧ prP Z b last then 1 else 0) := by
  have hbk := W.blk
  have h47 : Z 47 ≤ 1 := W.2.2.2.2.2.2.2.2.2.1
  rw [l_X6_run_72, if_neg (by decide), if_neg (nI_nlt (by omega) (by omega)), show (47 : Int32) = nI 47 from rfl, m_at h (by omega) (by omega), Option.bind_some, i2, e_mod (by omega), m_wide W h, Option.bind_some, m_canR W h (by omega), Option.bind_some, i1, nI_add, m_canR (b := b + 1) W h (by omega), Option.bind_some, i0]
  simp (discharger := omega) only [nI_eq, nI_ltI]
  by_cases a : Z 47 = 1
  · rw [if_pos a]
    by_cases e1 : b % 2 = 0
    · rw [if_pos e1]
      by_cases e2 : b < wideN Z
      · rw [if_pos e2]
        by_cases e3 : b < last
        · rw [if_pos e3]
          by_cases e4 : b < blkN Z ∧ canN Z b
          · rw [if_neg (bI_tn e4)]
            by_cases e5 : b + 1 < blkN Z ∧ canN Z (b + 1)
            · rw [if_neg (bI_tn e5), if_pos ⟨e4, a, e2, e1, e3, e5.1, e5.2⟩]
            · rw [if_pos (bI_fn e5), if_neg (fun q => e5 ⟨q.2.2.2.2.2.1, q.2.2.2.2.2.2⟩)]
          · rw [if_pos (bI_fn e4), if_neg (fun q => e4 q.1)]
        · rw [if_neg e3, if_neg (fun q => e3 q.2.2.2.2.1)]
      · rw [if_neg e2, if_neg (fun q => e2 q.2.2.1)]
    · rw [if_neg e1, if_neg (fun q => e1 q.2.2.2.1)]
  · rw [if_neg a, if_neg (fun q => a q.2.1)]
end
abbrev M1 : Type := (Nat → Int32) × (Nat → Int32) × Int32 × (Nat → Int32) × Int32 × (Nat → Int32) × Int32 × Int32 × Int32
/-- one part is read on both sides -/
theorem rd_in (u1 : VTx) (t : Int32) (R : M1) (last : Nat) (hl : last < 48) : ∀ (d b sum T n1 n2 : Nat) (st : VSt) (z : Nat → Int32) (Z : Nat → Nat), b + d = last + 1 → RS st Z → RZ z Z → WF T Z → T + 12 * d + 100 < 2 ^ 24 → d < n1 → d + 1 < n2 →
    ∃ (st' : VSt) (z' : Nat → Int32) (Z' : Nat → Nat) (sum' : Nat), RS st' Z' ∧ RZ z' Z' ∧ WF (T + 12 * d) Z' ∧
      (((∀ s3 K, l_X2_readAll_29 u1 K n1 st (nI sum) s3 (nI last) (nI b) = K st' (nI sum') (s3 + 1)) ∧ (∀ s3 K, l_X6_run_72 K n2 (t, z, R) (nI sum) 1 s3 (nI b) (nI last) = K (t, z', R) (nI sum') 1 (s3 + 1))) ∨
       ((∀ s3 K, l_X2_readAll_29 u1 K n1 st (nI sum) s3 (nI last) (nI b) = some (nI sum', st')) ∧ (∀ s3 K, l_X6_run_72 K n2 (t, z, R) (nI sum) 1 s3 (nI b) (nI last) = K (t, z', R) (nI sum') 0 (s3 + 1)))) := by
  intro d
  induction d using Nat.strongRecOn with
  | ind d ih =>
    intro b sum T n1 n2 st z Z hd hR hZ W hT h1 h2
    obtain ⟨n1, rfl⟩ := Nat.exists_eq_succ_of_ne_zero (show n1 ≠ 0 by omega)
    obtain ⟨n2, rfl⟩ := Nat.exists_eq_succ_of_ne_zero (show n2 ≠ 0 by omega)
    by_cases e0 : d = 0
    · subst e0
      refine ⟨st, z, Z, sum, hR, hZ, W, Or.inl ⟨fun s3 K => ?_, fun s3 K => ?_⟩⟩
      · rw [l_X2_readAll_29, if_pos (nI_lt (by omega) (by omega))]
      · rw [l_X6_run_72, if_neg (by decide), if_pos (nI_lt (by omega) (by omega))]
    · have hcs := s_can W hR (b := b) (by omega)
      have hpr := s_pair W hR (b := b) (last := last) (by omega) (by omega)
      have hcl : ∀ s3 K, l_X2_readAll_29 u1 K (n1 + 1) st (nI sum) s3 (nI last) (nI b) = if bI (decide (b < blkN Z ∧ canN Z b)) = 0 then some (nI sum, st) else if bI (decide (prP Z b last)) = 0 then (f_X2_readOne st (nI b)).bind fun x75 => b_X2_readAll_78 u1 K (l_X2_readAll_29 u1 K n1) x75.2 s3 (nI last) (nI b) (bI (decide (prP Z b last))) x75.1 (nI sum) else (f_X2_readTwo st (nI b)).bind fun x66 => b_X2_readAll_78 u1 K (l_X2_readAll_29 u1 K n1) x66.2 s3 (nI last) (nI b) (bI (decide (prP Z b last))) x66.1 (nI sum) := fun s3 K => by
        rw [l_X2_readAll_29, if_neg (nI_nlt (by omega) (by omega)), hcs, Option.bind_some, hpr, Option.bind_some]
      have hml : ∀ s3 (K : VM → Int32 → Int32 → Int32 → Option (Int32 × VM)), l_X6_run_72 K (n2 + 1) (t, z, R) (nI sum) 1 s3 (nI b) (nI last) = _ := fun s3 K => m_pairS (m := (t, z, R)) W hZ (b := b) (last := last) (by omega) (by omega) (by omega)
      have hcr := m_canR (m := (t, z, R)) W hZ (b := b) (by omega)
      by_cases e : b < blkN Z ∧ canN Z b
      · by_cases e2 : prP Z b last
        · obtain ⟨st1, a1, a2⟩ := s_two W (by omega) hR e2.2.2.2.2.1 e.2 e2.2.2.2.2.2
          obtain ⟨z1, a3, a4⟩ := m_two (m := (t, z, R)) W (by omega) hZ e2.2.2.2.2.1 e.2 e2.2.2.2.2.2
          have W1 := WF_two W b
          have hb2 := e2.2.2.2.1
          obtain ⟨st', z', Z', sum', k1, k2, k3, k4⟩ := ih (d - 2) (by omega) (b + 2) (sum + (Z (48 + 12 * slotN Z b + numN Z b) + Z (48 + 12 * slotN Z (b + 1) + numN Z (b + 1)))) (T + 24) n1 n2 st1 z1 _ (by omega) a2 a4 W1 (by omega) (by omega) (by omega)
          have c1 : ∀ s3 K, l_X2_readAll_29 u1 K (n1 + 1) st (nI sum) s3 (nI last) (nI b) = l_X2_readAll_29 u1 K n1 st1 (nI (sum + (Z (48 + 12 * slotN Z b + numN Z b) + Z (48 + 12 * slotN Z (b + 1) + numN Z (b + 1))))) s3 (nI last) (nI (b + 2)) := fun s3 K => by
            rw [hcl, if_neg (bI_t e), if_neg (bI_t e2), a1, Option.bind_some]
            unfold b_X2_readAll_78
            rw [if_neg (bI_t e2), i2, nI_add, nI_add]
          have c2 : ∀ s3 K, l_X6_run_72 K (n2 + 1) (t, z, R) (nI sum) 1 s3 (nI b) (nI last) = l_X6_run_72 K n2 (t, z1, R) (nI (sum + (Z (48 + 12 * slotN Z b + numN Z b) + Z (48 + 12 * slotN Z (b + 1) + numN Z (b + 1))))) 1 s3 (nI (b + 2)) (nI last) := fun s3 K => by
            rw [hml, if_pos ⟨e, e2⟩]
            unfold b_X6_run_142
            rw [hcr, Option.bind_some, if_neg (by decide), a3, Option.bind_some, bI_T e, i2, nI_add, nI_add]
          refine ⟨st', z', Z', sum', k1, k2, by rw [show T + 12 * d = T + 24 + 12 * (d - 2) by omega]; exact k3, ?_⟩
          rcases k4 with ⟨q1, q2⟩ | ⟨q1, q2⟩
          · exact Or.inl ⟨fun s3 K => by rw [c1, q1], fun s3 K => by rw [c2, q2]⟩
          · exact Or.inr ⟨fun s3 K => by rw [c1, q1], fun s3 K => by rw [c2, q2]⟩
        · obtain ⟨st1, a1, a2⟩ := s_one W (by omega) hR e.1 e.2
          obtain ⟨z1, a3, a4⟩ := m_one (m := (t, z, R)) W (by omega) hZ e.1 e.2
          have W1 := WF_one W b
          obtain ⟨st', z', Z', sum', k1, k2, k3, k4⟩ := ih (d - 1) (by omega) (b + 1) (sum + Z (48 + 12 * slotN Z b + numN Z b)) (T + 12) n1 n2 st1 z1 _ (by omega) a2 a4 W1 (by omega) (by omega) (by omega)
          have c1 : ∀ s3 K, l_X2_readAll_29 u1 K (n1 + 1) st (nI sum) s3 (nI last) (nI b) = l_X2_readAll_29 u1 K n1 st1 (nI (sum + Z (48 + 12 * slotN Z b + numN Z b))) s3 (nI last) (nI (b + 1)) := fun s3 K => by
            rw [hcl, if_neg (bI_t e), if_pos (bI_f e2), a1, Option.bind_some]
            unfold b_X2_readAll_78
            rw [if_pos (bI_f e2), i1, nI_add, nI_add]
          have c2 : ∀ s3 K, l_X6_run_72 K (n2 + 1) (t, z, R) (nI sum) 1 s3 (nI b) (nI last) = l_X6_run_72 K n2 (t, z1, R) (nI (sum + Z (48 + 12 * slotN Z b + numN Z b))) 1 s3 (nI (b + 1)) (nI last) := fun s3 K => by
            rw [hml, if_neg (fun q => e2 q.2)]
            unfold b_X6_run_142
            rw [hcr, Option.bind_some, if_pos rfl, if_neg (bI_t e), a3, Option.bind_some, bI_T e, i1, nI_add, nI_add]
          refine ⟨st', z', Z', sum', k1, k2, by rw [show T + 12 * d = T + 12 + 12 * (d - 1) by omega]; exact k3, ?_⟩
          rcases k4 with ⟨q1, q2⟩ | ⟨q1, q2⟩
          · exact Or.inl ⟨fun s3 K => by rw [c1, q1], fun s3 K => by rw [c2, q2]⟩
          · exact Or.inr ⟨fun s3 K => by rw [c1, q1], fun s3 K => by rw [c2, q2]⟩
      · refine ⟨st, z, Z, sum, hR, hZ, W.mono (by omega), Or.inr ⟨fun s3 K => ?_, fun s3 K => ?_⟩⟩
        · rw [hcl, if_pos (bI_f e)]
        · obtain ⟨n2, rfl⟩ := Nat.exists_eq_succ_of_ne_zero (show n2 ≠ 0 by omega)
          rw [hml, if_neg (fun q => e q.1)]
          unfold b_X6_run_142
          rw [hcr, Option.bind_some, if_pos rfl, if_pos (bI_f e), bI_f e, l_X6_run_72, if_pos rfl]
section
variable {tx : Nat → Nat} {len n : Nat} {cd F L : Nat → Int32} {nl w x : Int32}
/-- all parts are read on both sides -/
theorem rd_out (h : gdP tx len n) (hF : ∀ j, j ≤ n → F j = nI (vaB tx len (ppN tx len j)) ∧ L j = nI (toP tx len (ppN tx len j))) (t : Int32) (a sv kt : Nat → Int32) (sn ik : Int32) : ∀ (d j sum T f1 f2 : Nat) (st : VSt) (z : Nat → Int32) (Z : Nat → Nat) (r : R4), j + d = n + 1 → RTx r tx len → RS st Z → RZ z Z → WF T Z → T + 588 * d + 100 < 2 ^ 24 → d < f1 → d < f2 →
    ∃ (st' : VSt) (z' : Nat → Int32) (Z' : Nat → Nat) (sum' : Nat) (r' : R4), RS st' Z' ∧ RZ z' Z' ∧ WF (T + 588 * d) Z' ∧ r'.2.1 = 0 ∧
      l_X2_readAll_4 (cd, nl, F, L, nI n, w, x) f1 st (nI sum) (nI j) = some (nI sum', st') ∧ l_X6_run_42 f2 (t, z, a, sv, sn, kt, ik, r) (nI sum) 1 (nI (ppN tx len j)) = some (nI sum', (t, z', a, sv, sn, kt, ik, r')) := by
  have hn := h.1
  intro d
  induction d with
  | zero =>
    intro j sum T f1 f2 st z Z r hj hr hR hZ W hT h1 h2
    obtain ⟨f1, rfl⟩ := Nat.exists_eq_succ_of_ne_zero (show f1 ≠ 0 by omega)
    obtain ⟨f2, rfl⟩ := Nat.exists_eq_succ_of_ne_zero (show f2 ≠ 0 by omega)
    have h60 := hr.1
    refine ⟨st, z, Z, sum, (r.1, 0, r.2.2), hR, hZ, W, rfl, ?_, ?_⟩
    · rw [l_X2_readAll_4]
      dsimp only
      rw [if_pos (nI_lt (by omega) (by omega))]
    · rw [l_X6_run_42]
      dsimp only
      rw [hr.2.1, show j = n + 1 by omega, gd_pp h, if_neg (nI_nlt (by omega) (by omega))]
  | succ d ih =>
    intro j sum T f1 f2 st z Z r hj hr hR hZ W hT h1 h2
    obtain ⟨f1, rfl⟩ := Nat.exists_eq_succ_of_ne_zero (show f1 ≠ 0 by omega)
    obtain ⟨f2, rfl⟩ := Nat.exists_eq_succ_of_ne_zero (show f2 ≠ 0 by omega)
    have h60 := hr.1
    have ho := gd_ok h (j := j) (by omega)
    have hpl := ho.1.1
    have hto := (enP_le ho).2
    have hva := (enB_le ho.1).2
    have hfu : FU = 1000 := rfl
    have hcl : l_X2_readAll_4 (cd, nl, F, L, nI n, w, x) (f1 + 1) st (nI sum) (nI j) = l_X2_readAll_29 (cd, nl, F, L, nI n, w, x) (l_X2_readAll_4 (cd, nl, F, L, nI n, w, x) f1) FU st (nI sum) (nI j) (nI (toP tx len (ppN tx len j))) (nI (vaB tx len (ppN tx len j))) := by
      rw [l_X2_readAll_4]
      dsimp only
      rw [if_neg (nI_nlt (by omega) (by omega))]
      unfold f_X4_lastOf f_X4_firstOf
      dsimp only
      rw [p_entry (by omega) (by omega), p_entry (by omega) (by omega), Option.bind_some, Option.bind_some, Option.bind_some, Option.bind_some, (hF j (by omega)).1, (hF j (by omega)).2]
    have hm : l_X6_run_42 (f2 + 1) (t, z, a, sv, sn, kt, ik, r) (nI sum) 1 (nI (ppN tx len j)) = l_X6_run_72 (l_X6_run_42 f2) FU (t, z, a, sv, sn, kt, ik, (r.1, r.2.1, nI (vaB tx len (ppN tx len j)), nI (toP tx len (ppN tx len j)))) (nI sum) 1 (nI (enP tx len (ppN tx len j))) (nI (vaB tx len (ppN tx len j))) (nI (toP tx len (ppN tx len j))) := by
      rw [l_X6_run_42]
      dsimp only
      have hp := (m_part (m := (t, z, a, sv, sn, kt, ik, r)) hr (p := ppN tx len j) (by omega)).1 ho
      unfold MT at hp
      dsimp only at hp
      rw [if_pos (show nI (ppN tx len j) < r.2.1 by rw [hr.2.1]; exact nI_lt hpl (by omega)), if_neg (by decide), hp, Option.bind_some]
    rw [hcl, hm]
    by_cases e : vaB tx len (ppN tx len j) ≤ toP tx len (ppN tx len j)
    · obtain ⟨st1, z1, Z1, sum1, k1, k2, k3, k4⟩ := rd_in (cd, nl, F, L, nI n, w, x) t (a, sv, sn, kt, ik, (r.1, r.2.1, nI (vaB tx len (ppN tx len j)), nI (toP tx len (ppN tx len j)))) (toP tx len (ppN tx len j)) (by omega) (toP tx len (ppN tx len j) + 1 - vaB tx len (ppN tx len j)) (vaB tx len (ppN tx len j)) sum T FU FU st z Z (by omega) hR hZ W (by omega) (by omega) (by omega)
      rcases k4 with ⟨q1, q2⟩ | ⟨q1, q2⟩
      · obtain ⟨st', z', Z', sum', r', g1, g2, g3, g4, g5, g6⟩ := ih (j + 1) sum1 (T + 588) f1 f2 st1 z1 Z1 (r.1, r.2.1, nI (vaB tx len (ppN tx len j)), nI (toP tx len (ppN tx len j))) (by omega) (hr.to rfl rfl) k1 k2 (k3.mono (by omega)) (by omega) (by omega) (by omega)
        refine ⟨st', z', Z', sum', r', g1, g2, by rw [show T + 588 * (d + 1) = T + 588 + 588 * d by omega]; exact g3, g4, ?_, ?_⟩
        · rw [q1, i1, nI_add]; exact g5
        · rw [q2, i1, nI_add]; exact g6
      · obtain ⟨f2, rfl⟩ := Nat.exists_eq_succ_of_ne_zero (show f2 ≠ 0 by omega)
        refine ⟨st1, z1, Z1, sum1, (r.1, 0, nI (vaB tx len (ppN tx len j)), nI (toP tx len (ppN tx len j))), k1, k2, k3.mono (by omega), rfl, q1 _ _, ?_⟩
        rw [q2, l_X6_run_42]
        dsimp only
        split
        · rw [if_pos rfl]
        · rfl
    · obtain ⟨st', z', Z', sum', r', g1, g2, g3, g4, g5, g6⟩ := ih (j + 1) sum (T + 588) f1 f2 st z Z (r.1, r.2.1, nI (vaB tx len (ppN tx len j)), nI (toP tx len (ppN tx len j))) (by omega) (hr.to rfl rfl) hR hZ (W.mono (by omega)) (by omega) (by omega) (by omega)
      refine ⟨st', z', Z', sum', r', g1, g2, by rw [show T + 588 * (d + 1) = T + 588 + 588 * d by omega]; exact g3, g4, ?_, ?_⟩
      · rw [show FU = 999 + 1 from rfl, l_X2_readAll_29, if_pos (nI_lt (by omega) (by omega)), i1, nI_add]; exact g5
      · rw [show FU = 999 + 1 from rfl, l_X6_run_72, if_neg (by decide), if_pos (nI_lt (by omega) (by omega)), i1, nI_add]; exact g6
end
