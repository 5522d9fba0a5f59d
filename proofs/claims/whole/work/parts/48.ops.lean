-- ===== one call on both sides =====
def callG (fl : Option (Int32 × VC × (Nat → Int64))) (fm : Option (Int32 × VM)) (K : VA → Option Unit) : Option Unit :=
  fl.bind fun r => fm.bind fun q => (f_X6_thrown q.2).bind fun t =>
  if t = r.1 then (if r.1 = 0 then (if r.2.2 0 = q.1.toInt64 then K (r.2.1, (q.2, r.2.2)) else none) else K (r.2.1, (q.2, r.2.2))) else none
abbrev M2 : Type := (Nat → Int32) × (Nat → Int32) × (Nat → Int32) × Int32 × (Nat → Int32) × Int32 × (Nat → Int32) × Int32 × Int32 × Int32
theorem callG_ok {fl : Option (Int32 × VC × (Nat → Int64))} {fm : Option (Int32 × VM)} {c' : VC} {o : Nat → Int64} {x : Int32} {m2 : M2} (h1 : fl = some (0, c', vp_updL o 0 x.toInt64)) (h2 : fm = some (x, (0, m2))) (K : VA → Option Unit) : callG fl fm K = K (c', ((0, m2), vp_updL o 0 x.toInt64)) := by
  subst h1; subst h2
  unfold callG f_X6_thrown
  simp [vp_updL]
theorem callG_th {fl : Option (Int32 × VC × (Nat → Int64))} {fm : Option (Int32 × VM)} {c' : VC} {o : Nat → Int64} {x k : Int32} {m2 : M2} (h1 : fl = some (k, c', o)) (h2 : fm = some (x, (k, m2))) (hk : k ≠ 0) (K : VA → Option Unit) : callG fl fm K = K (c', ((k, m2), o)) := by
  subst h1; subst h2
  unfold callG f_X6_thrown
  simp [hk]
def Ok (T : Nat) (g : (VA → Option Unit) → Option Unit) : Prop := ∃ v', Iv T v' ∧ ∀ K, g K = K v'
/-- a call that throws changes nothing but the reference's 'thrown' -/
theorem Iv.thr {T T' : Nat} {c : VC} {t t' : Int32} {m2 : M2} {o o' : Nat → Int64} (h : Iv T (c, ((t, m2), o))) (hT : T ≤ T') : Iv T' (c, ((t', m2), o')) := by
  obtain ⟨Z, SZ, n, KZ, kp, tx, len, h1, h2⟩ := h
  refine ⟨Z, SZ, n, KZ, kp, tx, len, ?_, h2⟩
  obtain ⟨a1, a2, a3, a4, a5, a6, a7, a8, a9, a10, a11, a12⟩ := h1
  exact ⟨a1.mono hT, a2, a3, a4, a5, a6, a7, fun i hi => ⟨(a8 i hi).1.mono hT, (a8 i hi).2⟩, a9, a10, a11, fun q => ⟨(a12 q).1.mono hT, (a12 q).2⟩⟩
theorem slot_or (x : Int32) : (f_X5_isSlot x = some 0 ∧ f_X6_isSlot x = some 0) ∨ ∃ s, s < 4 ∧ x = nI s := by
  rcases pk_ix x (n := 4) (by omega) with h | h | ⟨j, h1, h2⟩
  · left
    constructor
    · unfold f_X5_isSlot; rw [if_pos h]
    · unfold f_X6_isSlot; rw [p_in_neg h (by decide)]; rfl
  · left
    have h0 : ¬ x < 0 := by
      have h2 : nI 4 ≤ x := h
      rw [Int32.le_iff_toInt_le, nI_toInt (by omega)] at h2
      rw [Int32.lt_iff_toInt_lt]
      show ¬ x.toInt < 0
      omega
    obtain ⟨j, hj, rfl⟩ := nI_of h0
    have h4 : 4 ≤ j := (nI_leI (by omega) hj).mp h
    constructor
    · unfold f_X5_isSlot
      rw [if_neg h0, i4, if_neg (nI_nlt h4 hj)]
    · unfold f_X6_isSlot
      rw [i0, i3, p_in hj (by omega) (by omega), Option.bind_some, bI_f (by omega)]; rfl
  · exact Or.inr ⟨j, h1, h2⟩
theorem m_isSlot {s : Nat} (hs : s < 4) : f_X6_isSlot (nI s) = some 1 := by
  rcases slot_cases hs with rfl | rfl | rfl | rfl <;> rfl
theorem w_or (x : Int32) {lo hi : Nat} (hl : lo < 2 ^ 30) (hh : hi < 2 ^ 30) : (f_X5_isWithin x (nI lo) (nI hi) = some 0 ∧ f_X6_in x (nI lo) (nI hi) = some 0) ∨ ∃ j, lo ≤ j ∧ j ≤ hi ∧ x = nI j ∧ f_X5_isWithin x (nI lo) (nI hi) = some 1 ∧ f_X6_in x (nI lo) (nI hi) = some 1 := by
  by_cases h : x < 0
  · left
    have := p_in_neg (lo := nI lo) (hi := nI hi) h (nI_pos (by omega))
    exact ⟨this, this⟩
  · obtain ⟨j, hj, rfl⟩ := nI_of h
    by_cases e : lo ≤ j ∧ j ≤ hi
    · right
      have := p_in hj (lo := lo) (hi := hi) (by omega) (by omega)
      rw [bI_T e] at this
      exact ⟨j, e.1, e.2, rfl, this, this⟩
    · left
      have := p_in hj (lo := lo) (hi := hi) (by omega) (by omega)
      rw [bI_f e] at this
      exact ⟨this, this⟩
-- plug
theorem mp_35 (m : VM) (a1 a2 a3 a4 : Int32) : ∃ b : Bool, f_X6_plug m a1 a2 a3 a4 = b_X6_plug_35 m a1 a2 a3 a4 (bI b) ∧ (b = true → ∃ j2 j3 j4, 1 ≤ j2 ∧ j2 ≤ 12 ∧ a2 = nI j2 ∧ 1 ≤ j3 ∧ j3 ≤ 2 ∧ a3 = nI j3 ∧ 1 ≤ j4 ∧ j4 ≤ 9 ∧ a4 = nI j4) ∧ (∀ c : VC, ∀ s, s < 4 → b = false → f_X5_plug c (nI s) a2 a3 a4 = some (.inl (2, c))) := by
  unfold f_X6_plug
  rcases w_or a2 (lo := 1) (hi := 12) (by omega) (by omega) with ⟨h2, g2⟩ | ⟨j2, p2, q2, e2, h2, g2⟩
  · refine ⟨false, ?_, fun q => (by cases q), fun c s hs _ => ?_⟩
    · rw [show f_X6_in a2 1 12 = some 0 from g2]; rfl
    · unfold f_X5_plug
      rw [p_slot hs, Option.bind_some, if_neg (by decide), show f_X5_isWithin a2 1 12 = some 0 from h2]; rfl
  rw [show f_X6_in a2 1 12 = some 1 from g2, Option.bind_some, if_neg (by decide)]
  rcases w_or a3 (lo := 1) (hi := 2) (by omega) (by omega) with ⟨h3, g3⟩ | ⟨j3, p3, q3, e3, h3, g3⟩
  · refine ⟨false, ?_, fun q => (by cases q), fun c s hs _ => ?_⟩
    · rw [show f_X6_in a3 1 2 = some 0 from g3]; rfl
    · unfold f_X5_plug
      rw [p_slot hs, Option.bind_some, if_neg (by decide), show f_X5_isWithin a2 1 12 = some 1 from h2, Option.bind_some, if_neg (by decide), show f_X5_isWithin a3 1 2 = some 0 from h3]; rfl
  rw [show f_X6_in a3 1 2 = some 1 from g3, Option.bind_some, if_neg (by decide)]
  rcases w_or a4 (lo := 1) (hi := 9) (by omega) (by omega) with ⟨h4, g4⟩ | ⟨j4, p4, q4, e4, h4, g4⟩
  · refine ⟨false, ?_, fun q => (by cases q), fun c s hs _ => ?_⟩
    · rw [show f_X6_in a4 1 9 = some 0 from g4]; rfl
    · unfold f_X5_plug
      rw [p_slot hs, Option.bind_some, if_neg (by decide), show f_X5_isWithin a2 1 12 = some 1 from h2, Option.bind_some, if_neg (by decide), show f_X5_isWithin a3 1 2 = some 1 from h3, Option.bind_some, if_neg (by decide), show f_X5_isWithin a4 1 9 = some 0 from h4]; rfl
  rw [show f_X6_in a4 1 9 = some 1 from g4, Option.bind_some, if_neg (by decide)]
  exact ⟨true, rfl, fun _ => ⟨j2, j3, j4, p2, q2, e2, p3, q3, e3, p4, q4, e4⟩, fun _ _ _ q => (by cases q)⟩
