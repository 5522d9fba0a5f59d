-- ===== the text: blocks and parts =====
section
variable (tx : Nat → Nat) (len : Nat)
abbrev isD (p : Nat) : Prop := p < len ∧ 48 ≤ tx p ∧ tx p ≤ 57
abbrev lonP (p : Nat) : Prop := 48 < tx p ∧ isD tx len (p + 1) ∧ 10 * (tx p - 48) + (tx (p + 1) - 48) ≤ 47
def vaB (p : Nat) : Nat := if lonP tx len p then 10 * (tx p - 48) + (tx (p + 1) - 48) else tx p - 48
def enB (p : Nat) : Nat := if lonP tx len p then p + 2 else p + 1
abbrev dasP (p : Nat) : Prop := enB tx len p < len ∧ tx (enB tx len p) = 45
abbrev okP (p : Nat) : Prop := isD tx len p ∧ (dasP tx len p → isD tx len (enB tx len p + 1))
def enP (p : Nat) : Nat := if dasP tx len p then enB tx len (enB tx len p + 1) else enB tx len p
def toP (p : Nat) : Nat := if dasP tx len p then vaB tx len (enB tx len p + 1) else vaB tx len p
def erP (p : Nat) : Nat := if isD tx len p then enB tx len p + 1 else p
def ppN : Nat → Nat
  | 0 => 0
  | j + 1 => enP tx len (ppN j) + 1
def chP (j : Nat) : Prop := okP tx len (ppN tx len j) ∧ enP tx len (ppN tx len j) < len ∧ tx (enP tx len (ppN tx len j)) = 44
end
section
variable {tx : Nat → Nat} {len p k i n : Nat}
theorem enB_gt (tx : Nat → Nat) (len p : Nat) : p < enB tx len p ∧ enB tx len p ≤ p + 2 := by unfold enB; split <;> omega
theorem enB_le (h : isD tx len p) : enB tx len p ≤ len ∧ vaB tx len p ≤ 47 := by
  unfold enB vaB
  by_cases e : lonP tx len p
  · rw [if_pos e, if_pos e]
    have := e.2.1.1
    have := e.2.2
    omega
  · rw [if_neg e, if_neg e]
    have := h.1
    have := h.2
    omega
theorem enP_gt (tx : Nat → Nat) (len p : Nat) : p < enP tx len p := by
  have h1 := enB_gt tx len p
  have h2 := enB_gt tx len (enB tx len p + 1)
  unfold enP
  split <;> omega
theorem enP_le (h : okP tx len p) : enP tx len p ≤ len ∧ toP tx len p ≤ 47 := by
  unfold enP toP
  by_cases e : dasP tx len p
  · rw [if_pos e, if_pos e]; exact enB_le (h.2 e)
  · rw [if_neg e, if_neg e]; exact enB_le h.1
theorem ppN_ge (tx : Nat → Nat) (len : Nat) : ∀ j, 2 * j ≤ ppN tx len j
  | 0 => Nat.zero_le _
  | j + 1 => by
    have h1 := ppN_ge tx len j
    have h2 := enP_gt tx len (ppN tx len j)
    show 2 * (j + 1) ≤ enP tx len (ppN tx len j) + 1
    omega
theorem ppN_le (h : ∀ j, j < n → chP tx len j) : ppN tx len n ≤ len := by
  cases n with
  | zero => exact Nat.zero_le _
  | succ n => exact (h n (by omega)).2.1
theorem ch_or (tx : Nat → Nat) (len : Nat) : ∀ d, (∀ j, j < d → chP tx len j) ∨ ∃ n, n < d ∧ (∀ j, j < n → chP tx len j) ∧ ¬ chP tx len n
  | 0 => Or.inl (fun j hj => absurd hj (Nat.not_lt_zero j))
  | d + 1 => by
    rcases ch_or tx len d with h | ⟨n, h1, h2, h3⟩
    · by_cases e : chP tx len d
      · left
        intro j hj
        by_cases q : j = d
        · rw [q]; exact e
        · exact h j (by omega)
      · exact Or.inr ⟨d, by omega, h, e⟩
    · exact Or.inr ⟨n, by omega, h2, h3⟩
theorem ch_ex (h60 : len ≤ 60) : ∃ n, n < 31 ∧ (∀ j, j < n → chP tx len j) ∧ ¬ chP tx len n := by
  rcases ch_or tx len 31 with h | h
  · exfalso
    have h1 := (h 30 (by omega)).1.1.1
    have h2 := ppN_ge tx len 30
    omega
  · exact h
-- the reference
abbrev R4 : Type := (Nat → Int32) × Int32 × Int32 × Int32
def MT (m : VM) (r : R4) : VM := (m.1, m.2.1, m.2.2.1, m.2.2.2.1, m.2.2.2.2.1, m.2.2.2.2.2.1, m.2.2.2.2.2.2.1, r)
def RTx (r : R4) (tx : Nat → Nat) (len : Nat) : Prop := len ≤ 60 ∧ r.2.1 = nI len ∧ ∀ i, i < len → r.1 i = nI (tx i) ∧ 33 ≤ tx i ∧ tx i ≤ 126
theorem neg48 : ∀ a, a < 48 → nI a - nI 48 < 0 := by decide
theorem negm1 : ∀ a, a < 64 → (-1 : Int32) - nI a < 0 := by decide
theorem negmm : ∀ a, a < 64 → (-1 : Int32) - (-1 - nI a) = nI a := by decide
theorem m_tat {m : VM} {r : R4} (h : RTx r tx len) (hp : p < 100) : f_X6_at (MT m r) (nI p) = some (if p < len then nI (tx p) else nI 0) := by
  obtain ⟨h1, h2, h3⟩ := h
  unfold f_X6_at MT
  dsimp only
  rw [h2]
  simp (discharger := omega) only [nI_ltI]
  by_cases e : p < len
  · rw [if_pos e, if_pos e, p_ard (by omega) (by omega), Option.bind_some, (h3 p e).1]
  · rw [if_neg e, if_neg e]; rfl
theorem t_in {r : R4} (h : RTx r tx len) : f_X6_in ((if p < len then nI (tx p) else nI 0) - nI 48) (nI 0) (nI 9) = some (bI (decide (isD tx len p))) := by
  by_cases a : p < len
  · have ht := (h.2.2 p a).2
    rw [if_pos a]
    by_cases b : 48 ≤ tx p
    · rw [pk_sub (by omega), p_in (by omega) (by omega) (by omega)]
      by_cases d : tx p ≤ 57
      · rw [bI_T (c := isD tx len p) ⟨a, b, d⟩, bI_T (by omega)]
      · rw [bI_f (c := isD tx len p) (fun q => d q.2.2), bI_f (by omega)]
    · rw [p_in_neg (neg48 _ (by omega)) (by decide), bI_f (fun q => b q.2.1)]
  · rw [if_neg a, bI_f (fun q => a q.1)]; rfl
theorem m_tb {m : VM} {r : R4} (h : RTx r tx len) (hp : p < 64) : f_X6_takeBlock (MT m r) (nI p) = if isD tx len p then some (nI (enB tx len p), MT m (r.1, r.2.1, r.2.2.1, nI (vaB tx len p))) else some (-1 - nI p, MT m r) := by
  unfold f_X6_takeBlock
  rw [m_tat h (by omega), Option.bind_some, i48, i0, i9, t_in h, Option.bind_some]
  by_cases hd : isD tx len p
  · rw [if_neg (bI_tn hd), if_pos hd, i1, nI_add, m_tat h (by omega), Option.bind_some, if_pos hd.1, pk_sub (by omega)]
    have htl := h.1
    unfold enB vaB
    by_cases q : 48 < tx p
    · rw [if_pos (nI_lt (by omega) (by omega)), t_in h, Option.bind_some]
      by_cases q1 : isD tx len (p + 1)
      · have h1 := q1.2
        rw [if_neg (bI_tn q1), if_pos q1.1, pk_sub (by omega), show (10 : Int32) = nI 10 from rfl, show (47 : Int32) = nI 47 from rfl, pk_mul, nI_add]
        simp (discharger := omega) only [nI_ltI]
        unfold b_X6_takeBlock_64 b_X6_takeBlock_82
        by_cases q2 : 10 * (tx p - 48) + (tx (p + 1) - 48) ≤ 47
        · rw [if_neg (by omega), if_neg (by decide), if_neg (by decide), if_pos ⟨q, q1, q2⟩, if_pos ⟨q, q1, q2⟩, i2, nI_add, show (10 : Int32) = nI 10 from rfl, pk_mul, nI_add]; rfl
        · rw [if_pos (by omega), if_pos (by decide), if_pos (by decide), if_neg (fun z => q2 z.2.2), if_neg (fun z => q2 z.2.2), i1, nI_add]; rfl
      · rw [if_pos (bI_fn q1)]
        unfold b_X6_takeBlock_64 b_X6_takeBlock_82
        rw [if_pos (by decide), if_pos (by decide), i1, nI_add, if_neg (fun z => q1 z.2.1), if_neg (fun z => q1 z.2.1)]; rfl
    · rw [if_neg (nI_nlt (by omega) (by omega))]
      unfold b_X6_takeBlock_64 b_X6_takeBlock_82
      rw [if_pos (by decide), if_pos (by decide), i1, nI_add, if_neg (fun z => q z.1), if_neg (fun z => q z.1)]; rfl
  · rw [if_pos (bI_fn hd), if_neg hd]
theorem RTx.to {r r' : R4} (h : RTx r tx len) (h1 : r'.1 = r.1) (h2 : r'.2.1 = r.2.1) : RTx r' tx len := by
  obtain ⟨a, b, d⟩ := h
  exact ⟨a, by rw [h2]; exact b, by rw [h1]; exact d⟩
theorem m_part {m : VM} {r : R4} (h : RTx r tx len) (hp : p < 62) : (okP tx len p → f_X6_takePart (MT m r) (nI p) = some (nI (enP tx len p), MT m (r.1, r.2.1, nI (vaB tx len p), nI (toP tx len p)))) ∧ (¬ okP tx len p → ∃ r' : R4, r'.1 = r.1 ∧ r'.2.1 = r.2.1 ∧ f_X6_takePart (MT m r) (nI p) = some (-1 - nI (erP tx len p), MT m r')) := by
  have h60 := h.1
  have hg := enB_gt tx len p
  unfold f_X6_takePart
  rw [m_tb h (by omega)]
  by_cases hd : isD tx len p
  · have hle := enB_le hd
    rw [if_pos hd, Option.bind_some]
    dsimp only
    rw [if_neg (nI_pos (by omega))]
    have hat := m_tat (m := m) (r := (r.1, r.2.1, nI (vaB tx len p), nI (vaB tx len p))) (h.to rfl rfl) (p := enB tx len p) (by omega)
    unfold MT at hat ⊢
    dsimp only at hat ⊢
    rw [hat, Option.bind_some]
    by_cases q : dasP tx len p
    · rw [if_pos q.1, q.2, if_pos (by decide), i1, nI_add]
      have htb := m_tb (m := m) (r := (r.1, r.2.1, nI (vaB tx len p), nI (vaB tx len p))) (h.to rfl rfl) (p := enB tx len p + 1) (by omega)
      unfold MT at htb
      dsimp only at htb
      rw [htb]
      by_cases hd2 : isD tx len (enB tx len p + 1)
      · refine ⟨fun _ => ?_, fun z => absurd ⟨hd, fun _ => hd2⟩ z⟩
        rw [if_pos hd2]
        unfold enP toP
        rw [if_pos q, if_pos q]; rfl
      · refine ⟨fun z => absurd (z.2 q) hd2, fun _ => ⟨(r.1, r.2.1, nI (vaB tx len p), nI (vaB tx len p)), rfl, rfl, ?_⟩⟩
        rw [if_neg hd2]
        unfold erP
        rw [if_pos hd]; rfl
    · have hne : ¬ (if enB tx len p < len then nI (tx (enB tx len p)) else nI 0) = 45 := by
        by_cases a : enB tx len p < len
        · rw [if_pos a]
          have := (h.2.2 _ a).2
          intro z
          exact q ⟨a, (nI_eq (by omega) (by omega)).mp (z.trans (show (45 : Int32) = nI 45 from rfl))⟩
        · rw [if_neg a]; decide
      rw [if_neg hne]
      refine ⟨fun _ => ?_, fun z => absurd ⟨hd, fun z => absurd z q⟩ z⟩
      unfold enP toP
      rw [if_neg q, if_neg q]
  · rw [if_neg hd, Option.bind_some]
    dsimp only
    rw [if_pos (negm1 p (by omega))]
    refine ⟨fun z => absurd z.1 hd, fun _ => ⟨(r.1, r.2.1, r.2.2.2, r.2.2.2), rfl, rfl, ?_⟩⟩
    unfold erP
    rw [if_neg hd]; rfl
theorem m_chain {m : VM} : ∀ (n : Nat) (r : R4), RTx r tx len → (∀ j, j < n → chP tx len j) → ∃ r' : R4, r'.1 = r.1 ∧ r'.2.1 = r.2.1 ∧ ∀ f, l_X6_findError_2 (f + n) (MT m r) (nI 0) = l_X6_findError_2 f (MT m r') (nI (ppN tx len n)) := by
  intro n
  induction n with
  | zero => intro r _ _; exact ⟨r, rfl, rfl, fun f => rfl⟩
  | succ n ih =>
    intro r h hc
    obtain ⟨r', h1, h2, h3⟩ := ih r h (fun j hj => hc j (by omega))
    obtain ⟨c1, c2, c3⟩ := hc n (by omega)
    have hle := enP_le c1
    have h60 := h.1
    have hr' := h.to h1 h2
    have hp := (m_part (m := m) hr' (p := ppN tx len n) (by have := c1.1.1; omega)).1 c1
    refine ⟨(r'.1, r'.2.1, nI (vaB tx len (ppN tx len n)), nI (toP tx len (ppN tx len n))), h1, h2, fun f => ?_⟩
    rw [show f + (n + 1) = (f + 1) + n by omega, h3, l_X6_findError_2, hp, Option.bind_some]
    dsimp only
    rw [if_neg (nI_pos (by omega))]
    have hl : (MT m (r'.1, r'.2.1, nI (vaB tx len (ppN tx len n)), nI (toP tx len (ppN tx len n)))).2.2.2.2.2.2.2.2.1 = nI len := hr'.2.1
    rw [hl, if_neg (fun q => by have := (nI_eq (by omega) (by omega)).mp q; omega)]
    have ht : (MT m (r'.1, r'.2.1, nI (vaB tx len (ppN tx len n)), nI (toP tx len (ppN tx len n)))).2.2.2.2.2.2.2.1 = r'.1 := rfl
    rw [ht, p_ard (by omega) (by omega), Option.bind_some, (hr'.2.2 _ c2).1, c3, if_pos (by decide), i1, nI_add]; rfl
theorem m_find {m : VM} {r : R4} (h : RTx r tx len) (hn : n < 31) (hc : ∀ j, j < n → chP tx len j) (hx : ¬ chP tx len n) : ∃ r' : R4, r'.1 = r.1 ∧ r'.2.1 = r.2.1 ∧ f_X6_findError (MT m r) = some (if okP tx len (ppN tx len n) then (if enP tx len (ppN tx len n) = len then -1 else nI (enP tx len (ppN tx len n))) else nI (erP tx len (ppN tx len n)), MT m r') := by
  obtain ⟨r', h1, h2, h3⟩ := m_chain (m := m) n r h hc
  have hr' := h.to h1 h2
  have h60 := h.1
  have hple := ppN_le hc
  have hf : f_X6_findError (MT m r) = l_X6_findError_2 (999 - n + 1) (MT m r') (nI (ppN tx len n)) := by
    rw [← h3, show 999 - n + 1 + n = FU from by have : FU = 1000 := rfl; omega]; rfl
  rw [hf, l_X6_findError_2]
  have hp := m_part (m := m) hr' (p := ppN tx len n) (by omega)
  by_cases e : okP tx len (ppN tx len n)
  · have hle := enP_le e
    rw [hp.1 e, Option.bind_some, if_pos e]
    dsimp only
    rw [if_neg (nI_pos (by omega))]
    have hl : (MT m (r'.1, r'.2.1, nI (vaB tx len (ppN tx len n)), nI (toP tx len (ppN tx len n)))).2.2.2.2.2.2.2.2.1 = nI len := hr'.2.1
    have ht : (MT m (r'.1, r'.2.1, nI (vaB tx len (ppN tx len n)), nI (toP tx len (ppN tx len n)))).2.2.2.2.2.2.2.1 = r'.1 := rfl
    rw [hl, ht]
    by_cases e2 : enP tx len (ppN tx len n) = len
    · rw [if_pos (by rw [e2]), if_pos e2]
      exact ⟨(r'.1, r'.2.1, nI (vaB tx len (ppN tx len n)), nI (toP tx len (ppN tx len n))), h1, h2, rfl⟩
    · have hlt : enP tx len (ppN tx len n) < len := by omega
      have hb := (hr'.2.2 _ hlt).2
      rw [if_neg (fun q => e2 ((nI_eq (by omega) (by omega)).mp q)), if_neg e2, p_ard (by omega) (by omega), Option.bind_some, (hr'.2.2 _ hlt).1, if_neg (fun q => hx ⟨e, hlt, (nI_eq (show tx (enP tx len (ppN tx len n)) < 2 ^ 31 by omega) (show 44 < 2 ^ 31 by omega)).mp (q.trans (show (44 : Int32) = nI 44 from rfl))⟩)]
      exact ⟨(r'.1, r'.2.1, nI (vaB tx len (ppN tx len n)), nI (toP tx len (ppN tx len n))), h1, h2, rfl⟩
  · obtain ⟨r2, g1, g2, g3⟩ := hp.2 e
    have he : erP tx len (ppN tx len n) < 64 := by
      have := enB_gt tx len (ppN tx len n)
      unfold erP
      split <;> omega
    rw [g3, Option.bind_some, if_neg e]
    dsimp only
    rw [if_pos (negm1 _ he), negmm _ he]
    exact ⟨r2, g1.trans h1, g2.trans h2, rfl⟩
end
