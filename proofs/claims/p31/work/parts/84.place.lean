-- ===== which block lies where, both ways =====
section
variable {T : Nat} {Z : Nat → Nat} {b s n : Nat}
theorem sl_ix (W : WF T Z) (hs : s < 4) (hn : n < Z (36 + s)) : slN Z (s / 2) (ixS Z s n) = s ∧ nuN Z (s / 2) (ixS Z s n) = n := by
  unfold slN nuN ixS
  rcases slot_cases hs with rfl | rfl | rfl | rfl <;> simp only [Nat.reduceAdd, Nat.reduceDiv, Nat.reduceMul, Nat.reduceEqDiff, if_true, if_false, Nat.zero_div, Nat.mul_zero, Nat.add_zero] at hn ⊢
  · rw [if_pos (by omega), if_pos (by omega)]; exact ⟨rfl, rfl⟩
  · rw [if_neg (by omega), if_neg (by omega)]; exact ⟨rfl, by omega⟩
  · rw [if_pos (by omega), if_pos (by omega)]; exact ⟨rfl, rfl⟩
  · rw [if_neg (by omega), if_neg (by omega)]; exact ⟨rfl, by omega⟩
theorem ixS_rm (hs : s < 4) (hn : n < Z (36 + s)) : (s < 2 → ixS Z s n < roomA Z) ∧ (2 ≤ s → ixS Z s n < roomB Z) := by
  unfold ixS roomA roomB
  rcases slot_cases hs with rfl | rfl | rfl | rfl <;> simp only [Nat.reduceAdd, Nat.reduceEqDiff, if_true, if_false] at hn ⊢ <;> omega
theorem bk_to (W : WF T Z) (hs : s < 4) (hn : n < Z (36 + s)) (h3 : Z 40 = 3 → ixS Z s n < lesN Z) : bkN Z s n < blkN Z ∧ ((slotN Z (bkN Z s n) = s ∧ numN Z (bkN Z s n) = n) ∨ (Z 40 = 3 ∧ slN Z 1 (bkN Z s n) = s ∧ nuN Z 1 (bkN Z s n) = n)) := by
  have h0 := W.none hs hn
  have hl := lesN_le Z
  obtain ⟨x1, x2⟩ := ixS_rm hs hn
  obtain ⟨e1, e2⟩ := sl_ix W hs hn
  generalize hx : ixS Z s n = x at *
  by_cases k3 : Z 40 = 3
  · have hb : bkN Z s n = x := by unfold bkN; rw [if_pos k3, hx]
    have hc : chN Z x = 0 := by unfold chN; rw [if_pos k3]
    have hi : ixN Z x = x := by unfold ixN; rw [if_pos k3]
    rw [hb]
    refine ⟨by unfold blkN; rw [if_neg h0, if_pos k3]; exact h3 k3, ?_⟩
    by_cases e : s < 2
    · left
      unfold slotN numN
      rw [hc, hi, show (0 : Nat) = s / 2 by omega]
      exact ⟨e1, e2⟩
    · right
      refine ⟨k3, ?_⟩
      rw [show (1 : Nat) = s / 2 by omega]
      exact ⟨e1, e2⟩
  · have hch : chN Z (bkN Z s n) = s / 2 ∧ ixN Z (bkN Z s n) = x ∧ bkN Z s n < blkN Z := by
      unfold bkN blkN
      rw [if_neg k3, if_neg h0, if_neg k3, hx]
      by_cases k2 : Z 40 = 2
      · rw [if_pos k2]
        by_cases e : s < 2
        · have := x1 e
          rw [if_pos e]
          unfold chN ixN
          rw [if_neg k3, if_neg k3, if_pos k2, if_pos k2, if_pos this, if_pos this]
          omega
        · have := x2 (by omega)
          rw [if_neg e]
          unfold chN ixN
          rw [if_neg k3, if_neg k3, if_pos k2, if_pos k2, if_neg (by omega), if_neg (by omega)]
          omega
      · rw [if_neg k2]
        have hw : wideN Z = 2 * lesN Z := by unfold wideN; rw [if_pos (by have := W.2.1; omega)]
        by_cases e : x < lesN Z
        · rw [if_pos e]
          unfold chN ixN
          rw [if_neg k3, if_neg k3, if_neg k2, if_neg k2, if_pos (by omega), if_pos (by omega)]
          omega
        · rw [if_neg e]
          unfold chN ixN
          rw [if_neg k3, if_neg k3, if_neg k2, if_neg k2, if_neg (show ¬ x + lesN Z < wideN Z by omega), if_neg (show ¬ x + lesN Z < wideN Z by omega)]
          by_cases e2 : s < 2
          · have := x1 e2
            rw [if_pos (by omega)]
            omega
          · have := x2 (by omega)
            rw [if_neg (by omega)]
            omega
    refine ⟨hch.2.2, Or.inl ?_⟩
    unfold slotN numN
    rw [hch.1, hch.2.1]
    exact ⟨e1, e2⟩
theorem num2_lt2 (W : WF T Z) (hb : b < blkN Z) (h3 : Z 40 = 3) : nuN Z 1 b < Z (36 + slN Z 1 b) := by
  have hl := lesN_le Z
  unfold blkN at hb
  rw [if_neg (by omega), if_pos h3] at hb
  unfold roomB at hl
  unfold slN nuN
  simp only [Nat.reduceMul, Nat.reduceAdd]
  by_cases q : b < Z 38
  · rw [if_pos q, if_pos q]; exact q
  · rw [if_neg q, if_neg q]
    show _ < Z 39
    omega
theorem ixS_sl (h3 : Z 40 = 3) (hb : b < blkN Z) : ixS Z (slotN Z b) (numN Z b) = b ∧ ixS Z (slN Z 1 b) (nuN Z 1 b) = b := by
  have hc : chN Z b = 0 := by unfold chN; rw [if_pos h3]
  have hi : ixN Z b = b := by unfold ixN; rw [if_pos h3]
  unfold slotN numN
  rw [hc, hi]
  unfold ixS slN nuN
  simp only [Nat.reduceMul, Nat.reduceAdd]
  constructor
  · by_cases q : b < Z 36
    · simp [q]
    · simp [q]; omega
  · by_cases q : b < Z 38
    · simp [q]
    · simp [q]; omega
theorem bkI_p (W : WF T Z) (hb : b < blkN Z) : bkI Z (slotN Z b) (numN Z b) = nI b := by
  unfold bkI
  rw [if_pos (num_lt2 W hb)]
  by_cases h3 : Z 40 = 3
  · rw [if_pos h3, if_pos, bk_inv W hb]
    rw [(ixS_sl h3 hb).1]
    unfold blkN at hb
    rwa [if_neg (by omega), if_pos h3] at hb
  · rw [if_neg h3, bk_inv W hb]
theorem bkI_q (W : WF T Z) (hb : b < blkN Z) (h3 : Z 40 = 3) : bkI Z (slN Z 1 b) (nuN Z 1 b) = nI b := by
  unfold bkI
  rw [if_pos (num2_lt2 W hb h3), if_pos h3, if_pos, bk_inv2 W hb h3]
  rw [(ixS_sl h3 hb).2]
  unfold blkN at hb
  rwa [if_neg (by omega), if_pos h3] at hb
theorem bkI_cases (W : WF T Z) (hs : s < 4) (hn : n < 12) : bkI Z s n = mI ∨ (n < Z (36 + s) ∧ (Z 40 = 3 → ixS Z s n < lesN Z) ∧ bkI Z s n = nI (bkN Z s n)) := by
  unfold bkI
  by_cases e : n < Z (36 + s)
  · rw [if_pos e]
    by_cases h3 : Z 40 = 3
    · rw [if_pos h3]
      by_cases e2 : ixS Z s n < lesN Z
      · rw [if_pos e2]; exact Or.inr ⟨e, fun _ => e2, rfl⟩
      · rw [if_neg e2]; exact Or.inl rfl
    · rw [if_neg h3]; exact Or.inr ⟨e, fun z => absurd z h3, rfl⟩
  · rw [if_neg e]; exact Or.inl rfl
theorem nI_mI {m : Nat} (h : m < 2 ^ 30) : nI m ≠ mI := fun e => nI_pos (n := m) (by omega) (by rw [e]; decide)
theorem place_iff (W : WF T Z) (hs : s < 4) (hn : n < 12) (hb : b < blkN Z) : (pN Z b = 12 * s + n ∨ (Z 40 = 3 ∧ qN Z b = 12 * s + n)) ↔ bkI Z s n = nI b := by
  have hbl := W.blk
  constructor
  · rintro (e | ⟨h3, e⟩)
    · have h1 := slot_lt Z b
      have h2 := num_lt W hb
      unfold pN at e
      rw [show s = slotN Z b by omega, show n = numN Z b by omega]
      exact bkI_p W hb
    · have h1 := sl_lt (Z := Z) (c := 1) (i := b) (by omega)
      have h2 := num2_lt W hb h3
      unfold qN at e
      rw [show s = slN Z 1 b by omega, show n = nuN Z 1 b by omega]
      exact bkI_q W hb h3
  · intro e
    rcases bkI_cases W hs hn with h | ⟨h1, h2, h3⟩
    · rw [h] at e; exact absurd e.symm (nI_mI (by omega))
    · have hlt := bkN_lt W hs hn
      rw [h3] at e
      have eb : bkN Z s n = b := (nI_eq (by omega) (by omega)).mp e
      obtain ⟨-, q⟩ := bk_to W hs h1 h2
      rw [eb] at q
      unfold pN qN
      rcases q with ⟨q1, q2⟩ | ⟨q0, q1, q2⟩
      · left; omega
      · right; exact ⟨q0, by omega⟩
-- ===== counting =====
theorem cntN_s (p : Nat → Bool) (k : Nat) : cntN p (k + 1) = cntN p k + (if p k then 1 else 0) := rfl
theorem cnt_cg {p q : Nat → Bool} : ∀ {N : Nat}, (∀ n, n < N → p n = q n) → cntN p N = cntN q N
  | 0, _ => rfl
  | N + 1, h => by rw [cntN_s, cntN_s, cnt_cg (fun n hn => h n (by omega)), h N (by omega)]
theorem cnt_rm {q : Nat → Bool} {x : Nat} (hq : q x = true) : ∀ {N : Nat}, x < N → cntN q N = cntN (fun n => q n && decide (n ≠ x)) N + 1
  | 0, h => absurd h (Nat.not_lt_zero _)
  | N + 1, h => by
    rw [cntN_s, cntN_s]
    by_cases e : x = N
    · subst e
      rw [hq, cnt_cg (p := q) (q := fun n => q n && decide (n ≠ x)) (N := x) (fun n hn => by simp [show n ≠ x by omega])]
      simp
    · rw [cnt_rm hq (show x < N by omega)]
      have : decide (N ≠ x) = true := by simp; omega
      rw [this, Bool.and_true]
      omega
theorem cnt_inj {p q : Nat → Bool} {f : Nat → Nat} {N : Nat} : ∀ {B : Nat}, (∀ b, b < B → p b = true → f b < N ∧ q (f b) = true) → (∀ a b, a < B → b < B → p a = true → p b = true → f a = f b → a = b) → cntN p B ≤ cntN q N := by
  intro B
  induction B generalizing q with
  | zero => intro _ _; exact Nat.zero_le _
  | succ B ih =>
    intro h1 h2
    rw [cntN_s]
    by_cases e : p B = true
    · rw [if_pos e]
      obtain ⟨g1, g2⟩ := h1 B (by omega) e
      rw [cnt_rm g2 g1]
      have := ih (q := fun n => q n && decide (n ≠ f B)) (fun b hb hp => by
        obtain ⟨a1, a2⟩ := h1 b (by omega) hp
        refine ⟨a1, ?_⟩
        have : f b ≠ f B := fun z => by have := h2 b B (by omega) (by omega) hp e z; omega
        simp [a2, this]) (fun a b ha hb => h2 a b (by omega) (by omega))
      omega
    · rw [if_neg e]
      have := ih (q := q) (fun b hb => h1 b (by omega)) (fun a b ha hb => h2 a b (by omega) (by omega))
      omega
def inS (Z : Nat → Nat) (s b : Nat) : Bool := decide (slotN Z b = s ∨ (Z 40 = 3 ∧ slN Z 1 b = s))
theorem used_eq (W : WF T Z) (hs : s < 4) : cntN (inS Z s) (blkN Z) = usedN Z s := by
  have hbl := W.blk
  unfold usedN
  have hf : ∀ b, b < blkN Z → inS Z s b = true → ∃ n, n < 12 ∧ (if slotN Z b = s then numN Z b else nuN Z 1 b) = n ∧ bkI Z s n = nI b := by
    intro b hb hp
    have hp2 : slotN Z b = s ∨ (Z 40 = 3 ∧ slN Z 1 b = s) := of_decide_eq_true hp
    by_cases e : slotN Z b = s
    · refine ⟨_, num_lt W hb, if_pos e, ?_⟩
      rw [← e]; exact bkI_p W hb
    · obtain ⟨h3, e2⟩ := hp2.resolve_left e
      refine ⟨_, num2_lt W hb h3, if_neg e, ?_⟩
      rw [← e2]; exact bkI_q W hb h3
  apply Nat.le_antisymm
  · refine cnt_inj (f := fun b => if slotN Z b = s then numN Z b else nuN Z 1 b) (fun b hb hp => ?_) (fun a b ha hb hpa hpb e => ?_)
    · obtain ⟨n, h1, h2, h3⟩ := hf b hb hp
      rw [h2]
      refine ⟨h1, ?_⟩
      rw [decide_eq_true_eq, h3]
      exact nI_mI (by omega)
    · obtain ⟨n, h1, h2, h3⟩ := hf a ha hpa
      obtain ⟨m, k1, k2, k3⟩ := hf b hb hpb
      rw [h2, k2] at e
      subst e
      rw [h3] at k3
      exact (nI_eq (by omega) (by omega)).mp k3
  · have hg : ∀ n, n < 12 → decide (bkI Z s n ≠ mI) = true → bkN Z s n < blkN Z ∧ ((slotN Z (bkN Z s n) = s ∧ numN Z (bkN Z s n) = n) ∨ (Z 40 = 3 ∧ slN Z 1 (bkN Z s n) = s ∧ nuN Z 1 (bkN Z s n) = n)) := by
      intro n hn hp
      have hp2 : bkI Z s n ≠ mI := of_decide_eq_true hp
      rcases bkI_cases W hs hn with h | ⟨h1, h2, -⟩
      · exact absurd h hp2
      · exact bk_to W hs h1 h2
    refine cnt_inj (f := fun n => bkN Z s n) (fun n hn hp => ?_) (fun a b ha hb hpa hpb e => ?_)
    · obtain ⟨h1, h2⟩ := hg n hn hp
      refine ⟨h1, decide_eq_true ?_⟩
      rcases h2 with h2 | h2
      · exact Or.inl h2.1
      · exact Or.inr ⟨h2.1, h2.2.1⟩
    · obtain ⟨h1, h2⟩ := hg a ha hpa
      obtain ⟨k1, k2⟩ := hg b hb hpb
      rw [← e] at k2
      rcases h2 with ⟨h2, h3⟩ | ⟨h3, h4, h5⟩ <;> rcases k2 with ⟨k2, k3⟩ | ⟨k3, k4, k5⟩
      · omega
      · have := mir_slot k3 (bkN Z s a); omega
      · have := mir_slot h3 (bkN Z s a); omega
      · omega
variable {g k p q v : Nat → Int32}
theorem t_usedL (W : WF T Z) (h0 : g 0 = nI (blkN Z)) (hp : RGp p Z) (hq : RGq q Z) (hs : s < 4) : ∀ (d j f : Nat), j + d = blkN Z → d < f → l_L_used_6 10 g 48 p 48 q f (nI s) (nI (cntN (inS Z s) j)) (nI j) = some (nI (cntN (inS Z s) (blkN Z))) := by
  have hbl := W.blk
  intro d
  induction d with
  | zero =>
    intro j f hj hf
    obtain ⟨f, rfl⟩ := Nat.exists_eq_succ_of_ne_zero (show f ≠ 0 by omega)
    rw [l_L_used_6, i0, p_ard (by omega) (by omega), Option.bind_some, h0, if_neg (nI_nlt (by omega) (by omega)), show j = blkN Z by omega]
  | succ d ih =>
    intro j f hj hf
    obtain ⟨f, rfl⟩ := Nat.exists_eq_succ_of_ne_zero (show f ≠ 0 by omega)
    have hb : j < blkN Z := by omega
    have h1 := slot_lt Z j
    have h2 := num_lt W hb
    have hpl := pN_lt W hb
    have go := ih (j + 1) f (by omega) (by omega)
    rw [cntN_s] at go
    rw [l_L_used_6, i0, p_ard (by omega) (by omega), Option.bind_some, h0, if_pos (nI_lt hb (by omega)), t_p hp hb (by omega), Option.bind_some, i12, pk_div (by omega) (by omega) (by omega), show pN Z j / 12 = slotN Z j by unfold pN; omega, t_q hq (by omega), Option.bind_some, i1, nI_add, nI_add, nI_add]
    simp (discharger := omega) only [nI_eq]
    by_cases e : slotN Z j = s
    · rw [if_pos e]
      rw [show inS Z s j = true from decide_eq_true (Or.inl e), if_pos rfl] at go
      exact go
    · rw [if_neg e]
      by_cases h3 : Z 40 = 3
      · have hql := qN_lt W hb h3
        have h4 := num2_lt W hb h3
        have h5 := sl_lt (Z := Z) (c := 1) (i := j) (by omega)
        have hqq : qI Z j = nI (qN Z j) := by unfold qI; rw [if_pos ⟨hb, h3⟩]
        rw [hqq, if_neg (nI_nlt (Nat.zero_le _) (by omega)), Option.bind_some, pk_div (by omega) (by omega) (by omega), show qN Z j / 12 = slN Z 1 j by unfold qN; omega]
        simp (discharger := omega) only [nI_eq]
        by_cases e2 : slN Z 1 j = s
        · rw [if_pos e2]
          rw [show inS Z s j = true from decide_eq_true (Or.inr ⟨h3, e2⟩), if_pos rfl] at go
          exact go
        · rw [if_neg e2]
          rw [show inS Z s j = false from decide_eq_false (fun z => z.elim e (fun z => e2 z.2)), if_neg (by decide)] at go
          exact go
      · have hqq : qI Z j = mI := by unfold qI; rw [if_neg (fun z => h3 z.2)]
        rw [hqq, if_pos (show mI < nI 0 from mI_neg)]
        rw [show inS Z s j = false from decide_eq_false (fun z => z.elim e (fun z => h3 z.1)), if_neg (by decide)] at go
        exact go
theorem t_used (W : WF T Z) (h0 : g 0 = nI (blkN Z)) (hp : RGp p Z) (hq : RGq q Z) (hs : s < 4) : f_L_used 10 g 48 p 48 q (nI s) = some (nI (usedN Z s)) := by
  have hbl := W.blk
  have hfu : FU = 1000 := rfl
  rw [← used_eq W hs]
  exact t_usedL W h0 hp hq hs (blkN Z) 0 FU (by omega) (by omega)
end
