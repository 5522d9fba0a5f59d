-- ===== the bits of a double and of a float =====
theorem v_two : FP.Core.val64 (4611686018427387904 : UInt64) = .fin false (2 ^ 52) (-51) := by decide +kernel
theorem v_s52 : FP.Core.val64 (4841369599423283200 : UInt64) = .fin false (2 ^ 52) 0 := by decide +kernel
theorem v_s23 : FP.Core.val64 (4710765210229538816 : UInt64) = .fin false (2 ^ 52) (-29) := by decide +kernel
theorem v_one : FP.Core.val64 FP.dconst1 = .fin false (2 ^ 52) (-52) := by decide +kernel
theorem v_zero : FP.Core.val64 FP.dconst0 = .fin false 0 (-1074) := by decide +kernel
theorem no_fin {x : UInt64} {s : Bool} {c : Nat} {q : Int} (h : FP.Core.val64 x = .fin s c q) : FP.Core.val64 x ≠ .nan := by
  rw [h]; exact fun q => by cases q
theorem cmp_lt {a b : Int} (h : a < b) : compare a b = .lt := by
  simp only [compare, compareOfLessAndEq]
  rw [if_pos h]
theorem cmp_ge {a b : Int} (h : b ≤ a) : compare a b = .eq ∨ compare a b = .gt := by
  simp only [compare, compareOfLessAndEq]
  rw [if_neg (by omega)]
  by_cases e : a = b
  · rw [if_pos e]; exact Or.inl rfl
  · rw [if_neg e]; exact Or.inr rfl
theorem cmp_gt {a b : Int} (h : b < a) : compare a b = .gt := by
  simp only [compare, compareOfLessAndEq]
  rw [if_neg (by omega), if_neg (by omega)]
section
variable {x : UInt64} {c : Nat} {q : Int}
/-- against a power of two -/
theorem dc_lt {y : UInt64} {r : Int} (h : FP.Core.val64 x = .fin false c q) (hy : FP.Core.val64 y = .fin false (2 ^ 52) r) (hc2 : c < 2 ^ 53) (hq : q < r) : FP.dcmp x y = some .lt := by
  show FP.Core.order (FP.Core.val64 x) (FP.Core.val64 y) = _
  rw [h, hy]
  show some (compare (FP.Core.signed false (FP.Core.inUnits c q (min q r))) (FP.Core.signed false (FP.Core.inUnits (2 ^ 52) r (min q r)))) = _
  rw [cmp_lt]
  unfold FP.Core.signed FP.Core.inUnits
  rw [show min q r = q by omega, Int.sub_self]
  have hp : 2 ^ 1 ≤ 2 ^ (r - q).toNat := Nat.pow_le_pow_right (by decide) (by omega)
  have h2 : 2 ^ 52 * 2 ^ 1 ≤ 2 ^ 52 * 2 ^ (r - q).toNat := Nat.mul_le_mul_left _ hp
  show ((c * 2 ^ 0 : Nat) : Int) < ((2 ^ 52 * 2 ^ (r - q).toNat : Nat) : Int)
  generalize 2 ^ 52 * 2 ^ (r - q).toNat = w at *
  omega
theorem dc_ge {y : UInt64} {r : Int} (h : FP.Core.val64 x = .fin false c q) (hy : FP.Core.val64 y = .fin false (2 ^ 52) r) (hc1 : 2 ^ 52 ≤ c) (hq : r ≤ q) : FP.dcmp x y = some .eq ∨ FP.dcmp x y = some .gt := by
  show FP.Core.order (FP.Core.val64 x) (FP.Core.val64 y) = _ ∨ FP.Core.order (FP.Core.val64 x) (FP.Core.val64 y) = _
  rw [h, hy]
  show some (compare (FP.Core.signed false (FP.Core.inUnits c q (min q r))) (FP.Core.signed false (FP.Core.inUnits (2 ^ 52) r (min q r)))) = _ ∨ some (compare (FP.Core.signed false (FP.Core.inUnits c q (min q r))) (FP.Core.signed false (FP.Core.inUnits (2 ^ 52) r (min q r)))) = _
  have hle : FP.Core.signed false (FP.Core.inUnits (2 ^ 52) r (min q r)) ≤ FP.Core.signed false (FP.Core.inUnits c q (min q r)) := by
    unfold FP.Core.signed FP.Core.inUnits
    rw [show min q r = r by omega, Int.sub_self]
    have hp : 1 ≤ 2 ^ (q - r).toNat := Nat.two_pow_pos _
    have h2 : c * 1 ≤ c * 2 ^ (q - r).toNat := Nat.mul_le_mul_left _ hp
    show ((2 ^ 52 * 2 ^ 0 : Nat) : Int) ≤ ((c * 2 ^ (q - r).toNat : Nat) : Int)
    generalize c * 2 ^ (q - r).toNat = w at *
    omega
  rcases cmp_ge hle with e | e <;> rw [e]
  · exact Or.inl rfl
  · exact Or.inr rfl
theorem dc_pos (h : FP.Core.val64 x = .fin false c q) (hc1 : 0 < c) : FP.dcmp x FP.dconst0 = some .gt := by
  show FP.Core.order (FP.Core.val64 x) (FP.Core.val64 FP.dconst0) = _
  rw [h, v_zero]
  show some (compare (FP.Core.signed false (FP.Core.inUnits c q (min q (-1074)))) (FP.Core.signed false (FP.Core.inUnits 0 (-1074) (min q (-1074))))) = _
  rw [cmp_gt]
  unfold FP.Core.signed FP.Core.inUnits
  have h2 : 0 < c * 2 ^ (q - min q (-1074)).toNat := Nat.mul_pos hc1 (Nat.two_pow_pos _)
  show ((0 * _ : Nat) : Int) < ((c * 2 ^ (q - min q (-1074)).toNat : Nat) : Int)
  generalize c * 2 ^ (q - min q (-1074)).toNat = w at *
  rw [Nat.zero_mul]
  omega
theorem fit64 (hc1 : 2 ^ 52 ≤ c) (hc2 : c < 2 ^ 53) (hq1 : -1074 ≤ q) (hq2 : q ≤ 971) : FP.Core.fits FP.Core.b64 (.fin false c q) := by
  refine ⟨hc2, ?_, ?_, Or.inr hc1⟩
  · exact hq1
  · exact hq2
theorem dbl (h : FP.Core.val64 x = .fin false c q) (hc1 : 2 ^ 52 ≤ c) (hc2 : c < 2 ^ 53) (hq1 : -1000 ≤ q) (hq2 : q ≤ 900) : FP.Core.val64 (FP.dmul x (4611686018427387904 : UInt64)) = .fin false c (q + 1) := by
  show FP.Core.val64 (FP.Core.dmul x (4611686018427387904 : UInt64)) = _
  rw [FP.Core.val64_dmul, h, v_two]
  show FP.Core.roundRatio FP.Core.b64 (false != false) (c * 2 ^ 52) 1 (q + -51) = _
  refine FP.Core.roundRatio_exact FP.Core.good_b64 (by decide) (fit64 hc1 hc2 (by omega) (by omega)) ?_
  rw [show (q + -51 - (q + 1)).toNat = 0 by omega, show (q + 1 - (q + -51)).toNat = 52 by omega, Nat.pow_zero, Nat.mul_one, Nat.mul_one]
theorem hlv (h : FP.Core.val64 x = .fin false c q) (hc1 : 2 ^ 52 ≤ c) (hc2 : c < 2 ^ 53) (hq1 : -1000 ≤ q) (hq2 : q ≤ 900) : FP.Core.val64 (FP.ddiv x (4611686018427387904 : UInt64)) = .fin false c (q - 1) := by
  show FP.Core.val64 (FP.Core.ddiv x (4611686018427387904 : UInt64)) = _
  rw [FP.Core.val64_ddiv, h, v_two]
  show (if 2 ^ 52 = 0 then (if c = 0 then FP.Core.Datum.nan else FP.Core.Datum.inf (false != false)) else FP.Core.roundRatio FP.Core.b64 (false != false) c (2 ^ 52) (q - -51)) = _
  rw [if_neg (by decide)]
  refine FP.Core.roundRatio_exact FP.Core.good_b64 (by decide) (fit64 hc1 hc2 (by omega) (by omega)) ?_
  rw [show (q - -51 - (q - 1)).toNat = 52 by omega, show (q - 1 - (q - -51)).toNat = 0 by omega, Nat.pow_zero, Nat.mul_one]
theorem nI_dec {n : Nat} : nI (n + 1) + (-1) = nI n := by
  rw [← Int32.sub_eq_add_neg]
  exact nI_pred n
theorem bl1z {E n : Nat} {s2 s3 : Int32} {s4 : UInt64} (h : FP.Core.val64 x = .fin false c q) (hc1 : 2 ^ 52 ≤ c) (hq : -52 ≤ q) : l_X5_bits_14 (n + 1) s2 s3 s4 x (nI E) = l_X5_bits_41 FU s2 s3 s4 x (nI E) := by
  rw [l_X5_bits_14, if_neg]
  rcases dc_ge h v_one hc1 hq with e | e <;> rw [e] <;> decide
theorem bl1 {n : Nat} {s2 s3 : Int32} {s4 : UInt64} : ∀ (k : Nat) (x : UInt64) (c E : Nat), FP.Core.val64 x = .fin false c (-52 - (k : Int)) → 2 ^ 52 ≤ c → c < 2 ^ 53 → k ≤ 100 → k < E → E < 2 ^ 30 → ∃ y, FP.Core.val64 y = .fin false c (-52) ∧ l_X5_bits_14 (n + k + 1) s2 s3 s4 x (nI E) = l_X5_bits_41 FU s2 s3 s4 y (nI (E - k)) := by
  intro k
  induction k with
  | zero =>
    intro x c E h hc1 hc2 hk hE hE2
    have h' : FP.Core.val64 x = .fin false c (-52) := h
    exact ⟨x, h', bl1z h' hc1 (by omega)⟩
  | succ k ih =>
    intro x c E h hc1 hc2 hk hE hE2
    obtain ⟨E, rfl⟩ := Nat.exists_eq_succ_of_ne_zero (show E ≠ 0 by omega)
    have hd := dbl h hc1 hc2 (by omega) (by omega)
    rw [show -52 - ((k + 1 : Nat) : Int) + 1 = -52 - (k : Int) by omega] at hd
    obtain ⟨y, g1, g2⟩ := ih _ c E hd hc1 hc2 (by omega) (by omega) (by omega)
    refine ⟨y, g1, ?_⟩
    rw [show n + (k + 1) + 1 = (n + k + 1) + 1 by omega, l_X5_bits_14, dc_lt h v_one hc2 (by omega), if_pos (by decide), i1, if_pos (nI_lt (by omega) (by omega)), dck_ok (no_fin hd), Option.bind_some]
    rw [show nI (E.succ) + (-nI 1) = nI E from nI_dec, g2, show E.succ - (k + 1) = E - k by omega]
theorem bl2z {E n : Nat} {s2 s3 : Int32} {s4 : UInt64} (h : FP.Core.val64 x = .fin false c q) (hc2 : c < 2 ^ 53) (hq : q ≤ -52) : l_X5_bits_41 (n + 1) s2 s3 s4 x (nI E) = b_X5_bits_72 s3 s4 x (nI E) := by
  rw [l_X5_bits_41, dc_lt h v_two hc2 (by omega), if_pos (by decide)]
theorem bl2 {n B : Nat} {s3 : Int32} {s4 : UInt64} (hB : B < 2 ^ 20) : ∀ (k : Nat) (x : UInt64) (c E : Nat), FP.Core.val64 x = .fin false c (-52 + (k : Int)) → 2 ^ 52 ≤ c → c < 2 ^ 53 → k ≤ 100 → E + k ≤ 2 * B → ∃ y, FP.Core.val64 y = .fin false c (-52) ∧ l_X5_bits_41 (n + k + 1) (nI B) s3 s4 x (nI E) = b_X5_bits_72 s3 s4 y (nI (E + k)) := by
  intro k
  induction k with
  | zero =>
    intro x c E h hc1 hc2 hk hE
    have h' : FP.Core.val64 x = .fin false c (-52) := h
    exact ⟨x, h', bl2z h' hc2 (by omega)⟩
  | succ k ih =>
    intro x c E h hc1 hc2 hk hE
    have hd := hlv h hc1 hc2 (by omega) (by omega)
    rw [show -52 + ((k + 1 : Nat) : Int) - 1 = -52 + (k : Int) by omega] at hd
    obtain ⟨y, g1, g2⟩ := ih _ c (E + 1) hd hc1 hc2 (by omega) (by omega)
    refine ⟨y, g1, ?_⟩
    rw [show n + (k + 1) + 1 = (n + k + 1) + 1 by omega, l_X5_bits_41, if_neg (by rcases dc_ge h v_two hc1 (by omega) with e | e <;> rw [e] <;> decide), i2, pk_mul, if_pos (nI_lt (by omega) (by omega)), dck_ok (no_fin hd), Option.bind_some, i1, nI_add, g2, show E + 1 + k = E + (k + 1) by omega]
end
/-- the fraction less one, times the power of two -/
theorem b72 {y S : UInt64} {m w : Nat} {s3 s8 : Int32} (hw : w ≤ 52) (hm : m < 2 ^ w) (hy : FP.Core.val64 y = .fin false (2 ^ 52 + m * 2 ^ (52 - w)) (-52)) (hS : FP.Core.val64 S = .fin false (2 ^ 52) ((w : Int) - 52)) : b_X5_bits_72 s3 S y s8 = some ((s8.toInt64 <<< (s3.toInt64 &&& 63)) + Int64.ofNat m) := by
  have hM : m * 2 ^ (52 - w) < 2 ^ 52 := by
    calc m * 2 ^ (52 - w) < 2 ^ w * 2 ^ (52 - w) := Nat.mul_lt_mul_of_pos_right hm (Nat.two_pow_pos _)
      _ = 2 ^ 52 := by rw [← Nat.pow_add]; congr 1; omega
  have hd : FP.Core.val64 (FP.dsub y FP.dconst1) = FP.Core.roundRatio FP.Core.b64 false (m * 2 ^ (52 - w)) 1 (-52) := by
    show FP.Core.val64 (FP.Core.dsub y FP.dconst1) = _
    rw [FP.Core.val64_dsub, hy, v_one]
    have hu : FP.Core.sumUnits false (2 ^ 52 + m * 2 ^ (52 - w)) (-52) true (2 ^ 52) (-52) (-52) = ((m * 2 ^ (52 - w) : Nat) : Int) := by
      unfold FP.Core.sumUnits FP.Core.signed FP.Core.inUnits
      rw [Int.sub_self]
      show (((2 ^ 52 + m * 2 ^ (52 - w)) * 2 ^ 0 : Nat) : Int) + -((2 ^ 52 * 2 ^ 0 : Nat) : Int) = _
      generalize m * 2 ^ (52 - w) = M at *
      omega
    show FP.Core.roundRatio FP.Core.b64 (FP.Core.sumSign false true (FP.Core.sumUnits false (2 ^ 52 + m * 2 ^ (52 - w)) (-52) true (2 ^ 52) (-52) (-52))) (FP.Core.sumUnits false (2 ^ 52 + m * 2 ^ (52 - w)) (-52) true (2 ^ 52) (-52) (-52)).natAbs 1 (-52) = _
    rw [hu, Int.natAbs_natCast]
    have hs : FP.Core.sumSign false true ((m * 2 ^ (52 - w) : Nat) : Int) = false := by
      unfold FP.Core.sumSign
      split
      · rfl
      · exact decide_eq_false (by omega)
    rw [hs]
  have hp : FP.Core.Whole (m : Int) (FP.Core.exactProduct (FP.Core.val64 (FP.dsub y FP.dconst1)) (FP.Core.val64 S)) := by
    rw [hd, hS]
    by_cases e : m = 0
    · subst e
      rw [Nat.zero_mul]
      unfold FP.Core.roundRatio
      rw [if_pos rfl]
      show FP.Core.signed (false != false) (0 * 2 ^ 52 * _) = ((0 : Nat) : Int) * _
      rw [Nat.zero_mul, Int.natCast_zero, Int.zero_mul]; rfl
    · have hpos : 0 < m * 2 ^ (52 - w) := Nat.mul_pos (by omega) (Nat.two_pow_pos _)
      have l1 : 2 ^ (m * 2 ^ (52 - w)).log2 ≤ m * 2 ^ (52 - w) := Nat.log2_self_le (by omega)
      have l2 : m * 2 ^ (52 - w) < 2 ^ ((m * 2 ^ (52 - w)).log2 + 1) := Nat.lt_log2_self
      have l3 : (m * 2 ^ (52 - w)).log2 < 52 := (Nat.pow_lt_pow_iff_right (by decide : 1 < 2)).mp (Nat.lt_of_le_of_lt l1 hM)
      generalize (m * 2 ^ (52 - w)).log2 = L at l1 l2 l3
      have h1 : 2 ^ 52 ≤ m * 2 ^ (52 - w) * 2 ^ (52 - L) := by
        calc 2 ^ 52 = 2 ^ L * 2 ^ (52 - L) := by rw [← Nat.pow_add]; congr 1; omega
          _ ≤ _ := Nat.mul_le_mul_right _ l1
      have h2 : m * 2 ^ (52 - w) * 2 ^ (52 - L) < 2 ^ 53 := by
        calc m * 2 ^ (52 - w) * 2 ^ (52 - L) < 2 ^ (L + 1) * 2 ^ (52 - L) := Nat.mul_lt_mul_of_pos_right l2 (Nat.two_pow_pos _)
          _ = 2 ^ 53 := by rw [← Nat.pow_add]; congr 1; omega
      have hx : FP.Core.roundRatio FP.Core.b64 false (m * 2 ^ (52 - w)) 1 (-52) = .fin false (m * 2 ^ (52 - w) * 2 ^ (52 - L)) ((L : Int) - 104) := by
        refine FP.Core.roundRatio_exact FP.Core.good_b64 (by decide) (fit64 h1 h2 (by omega) (by omega)) ?_
        rw [show (-52 - ((L : Int) - 104)).toNat = 52 - L by omega, show ((L : Int) - 104 - -52).toNat = 0 by omega, Nat.pow_zero, Nat.mul_one, Nat.mul_one]
      rw [hx]
      show FP.Core.signed (false != false) (m * 2 ^ (52 - w) * 2 ^ (52 - L) * 2 ^ 52 * 2 ^ ((L : Int) - 104 + ((w : Int) - 52)).toNat) = (m : Int) * ((2 ^ (-((L : Int) - 104 + ((w : Int) - 52))).toNat : Nat) : Int)
      rw [show ((L : Int) - 104 + ((w : Int) - 52)).toNat = 0 by omega, show (-((L : Int) - 104 + ((w : Int) - 52))).toNat = (52 - w) + (52 - L) + 52 by omega, Nat.pow_zero, Nat.mul_one, ← Int.natCast_mul, Nat.pow_add, Nat.pow_add]
      show ((m * 2 ^ (52 - w) * 2 ^ (52 - L) * 2 ^ 52 : Nat) : Int) = _
      congr 1
      ac_rfl
  have hmul : FP.Core.DInt (m : Int) (FP.dmul (FP.dsub y FP.dconst1) S) := by
    show FP.Core.Whole (m : Int) (FP.Core.val64 (FP.Core.dmul (FP.dsub y FP.dconst1) S))
    rw [FP.Core.val64_dmul]
    refine FP.Core.whole_round FP.Core.good_b64 FP.Core.wide_b64 ?_ hp
    rw [Int.natAbs_natCast]
    exact Nat.le_of_lt (Nat.lt_of_lt_of_le hm (Nat.pow_le_pow_right (by decide) (by show w ≤ 53; omega)))
  have hm63 : m < 2 ^ 63 := Nat.lt_of_lt_of_le hm (Nat.pow_le_pow_right (by decide) (by omega))
  have ht : (Int64.ofNat m).toInt = (m : Int) := Int64.toInt_ofNat_of_lt hm63
  have hno1 : FP.Core.val64 (FP.dsub y FP.dconst1) ≠ .nan := by rw [hd]; exact rr_no
  have hno2 : FP.Core.val64 (FP.dmul (FP.dsub y FP.dconst1) S) ≠ .nan := fun q => by
    have : FP.Core.Whole (m : Int) (FP.Core.val64 (FP.dmul (FP.dsub y FP.dconst1) S)) := hmul
    rw [q] at this
    exact this
  unfold b_X5_bits_72
  rw [dck_ok hno1, Option.bind_some, dck_ok hno2, Option.bind_some]
  have : FP.d2l (FP.dmul (FP.dsub y FP.dconst1) S) = Int64.ofNat m := FP.Core.d2l_int (by rw [ht]; exact hmul)
  rw [this]
