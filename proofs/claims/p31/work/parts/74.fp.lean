-- ===== floats =====
theorem dck_ok {x : UInt64} (h : FP.Core.val64 x ≠ .nan) : dck x = some x := by
  unfold dck
  rw [if_pos]
  rw [UInt64.le_iff_toNat_le, UInt64.toNat_and]
  have e1 : (0x7fffffffffffffff : UInt64).toNat = 2 ^ 63 - 1 := by decide
  have e2 : (0x7ff0000000000000 : UInt64).toNat = 9218868437227405312 := by decide
  rw [e1, e2, Nat.and_two_pow_sub_one_eq_mod]
  have hE : FP.Core.fieldE FP.Core.b64 x.toNat = x.toNat / 4503599627370496 % 2048 := rfl
  have hT : FP.Core.fieldT FP.Core.b64 x.toNat = x.toNat % 4503599627370496 := rfl
  have hx : FP.Core.b64.exps - 1 = 2047 := by decide
  unfold FP.Core.val64 FP.Core.decode at h
  rw [hE, hT, hx] at h
  generalize x.toNat = n at *
  by_cases a : n / 4503599627370496 % 2048 = 2047
  · rw [if_pos a] at h
    by_cases b : n % 4503599627370496 = 0
    · omega
    · rw [if_neg b] at h; exact absurd rfl h
  · omega
theorem fck_ok {x : UInt32} (h : FP.Core.val32 x ≠ .nan) : fck x = some x := by
  unfold fck
  rw [if_pos]
  rw [UInt32.le_iff_toNat_le, UInt32.toNat_and]
  have e1 : (0x7fffffff : UInt32).toNat = 2 ^ 31 - 1 := by decide
  have e2 : (0x7f800000 : UInt32).toNat = 2139095040 := by decide
  rw [e1, e2, Nat.and_two_pow_sub_one_eq_mod]
  have hE : FP.Core.fieldE FP.Core.b32 x.toNat = x.toNat / 8388608 % 256 := rfl
  have hT : FP.Core.fieldT FP.Core.b32 x.toNat = x.toNat % 8388608 := rfl
  have hx : FP.Core.b32.exps - 1 = 255 := by decide
  unfold FP.Core.val32 FP.Core.decode at h
  rw [hE, hT, hx] at h
  generalize x.toNat = n at *
  by_cases a : n / 8388608 % 256 = 255
  · rw [if_pos a] at h
    by_cases b : n % 8388608 = 0
    · omega
    · rw [if_neg b] at h; exact absurd rfl h
  · omega
theorem lead_bd {A B : Nat} (hA : 0 < A) (hA2 : A < 2 ^ 24) (hB : 0 < B) (hB2 : B < 2 ^ 24) : -24 ≤ FP.Core.leading A B ∧ FP.Core.leading A B ≤ 23 := by
  have a1 : A.log2 < 24 := by rw [Nat.log2_lt (by omega)]; exact hA2
  have b1 : B.log2 < 24 := by rw [Nat.log2_lt (by omega)]; exact hB2
  unfold FP.Core.leading
  dsimp only
  split <;> omega
theorem rr_val {f : FP.Core.Fmt} (hf : FP.Core.Good f) (hq1 : f.qmin < -24 - ((f.p : Int) - 1)) (hq2 : 24 - ((f.p : Int) - 1) ≤ f.qmax) {A B : Nat} (hA : 0 < A) (hA2 : A < 2 ^ 24) (hB : 0 < B) (hB2 : B < 2 ^ 24) : ∃ (c : Nat) (q : Int), FP.Core.roundRatio f false A B 0 = .fin false c q ∧ f.tails ≤ c ∧ c < 2 ^ f.p ∧ -24 - ((f.p : Int) - 1) ≤ q ∧ q ≤ 24 - ((f.p : Int) - 1) := by
  obtain ⟨l1, l2⟩ := lead_bd hA hA2 hB hB2
  have hfit := FP.Core.roundRatio_fits hf false A hB 0
  have hqq : FP.Core.quantum f A B 0 = FP.Core.leading A B - ((f.p : Int) - 1) := by
    unfold FP.Core.quantum
    omega
  unfold FP.Core.roundRatio at hfit ⊢
  rw [if_neg (by omega)] at hfit ⊢
  unfold FP.Core.roundAt FP.Core.settle FP.Core.bound at hfit ⊢
  rw [hqq] at hfit ⊢
  by_cases e : FP.Core.nearest (FP.Core.unitsNum A 0 (FP.Core.leading A B - ((f.p : Int) - 1))) (FP.Core.unitsDen B 0 (FP.Core.leading A B - ((f.p : Int) - 1))) < 2 ^ f.p
  · rw [if_pos e, if_pos (by omega)] at hfit ⊢
    obtain ⟨g1, g2, g3, g4⟩ := hfit
    refine ⟨_, _, rfl, ?_, g1, by omega, by omega⟩
    rcases g4 with g4 | g4
    · omega
    · exact g4
  · rw [if_neg e, if_pos (by omega)] at hfit ⊢
    obtain ⟨g1, g2, g3, g4⟩ := hfit
    exact ⟨_, _, rfl, Nat.le_refl _, g1, by omega, by omega⟩
theorem nat_val {f : FP.Core.Fmt} (hf : FP.Core.Good f) (hq1 : f.qmin ≤ -((f.p : Int) - 1)) (hq2 : 0 ≤ f.qmax) {n : Nat} (h0 : 0 < n) (hn : n < 2 ^ f.p) : ∃ a : Nat, FP.Core.round f (FP.Core.ofInt (n : Int)) = .fin false (n * 2 ^ a) (-(a : Int)) := by
  have h3 : 2 ≤ f.p := hf.2
  have l1 : 2 ^ n.log2 ≤ n := Nat.log2_self_le (by omega)
  have l2 : n < 2 ^ (n.log2 + 1) := Nat.lt_log2_self
  have l3 : n.log2 < f.p := (Nat.pow_lt_pow_iff_right (by decide : 1 < 2)).mp (Nat.lt_of_le_of_lt l1 hn)
  generalize n.log2 = L at l1 l2 l3
  refine ⟨f.p - 1 - L, ?_⟩
  show FP.Core.roundRatio f (decide ((n : Int) < 0)) ((n : Int).natAbs) 1 0 = _
  rw [decide_eq_false (by omega), Int.natAbs_natCast]
  refine FP.Core.roundRatio_exact hf (by decide) ⟨?_, by omega, by omega, .inr ?_⟩ ?_
  · calc n * 2 ^ (f.p - 1 - L) < 2 ^ (L + 1) * 2 ^ (f.p - 1 - L) := Nat.mul_lt_mul_of_pos_right l2 (Nat.two_pow_pos _)
      _ = 2 ^ f.p := by rw [← Nat.pow_add]; congr 1; omega
  · calc f.tails = 2 ^ L * 2 ^ (f.p - 1 - L) := by rw [← Nat.pow_add]; unfold FP.Core.Fmt.tails; congr 1; omega
      _ ≤ n * 2 ^ (f.p - 1 - L) := Nat.mul_le_mul_right _ l1
  · rw [show (0 - -((f.p - 1 - L : Nat) : Int)).toNat = f.p - 1 - L by omega, show (-((f.p - 1 - L : Nat) : Int) - 0).toNat = 0 by omega]
    simp
theorem q_val {f : FP.Core.Fmt} {t r a b : Nat} (hr : 0 < r) : FP.Core.quotient f (.fin false (t * 2 ^ a) (-(a : Int))) (.fin false (r * 2 ^ b) (-(b : Int))) = FP.Core.roundRatio f false t r 0 := by
  have hne : 0 < r * 2 ^ b := Nat.mul_pos hr (Nat.two_pow_pos _)
  show (if r * 2 ^ b = 0 then _ else FP.Core.roundRatio f (false != false) (t * 2 ^ a) (r * 2 ^ b) (-(a : Int) - -(b : Int))) = _
  rw [if_neg (by omega)]
  refine FP.Core.roundRatio_congr hne hr ?_
  rcases Nat.le_total a b with h | h
  · rw [show (-(a : Int) - -(b : Int) - 0).toNat = b - a by omega, show (0 - (-(a : Int) - -(b : Int))).toNat = 0 by omega]
    have : 2 ^ b = 2 ^ a * 2 ^ (b - a) := by rw [← Nat.pow_add]; congr 1; omega
    rw [this, Nat.pow_zero, Nat.mul_one]
    ac_rfl
  · rw [show (-(a : Int) - -(b : Int) - 0).toNat = 0 by omega, show (0 - (-(a : Int) - -(b : Int))).toNat = a - b by omega]
    have : 2 ^ a = 2 ^ b * 2 ^ (a - b) := by rw [← Nat.pow_add]; congr 1; omega
    rw [this, Nat.pow_zero, Nat.mul_one]
    ac_rfl
theorem nI_ti {n : Nat} (h : n < 2 ^ 31) : (nI n).toInt = (n : Int) := nI_toInt h
theorem d_quot {t r : Nat} (ht : t < 2 ^ 24) (hr : 0 < r) (hr2 : r < 2 ^ 24) : FP.Core.val64 (FP.ddiv (FP.i2d (nI t)) (FP.i2d (nI r))) = FP.Core.roundRatio FP.Core.b64 false t r 0 := by
  show FP.Core.val64 (FP.Core.ddiv (FP.Core.i2d (nI t)) (FP.Core.i2d (nI r))) = _
  rw [FP.Core.val64_ddiv, FP.Core.val64_i2d, FP.Core.val64_i2d, nI_ti (by omega), nI_ti (by omega)]
  obtain ⟨b, hb⟩ := nat_val (f := FP.Core.b64) FP.Core.good_b64 (by decide) (by decide) hr (Nat.lt_of_lt_of_le hr2 (by decide))
  rw [hb]
  by_cases e : t = 0
  · subst e
    have h0 : FP.Core.round FP.Core.b64 (FP.Core.ofInt ((0 : Nat) : Int)) = .fin false 0 FP.Core.b64.qmin := by decide +kernel
    rw [h0]
    have hne : 0 < r * 2 ^ b := Nat.mul_pos hr (Nat.two_pow_pos _)
    show (if r * 2 ^ b = 0 then _ else FP.Core.roundRatio FP.Core.b64 (false != false) 0 (r * 2 ^ b) _) = _
    rw [if_neg (by omega)]
    unfold FP.Core.roundRatio
    rw [if_pos rfl, if_pos rfl]; rfl
  · obtain ⟨a, ha⟩ := nat_val (f := FP.Core.b64) (n := t) FP.Core.good_b64 (by decide) (by decide) (by omega) (Nat.lt_of_lt_of_le ht (by decide))
    rw [ha, q_val hr]
theorem f_quot {t r : Nat} (ht : t < 2 ^ 24) (hr : 0 < r) (hr2 : r < 2 ^ 24) : FP.Core.val32 (FP.fdiv (FP.i2f (nI t)) (FP.i2f (nI r))) = FP.Core.roundRatio FP.Core.b32 false t r 0 := by
  show FP.Core.val32 (FP.Core.fdiv (FP.Core.i2f (nI t)) (FP.Core.i2f (nI r))) = _
  rw [FP.Core.val32_fdiv, FP.Core.val32_i2f, FP.Core.val32_i2f, nI_ti (by omega), nI_ti (by omega)]
  obtain ⟨b, hb⟩ := nat_val (f := FP.Core.b32) FP.Core.good_b32 (by decide) (by decide) hr (Nat.lt_of_lt_of_le hr2 (by decide))
  rw [hb]
  by_cases e : t = 0
  · subst e
    have h0 : FP.Core.round FP.Core.b32 (FP.Core.ofInt ((0 : Nat) : Int)) = .fin false 0 FP.Core.b32.qmin := by decide +kernel
    rw [h0]
    have hne : 0 < r * 2 ^ b := Nat.mul_pos hr (Nat.two_pow_pos _)
    show (if r * 2 ^ b = 0 then _ else FP.Core.roundRatio FP.Core.b32 (false != false) 0 (r * 2 ^ b) _) = _
    rw [if_neg (by omega)]
    unfold FP.Core.roundRatio
    rw [if_pos rfl, if_pos rfl]; rfl
  · obtain ⟨a, ha⟩ := nat_val (f := FP.Core.b32) (n := t) FP.Core.good_b32 (by decide) (by decide) (by omega) (Nat.lt_of_lt_of_le ht (by decide))
    rw [ha, q_val hr]
theorem rr_no {f : FP.Core.Fmt} {s : Bool} {A B : Nat} {e : Int} : FP.Core.roundRatio f s A B e ≠ .nan := by
  unfold FP.Core.roundRatio FP.Core.roundAt FP.Core.settle FP.Core.bound
  repeat' split
  all_goals exact fun q => by cases q
theorem cmp_self {x : UInt64} (h : FP.Core.val64 x ≠ .nan) : Op.cmpValue (FP.dcmp x x) .l = 0 := by
  show Op.cmpValue (FP.Core.dcmp x x) .l = 0
  rw [FP.Core.dcmp_self h]; rfl
theorem f2d_eq {x : UInt32} (h : FP.Core.val32 x ≠ .nan) : FP.f2d x = FP.Core.f2d x := by
  unfold FP.f2d
  rw [if_neg (fun q => h ((FP.Core.fIsNaN_iff x).mp q))]
theorem f2d_no {x : UInt32} (h : FP.Core.val32 x ≠ .nan) : FP.Core.val64 (FP.f2d x) ≠ .nan := by
  rw [f2d_eq h, FP.Core.val64_f2d]
  cases e : FP.Core.val32 x with
  | nan => exact absurd e h
  | inf s => exact fun q => by cases q
  | fin s c q => exact rr_no
