-- ===== doubleBits and floatBits are the bits =====
theorem bits_lo {x S : UInt64} {c k B m w : Nat} {s3 : Int32} (hw : w ≤ 52) (hm : m < 2 ^ w) (hc : c = 2 ^ 52 + m * 2 ^ (52 - w)) (h : FP.Core.val64 x = .fin false c (-52 - (k : Int))) (hk : k ≤ 100) (hB : k < B) (hB2 : B < 2 ^ 20) (hS : FP.Core.val64 S = .fin false (2 ^ 52) ((w : Int) - 52)) : f_X5_bits x (nI B) s3 S = some (((nI (B - k)).toInt64 <<< (s3.toInt64 &&& 63)) + Int64.ofNat m) := by
  have hM : m * 2 ^ (52 - w) < 2 ^ 52 := by
    calc m * 2 ^ (52 - w) < 2 ^ w * 2 ^ (52 - w) := Nat.mul_lt_mul_of_pos_right hm (Nat.two_pow_pos _)
      _ = 2 ^ 52 := by rw [← Nat.pow_add]; congr 1; omega
  have hc1 : 2 ^ 52 ≤ c := by omega
  have hc2 : c < 2 ^ 53 := by omega
  obtain ⟨y, g1, g2⟩ := bl1 (n := 999 - k) (s2 := nI B) (s3 := s3) (s4 := S) k x c B h hc1 hc2 hk hB (by omega)
  unfold f_X5_bits
  rw [dc_pos h (by omega), if_pos (by decide), show FU = 999 - k + k + 1 from by have : FU = 1000 := rfl; omega, g2, show FU = 999 + 1 from rfl, bl2z g1 hc2 (by omega)]
  rw [hc] at g1
  exact b72 hw hm g1 hS
theorem bits_hi {x S : UInt64} {c k B m w : Nat} {s3 : Int32} (hw : w ≤ 52) (hm : m < 2 ^ w) (hc : c = 2 ^ 52 + m * 2 ^ (52 - w)) (h : FP.Core.val64 x = .fin false c (-52 + (k : Int))) (hk : k ≤ 100) (hB : k ≤ B) (hB2 : B < 2 ^ 20) (hS : FP.Core.val64 S = .fin false (2 ^ 52) ((w : Int) - 52)) : f_X5_bits x (nI B) s3 S = some (((nI (B + k)).toInt64 <<< (s3.toInt64 &&& 63)) + Int64.ofNat m) := by
  have hM : m * 2 ^ (52 - w) < 2 ^ 52 := by
    calc m * 2 ^ (52 - w) < 2 ^ w * 2 ^ (52 - w) := Nat.mul_lt_mul_of_pos_right hm (Nat.two_pow_pos _)
      _ = 2 ^ 52 := by rw [← Nat.pow_add]; congr 1; omega
  have hc1 : 2 ^ 52 ≤ c := by omega
  have hc2 : c < 2 ^ 53 := by omega
  obtain ⟨y, g1, g2⟩ := bl2 (n := 999 - k) (s3 := s3) (s4 := S) hB2 k x c B h hc1 hc2 hk (by omega)
  unfold f_X5_bits
  rw [dc_pos h (by omega), if_pos (by decide), show FU = 999 + 1 from rfl, bl1z h hc1 (by omega), show FU = 999 - k + k + 1 from by have : FU = 1000 := rfl; omega, g2]
  rw [hc] at g1
  exact b72 hw hm g1 hS
theorem sh52 : ∀ E, E < 1100 → ((nI E).toInt64 <<< ((52 : Int32).toInt64 &&& 63)) = Int64.ofNat (E * 2 ^ 52) := by decide +kernel
theorem sh23 : ∀ E, E < 255 → ((nI E).toInt64 <<< ((23 : Int32).toInt64 &&& 63)) = Int64.ofNat (E * 2 ^ 23) := by decide +kernel
theorem d2lb {x : UInt64} (h : FP.Core.val64 x ≠ .nan) : f_Jxe99ae_doubleToLongBits_ccdee x = some x.toInt64 := by
  unfold f_Jxe99ae_doubleToLongBits_ccdee f_Jxe99ae_isNaN_b9ae7
  rw [cmp_self h]; rfl
theorem f2ib {x : UInt32} (h : FP.Core.val32 x ≠ .nan) : f_Jxf58ca_floatToIntBits_5c35a x = some x.toInt32 := by
  unfold f_Jxf58ca_floatToIntBits_5c35a f_Jxf58ca_isNaN_12338
  rw [show Op.cmpValue (FP.fcmp x x) CmpOp.l = 0 from by
    show Op.cmpValue (FP.Core.fcmp x x) CmpOp.l = 0
    rw [FP.Core.fcmp_self h]; rfl]
  rfl
/-- a double in the range of a quotient of two small numbers -/
theorem dbits {x : UInt64} {c : Nat} {q : Int} (h : FP.Core.val64 x = .fin false c q) (hc1 : 2 ^ 52 ≤ c) (hc2 : c < 2 ^ 53) (hq1 : -100 ≤ q) (hq2 : q ≤ -20) : f_X5_doubleBits x = some x.toInt64 := by
  have hx : x = UInt64.ofNat ((q + 1075).toNat * 2 ^ 52 + (c - 2 ^ 52)) := by
    have h1 := FP.Core.of64_val64 (no_fin h)
    rw [h] at h1
    rw [← h1]
    unfold FP.Core.of64 FP.Core.encode
    dsimp only
    rw [if_neg (by show ¬ c < 2 ^ 52; omega)]
    unfold FP.Core.assemble
    refine congrArg UInt64.ofNat ?_
    show (0 * 2048 + ((q - -1074).toNat + 1)) * 2 ^ 52 + (c - 2 ^ 52) = _
    rw [show 0 * 2048 + ((q - -1074).toNat + 1) = (q + 1075).toNat by omega]
  have hi : x.toInt64 = Int64.ofNat ((q + 1075).toNat * 2 ^ 52) + Int64.ofNat (c - 2 ^ 52) := by
    rw [hx, ← Int64.ofNat_add]
    rfl
  have hcm : c = 2 ^ 52 + (c - 2 ^ 52) * 2 ^ (52 - 52) := by
    rw [Nat.sub_self, Nat.pow_zero, Nat.mul_one]
    omega
  have key : f_X5_bits x (nI 1023) 52 (4841369599423283200 : UInt64) = some (((nI (q + 1075).toNat).toInt64 <<< ((52 : Int32).toInt64 &&& 63)) + Int64.ofNat (c - 2 ^ 52)) := by
    by_cases e : q ≤ -52
    · have := bits_lo (x := x) (S := (4841369599423283200 : UInt64)) (c := c) (k := (-52 - q).toNat) (B := 1023) (m := c - 2 ^ 52) (w := 52) (s3 := 52) (by omega) (by omega) hcm (by rw [h]; congr 1; omega) (by omega) (by omega) (by omega) v_s52
      rw [this, show 1023 - (-52 - q).toNat = (q + 1075).toNat by omega]
    · have := bits_hi (x := x) (S := (4841369599423283200 : UInt64)) (c := c) (k := (q + 52).toNat) (B := 1023) (m := c - 2 ^ 52) (w := 52) (s3 := 52) (by omega) (by omega) hcm (by rw [h]; congr 1; omega) (by omega) (by omega) (by omega) v_s52
      rw [this, show 1023 + (q + 52).toNat = (q + 1075).toNat by omega]
  unfold f_X5_doubleBits
  rw [show (1023 : Int32) = nI 1023 from rfl, key, Option.bind_some, sh52 _ (by omega), hi]
theorem dbits0 : f_X5_doubleBits FP.dconst0 = some 0 := by
  unfold f_X5_doubleBits f_X5_bits
  rw [if_neg (by decide +kernel)]; rfl
theorem fbits {x : UInt32} {c : Nat} {q : Int} (h : FP.Core.val32 x = .fin false c q) (hc1 : 2 ^ 23 ≤ c) (hc2 : c < 2 ^ 24) (hq1 : -60 ≤ q) (hq2 : q ≤ 20) : f_X5_floatBits x = some x.toInt32.toInt64 := by
  have hno : FP.Core.val32 x ≠ .nan := by rw [h]; exact fun q => by cases q
  have hx : x = UInt32.ofNat ((q + 150).toNat * 2 ^ 23 + (c - 2 ^ 23)) := by
    have h1 := FP.Core.of32_val32 hno
    rw [h] at h1
    rw [← h1]
    unfold FP.Core.of32 FP.Core.encode
    dsimp only
    rw [if_neg (by show ¬ c < 2 ^ 23; omega)]
    unfold FP.Core.assemble
    refine congrArg UInt32.ofNat ?_
    show (0 * 256 + ((q - -149).toNat + 1)) * 2 ^ 23 + (c - 2 ^ 23) = _
    rw [show 0 * 256 + ((q - -149).toNat + 1) = (q + 150).toNat by omega]
  have hb : (q + 150).toNat * 2 ^ 23 + (c - 2 ^ 23) < 2 ^ 31 := by omega
  have hi : x.toInt32.toInt64 = Int64.ofNat ((q + 150).toNat * 2 ^ 23) + Int64.ofNat (c - 2 ^ 23) := by
    rw [hx, ← Int64.ofNat_add]
    generalize (q + 150).toNat * 2 ^ 23 + (c - 2 ^ 23) = w at hb
    show (nI w).toInt64 = Int64.ofNat w
    apply Int64.toInt_inj.mp
    rw [Int32.toInt_toInt64, nI_ti hb, Int64.toInt_ofNat_of_lt (by omega)]
  have hv : FP.Core.val64 (FP.f2d x) = .fin false (c * 2 ^ 29) (q - 29) := by
    rw [f2d_eq hno, FP.Core.val64_f2d, h]
    show FP.Core.roundRatio FP.Core.b64 false c 1 q = _
    have h52 : 2 ^ 52 ≤ c * 2 ^ 29 := by omega
    have h53 : c * 2 ^ 29 < 2 ^ 53 := by
      calc c * 2 ^ 29 < 2 ^ 24 * 2 ^ 29 := Nat.mul_lt_mul_of_pos_right hc2 (Nat.two_pow_pos _)
        _ = 2 ^ 53 := by rw [← Nat.pow_add]
    have hf := fit64 (c := c * 2 ^ 29) (q := q - 29) h52 h53 (by omega) (by omega)
    refine FP.Core.roundRatio_exact (f := FP.Core.b64) (A := c) (B := 1) (e := q) (c := c * 2 ^ 29) (q := q - 29) FP.Core.good_b64 Nat.one_pos hf ?_
    rw [show (q - (q - 29)).toNat = 29 by omega, show (q - 29 - q).toNat = 0 by omega, Nat.pow_zero, Nat.mul_one, Nat.mul_one]
  have hcm : c * 2 ^ 29 = 2 ^ 52 + (c - 2 ^ 23) * 2 ^ (52 - 23) := by omega
  have key : f_X5_bits (FP.f2d x) (nI 127) 23 (4710765210229538816 : UInt64) = some (((nI (q + 150).toNat).toInt64 <<< ((23 : Int32).toInt64 &&& 63)) + Int64.ofNat (c - 2 ^ 23)) := by
    by_cases e : q ≤ -23
    · have := bits_lo (x := FP.f2d x) (S := (4710765210229538816 : UInt64)) (c := c * 2 ^ 29) (k := (-23 - q).toNat) (B := 127) (m := c - 2 ^ 23) (w := 23) (s3 := 23) (by omega) (by omega) hcm (by rw [hv]; congr 1; omega) (by omega) (by omega) (by omega) v_s23
      rw [this, show 127 - (-23 - q).toNat = (q + 150).toNat by omega]
    · have := bits_hi (x := FP.f2d x) (S := (4710765210229538816 : UInt64)) (c := c * 2 ^ 29) (k := (q + 23).toNat) (B := 127) (m := c - 2 ^ 23) (w := 23) (s3 := 23) (by omega) (by omega) hcm (by rw [hv]; congr 1; omega) (by omega) (by omega) (by omega) v_s23
      rw [this, show 127 + (q + 23).toNat = (q + 150).toNat by omega]
  unfold f_X5_floatBits
  rw [dck_ok (f2d_no hno), Option.bind_some, show (127 : Int32) = nI 127 from rfl, key, Option.bind_some, sh23 _ (by omega), hi]
theorem fbits0 : f_X5_floatBits FP.fconst0 = some 0 := by
  have h0 : FP.Core.val32 FP.fconst0 = .fin false 0 (-149) := by decide +kernel
  have hno : FP.Core.val32 FP.fconst0 ≠ .nan := by rw [h0]; exact fun q => by cases q
  unfold f_X5_floatBits f_X5_bits
  rw [dck_ok (f2d_no hno), Option.bind_some, if_neg (by decide +kernel)]; rfl
section
variable {T : Nat} {Z : Nat → Nat}
theorem sh_bits (W : WF T Z) : f_X5_doubleBits (shX Z) = some (shX Z).toInt64 := by
  have hbl := W.blk
  by_cases e0 : blkN Z = 0 ∨ wideN Z = 0
  · have hz : shX Z = FP.dconst0 := by
      unfold shX
      by_cases e : blkN Z = 0
      · rw [if_pos e]
      · rw [if_neg e]
        have hd := d_quot (t := 0) (r := blkN Z) (by omega) (by omega) (by omega)
        have hr : FP.Core.roundRatio FP.Core.b64 false 0 (blkN Z) 0 = .fin false 0 (-1074) := by
          unfold FP.Core.roundRatio
          rw [if_pos rfl]; rfl
        rw [show wideN Z = 0 by omega]
        exact FP.Core.val64_inj (by rw [hd, hr]; exact fun q => by cases q) (by rw [hd, hr]; exact v_zero.symm)
    rw [hz, dbits0]; rfl
  · have hv := d_quot (t := wideN Z) (r := blkN Z) (by omega) (by omega) (by omega)
    obtain ⟨c, q, g1, g2, g3, g4, g5⟩ := rr_val (f := FP.Core.b64) FP.Core.good_b64 (by decide) (by decide) (A := wideN Z) (B := blkN Z) (by omega) (by omega) (by omega) (by omega)
    rw [g1] at hv
    have e : ¬ blkN Z = 0 := by omega
    unfold shX
    rw [if_neg e]
    have e1 : -24 - (((53 : Nat) : Int) - 1) ≤ q := g4
    have e2 : q ≤ 24 - (((53 : Nat) : Int) - 1) := g5
    exact dbits hv g2 g3 (by omega) (by omega)
theorem mn_bits (W : WF T Z) (hT : T < 2 ^ 24) : f_X5_floatBits (mnX Z) = some (mnX Z).toInt32.toInt64 := by
  have h41 : Z 41 ≤ T := W.2.2.2.1
  have h42 : Z 42 ≤ T := W.2.2.2.2.1
  by_cases e0 : Z 42 = 0 ∨ Z 41 = 0
  · have hz : mnX Z = FP.fconst0 := by
      unfold mnX
      by_cases e : Z 42 = 0
      · rw [if_pos e]
      · rw [if_neg e]
        have hd := f_quot (t := 0) (r := Z 42) (by omega) (by omega) (by omega)
        have hr : FP.Core.roundRatio FP.Core.b32 false 0 (Z 42) 0 = .fin false 0 (-149) := by
          unfold FP.Core.roundRatio
          rw [if_pos rfl]; rfl
        have h0 : FP.Core.val32 FP.fconst0 = .fin false 0 (-149) := by decide +kernel
        rw [show Z 41 = 0 by omega]
        exact FP.Core.val32_inj (by rw [hd, hr]; exact fun q => by cases q) (by rw [hd, hr]; exact h0.symm)
    rw [hz, fbits0]; rfl
  · have hv := f_quot (t := Z 41) (r := Z 42) (by omega) (by omega) (by omega)
    obtain ⟨c, q, g1, g2, g3, g4, g5⟩ := rr_val (f := FP.Core.b32) FP.Core.good_b32 (by decide) (by decide) (A := Z 41) (B := Z 42) (by omega) (by omega) (by omega) (by omega)
    rw [g1] at hv
    have e : ¬ Z 42 = 0 := by omega
    unfold mnX
    rw [if_neg e]
    have e1 : -24 - (((24 : Nat) : Int) - 1) ≤ q := g4
    have e2 : q ≤ 24 - (((24 : Nat) : Int) - 1) := g5
    exact fbits hv g2 g3 (by omega) (by omega)
end
