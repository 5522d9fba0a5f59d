-- ===== the law's loop =====
theorem Iv.mono {T T' : Nat} {v : VA} (h : Iv T v) (hT : T ≤ T') : Iv T' v := Iv.thr (t := v.2.1.1) (t' := v.2.1.1) (m2 := v.2.1.2) (o := v.2.2) (o' := v.2.2) (c := v.1) h hT
theorem Ok.fin {T T' : Nat} {g : (VA → Option Unit) → Option Unit} {K : VA → Option Unit} (h : Ok T g) (hT : T ≤ T') (hK : ∀ v', Iv T' v' → K v' = some ()) : g K = some () := by
  obtain ⟨v', h1, h2⟩ := h
  rw [h2]
  exact hK v' (h1.mono hT)
section
variable {T Ln i : Nat} {sc : Nat → Int32} {v : VA} {K : VA → Option Unit}
theorem st_0 (hI : Iv T v) (hT : T < 15900000) (hL : Ln ≤ 2560) (hi : i + 5 ≤ Ln) (hK : ∀ v', Iv (T + 18000) v' → K v' = some ()) : g_0 Ln sc (nI i) v K = some () := by
  unfold g_0
  rw [show (nI i + 1 : Int32) = nI (i + 1) from nI_add i 1, p_ard (show i + 1 < Ln by omega) (by omega), Option.bind_some]
  rw [show (nI i + 2 : Int32) = nI (i + 2) from nI_add i 2, p_ard (show i + 2 < Ln by omega) (by omega), Option.bind_some]
  rw [show (nI i + 3 : Int32) = nI (i + 3) from nI_add i 3, p_ard (show i + 3 < Ln by omega) (by omega), Option.bind_some]
  rw [show (nI i + 4 : Int32) = nI (i + 4) from nI_add i 4, p_ard (show i + 4 < Ln by omega) (by omega), Option.bind_some]
  exact Ok.fin (op_plug v.1 v.2.1 v.2.2 _ _ _ _ hI) (by omega) hK
theorem st_1 (hI : Iv T v) (hT : T < 15900000) (hL : Ln ≤ 2560) (hi : i + 5 ≤ Ln) (hK : ∀ v', Iv (T + 18000) v' → K v' = some ()) : g_1 Ln sc (nI i) v K = some () := by
  unfold g_1
  rw [show (nI i + 1 : Int32) = nI (i + 1) from nI_add i 1, p_ard (show i + 1 < Ln by omega) (by omega), Option.bind_some]
  exact Ok.fin (op_pull v.1 v.2.1 v.2.2 _ hI) (by omega) hK
theorem st_2 (hI : Iv T v) (hT : T < 15900000) (hL : Ln ≤ 2560) (hi : i + 5 ≤ Ln) (hK : ∀ v', Iv (T + 18000) v' → K v' = some ()) : g_2 Ln sc (nI i) v K = some () := by
  unfold g_2
  rw [show (nI i + 1 : Int32) = nI (i + 1) from nI_add i 1, p_ard (show i + 1 < Ln by omega) (by omega), Option.bind_some]
  exact Ok.fin (op_fail v.1 v.2.1 v.2.2 _ hI) (by omega) hK
theorem st_3 (hI : Iv T v) (hT : T < 15900000) (hL : Ln ≤ 2560) (hi : i + 5 ≤ Ln) (hK : ∀ v', Iv (T + 18000) v' → K v' = some ()) : g_3 Ln sc (nI i) v K = some () := by
  exact Ok.fin (op_start v.1 v.2.1 v.2.2 hI) (by omega) hK
theorem st_4 (hI : Iv T v) (hT : T < 15900000) (hL : Ln ≤ 2560) (hi : i + 5 ≤ Ln) (hK : ∀ v', Iv (T + 18000) v' → K v' = some ()) : g_4 Ln sc (nI i) v K = some () := by
  exact Ok.fin (op_stop v.1 v.2.1 v.2.2 hI) (by omega) hK
theorem st_5 (hI : Iv T v) (hT : T < 15900000) (hL : Ln ≤ 2560) (hi : i + 5 ≤ Ln) (hK : ∀ v', Iv (T + 18000) v' → K v' = some ()) : g_5 Ln sc (nI i) v K = some () := by
  unfold g_5
  rw [show (nI i + 1 : Int32) = nI (i + 1) from nI_add i 1, p_ard (show i + 1 < Ln by omega) (by omega), Option.bind_some]
  rw [show (nI i + 2 : Int32) = nI (i + 2) from nI_add i 2, p_ard (show i + 2 < Ln by omega) (by omega), Option.bind_some]
  exact Ok.fin (op_write v.1 v.2.1 v.2.2 _ _ hI) (by omega) hK
theorem st_6 (hI : Iv T v) (hT : T < 15900000) (hL : Ln ≤ 2560) (hi : i + 5 ≤ Ln) (hK : ∀ v', Iv (T + 18000) v' → K v' = some ()) : g_6 Ln sc (nI i) v K = some () := by
  unfold g_6
  rw [show (nI i + 1 : Int32) = nI (i + 1) from nI_add i 1, p_ard (show i + 1 < Ln by omega) (by omega), Option.bind_some]
  exact Ok.fin (op_read (by omega) v.1 v.2.1 v.2.2 _ hI) (by omega) hK
theorem st_7 (hI : Iv T v) (hT : T < 15900000) (hL : Ln ≤ 2560) (hi : i + 5 ≤ Ln) (hK : ∀ v', Iv (T + 18000) v' → K v' = some ()) : g_7 Ln sc (nI i) v K = some () := by
  unfold g_7
  rw [show (nI i + 1 : Int32) = nI (i + 1) from nI_add i 1, p_ard (show i + 1 < Ln by omega) (by omega), Option.bind_some]
  exact Ok.fin (op_rest v.1 v.2.1 v.2.2 _ hI) (by omega) hK
theorem st_8 (hI : Iv T v) (hT : T < 15900000) (hL : Ln ≤ 2560) (hi : i + 5 ≤ Ln) (hK : ∀ v', Iv (T + 18000) v' → K v' = some ()) : g_8 Ln sc (nI i) v K = some () := by
  unfold g_8
  rw [show (nI i + 1 : Int32) = nI (i + 1) from nI_add i 1, p_ard (show i + 1 < Ln by omega) (by omega), Option.bind_some]
  rw [show (nI i + 2 : Int32) = nI (i + 2) from nI_add i 2, p_ard (show i + 2 < Ln by omega) (by omega), Option.bind_some]
  exact Ok.fin (op_set v.1 v.2.1 v.2.2 _ _ hI) (by omega) hK
theorem st_9 (hI : Iv T v) (hT : T < 15900000) (hL : Ln ≤ 2560) (hi : i + 5 ≤ Ln) (hK : ∀ v', Iv (T + 18000) v' → K v' = some ()) : g_9 Ln sc (nI i) v K = some () := by
  unfold g_9
  rw [show (nI i + 1 : Int32) = nI (i + 1) from nI_add i 1, p_ard (show i + 1 < Ln by omega) (by omega), Option.bind_some]
  exact Ok.fin (op_append v.1 v.2.1 v.2.2 _ hI) (by omega) hK
theorem st_10 (hI : Iv T v) (hT : T < 15900000) (hL : Ln ≤ 2560) (hi : i + 5 ≤ Ln) (hK : ∀ v', Iv (T + 18000) v' → K v' = some ()) : g_10 Ln sc (nI i) v K = some () := by
  exact Ok.fin (op_clear v.1 v.2.1 v.2.2 hI) (by omega) hK
theorem st_11 (hI : Iv T v) (hT : T < 15900000) (hL : Ln ≤ 2560) (hi : i + 5 ≤ Ln) (hK : ∀ v', Iv (T + 18000) v' → K v' = some ()) : g_11 Ln sc (nI i) v K = some () := by
  exact Ok.fin (op_first v.1 v.2.1 v.2.2 hI) (by omega) hK
theorem st_12 (hI : Iv T v) (hT : T < 15900000) (hL : Ln ≤ 2560) (hi : i + 5 ≤ Ln) (hK : ∀ v', Iv (T + 18000) v' → K v' = some ()) : g_12 Ln sc (nI i) v K = some () := by
  exact Ok.fin (op_run (by omega) v.1 v.2.1 v.2.2 hI) (by omega) hK
theorem st_13 (hI : Iv T v) (hT : T < 15900000) (hL : Ln ≤ 2560) (hi : i + 5 ≤ Ln) (hK : ∀ v', Iv (T + 18000) v' → K v' = some ()) : g_13 Ln sc (nI i) v K = some () := by
  exact Ok.fin (op_keep v.1 v.2.1 v.2.2 hI) (by omega) hK
theorem st_14 (hI : Iv T v) (hT : T < 15900000) (hL : Ln ≤ 2560) (hi : i + 5 ≤ Ln) (hK : ∀ v', Iv (T + 18000) v' → K v' = some ()) : g_14 Ln sc (nI i) v K = some () := by
  exact Ok.fin (op_goBack v.1 v.2.1 v.2.2 hI) (by omega) hK
theorem st_15 (hI : Iv T v) (hT : T < 15900000) (hL : Ln ≤ 2560) (hi : i + 5 ≤ Ln) (hK : ∀ v', Iv (T + 18000) v' → K v' = some ()) : g_15 Ln sc (nI i) v K = some () := by
  exact Ok.fin (op_undo v.1 v.2.1 v.2.2 hI) (by omega) hK
theorem st_16 (hI : Iv T v) (hT : T < 15900000) (hL : Ln ≤ 2560) (hi : i + 5 ≤ Ln) (hK : ∀ v', Iv (T + 18000) v' → K v' = some ()) : g_16 Ln sc (nI i) v K = some () := by
  unfold g_16
  rw [show (nI i + 1 : Int32) = nI (i + 1) from nI_add i 1, p_ard (show i + 1 < Ln by omega) (by omega), Option.bind_some]
  rw [show (nI i + 2 : Int32) = nI (i + 2) from nI_add i 2, p_ard (show i + 2 < Ln by omega) (by omega), Option.bind_some]
  exact Ok.fin (op_slot v.1 v.2.1 v.2.2 _ _ hI) (by omega) hK
theorem st_17 (hI : Iv T v) (hT : T < 15900000) (hL : Ln ≤ 2560) (hi : i + 5 ≤ Ln) (hK : ∀ v', Iv (T + 18000) v' → K v' = some ()) : g_17 Ln sc (nI i) v K = some () := by
  unfold g_17
  rw [show (nI i + 1 : Int32) = nI (i + 1) from nI_add i 1, p_ard (show i + 1 < Ln by omega) (by omega), Option.bind_some]
  rw [show (nI i + 2 : Int32) = nI (i + 2) from nI_add i 2, p_ard (show i + 2 < Ln by omega) (by omega), Option.bind_some]
  exact Ok.fin (op_where v.1 v.2.1 v.2.2 _ _ hI) (by omega) hK
theorem st_18 (hI : Iv T v) (hT : T < 15900000) (hL : Ln ≤ 2560) (hi : i + 5 ≤ Ln) (hK : ∀ v', Iv (T + 18000) v' → K v' = some ()) : g_18 Ln sc (nI i) v K = some () := by
  unfold g_18
  rw [show (nI i + 1 : Int32) = nI (i + 1) from nI_add i 1, p_ard (show i + 1 < Ln by omega) (by omega), Option.bind_some]
  rw [show (nI i + 2 : Int32) = nI (i + 2) from nI_add i 2, p_ard (show i + 2 < Ln by omega) (by omega), Option.bind_some]
  exact Ok.fin (op_lies v.1 v.2.1 v.2.2 _ _ hI) (by omega) hK
theorem st_19 (hI : Iv T v) (hT : T < 15900000) (hL : Ln ≤ 2560) (hi : i + 5 ≤ Ln) (hK : ∀ v', Iv (T + 18000) v' → K v' = some ()) : g_19 Ln sc (nI i) v K = some () := by
  unfold g_19
  rw [show (nI i + 1 : Int32) = nI (i + 1) from nI_add i 1, p_ard (show i + 1 < Ln by omega) (by omega), Option.bind_some]
  exact Ok.fin (op_count v.1 v.2.1 v.2.2 _ hI) (by omega) hK
theorem st_20 (hI : Iv T v) (hT : T < 15900000) (hL : Ln ≤ 2560) (hi : i + 5 ≤ Ln) (hK : ∀ v', Iv (T + 18000) v' → K v' = some ()) : g_20 Ln sc (nI i) v K = some () := by
  unfold g_20
  rw [show (nI i + 1 : Int32) = nI (i + 1) from nI_add i 1, p_ard (show i + 1 < Ln by omega) (by omega), Option.bind_some]
  exact Ok.fin (op_setting v.1 v.2.1 v.2.2 _ hI) (by omega) hK
theorem st_21 (hI : Iv T v) (hT : T < 15900000) (hL : Ln ≤ 2560) (hi : i + 5 ≤ Ln) (hK : ∀ v', Iv (T + 18000) v' → K v' = some ()) : g_21 Ln sc (nI i) v K = some () := by
  exact Ok.fin (op_why v.1 v.2.1 v.2.2 hI) (by omega) hK
theorem st_22 (hI : Iv T v) (hT : T < 15900000) (hL : Ln ≤ 2560) (hi : i + 5 ≤ Ln) (hK : ∀ v', Iv (T + 18000) v' → K v' = some ()) : g_22 Ln sc (nI i) v K = some () := by
  unfold g_22
  rw [show (nI i + 1 : Int32) = nI (i + 1) from nI_add i 1, p_ard (show i + 1 < Ln by omega) (by omega), Option.bind_some]
  exact Ok.fin (op_sweep (by omega) v.1 v.2.1 v.2.2 _ hI) (by omega) hK
theorem st_23 (hI : Iv T v) (hT : T < 15900000) (hL : Ln ≤ 2560) (hi : i + 5 ≤ Ln) (hK : ∀ v', Iv (T + 18000) v' → K v' = some ()) : g_23 Ln sc (nI i) v K = some () := by
  unfold g_23
  rw [show (nI i + 1 : Int32) = nI (i + 1) from nI_add i 1, p_ard (show i + 1 < Ln by omega) (by omega), Option.bind_some]
  rw [show (nI i + 2 : Int32) = nI (i + 2) from nI_add i 2, p_ard (show i + 2 < Ln by omega) (by omega), Option.bind_some]
  exact Ok.fin (op_ifStarted v.1 v.2.1 v.2.2 _ _ hI) (by omega) hK
theorem st_24 (hI : Iv T v) (hT : T < 15900000) (hL : Ln ≤ 2560) (hi : i + 5 ≤ Ln) (hK : ∀ v', Iv (T + 18000) v' → K v' = some ()) : g_24 Ln sc (nI i) v K = some () := by
  exact Ok.fin (op_best v.1 v.2.1 v.2.2 hI) (by omega) hK
theorem st_25 (hI : Iv T v) (hT : T < 15900000) (hL : Ln ≤ 2560) (hi : i + 5 ≤ Ln) (hK : ∀ v', Iv (T + 18000) v' → K v' = some ()) : g_25 Ln sc (nI i) v K = some () := by
  exact Ok.fin (op_share v.1 v.2.1 v.2.2 hI) (by omega) hK
theorem st_26 (hI : Iv T v) (hT : T < 15900000) (hL : Ln ≤ 2560) (hi : i + 5 ≤ Ln) (hK : ∀ v', Iv (T + 18000) v' → K v' = some ()) : g_26 Ln sc (nI i) v K = some () := by
  exact Ok.fin (op_mean (by omega) v.1 v.2.1 v.2.2 hI) (by omega) hK
theorem st_27 (hI : Iv T v) (hT : T < 15900000) (hL : Ln ≤ 2560) (hi : i + 5 ≤ Ln) (hK : ∀ v', Iv (T + 18000) v' → K v' = some ()) : g_27 Ln sc (nI i) v K = some () := by
  exact Ok.fin (op_digest (by omega) v.1 v.2.1 v.2.2 hI) (by omega) hK
end
theorem end_or (Ln i : Nat) (hL : Ln ≤ 2560) (hi : i ≤ 100000) : (Int32.ofNat Ln - 5 < nI i) ↔ Ln < i + 5 := by
  show (nI Ln - nI 5 < nI i) ↔ _
  by_cases e : 5 ≤ Ln
  · rw [pk_sub e, nI_ltI (by omega) (by omega)]
    omega
  · have h5 : ∀ a, a < 5 → nI a - nI 5 < 0 := by decide
    constructor
    · intro _; omega
    · intro _
      have h1 := h5 Ln (by omega)
      have h2 : ¬ nI i < 0 := nI_pos (by omega)
      rw [Int32.lt_iff_toInt_lt] at h1 h2 ⊢
      omega
theorem law_go {Ln : Nat} {sc : Nat → Int32} (hL : Ln ≤ 2560) : ∀ (d i T : Nat) (v : VA), Iv T v → T + 18000 * d < 15900000 → i ≤ 10000 → Ln < i + 5 + 5 * d → g_law Ln sc (d + 1) (nI i) v = some () := by
  intro d
  induction d with
  | zero =>
    intro i T v hI hT hi hd
    rw [g_law, if_pos ((end_or Ln i hL (by omega)).mpr (by omega))]
  | succ d ih =>
    intro i T v hI hT hi hd
    by_cases e : Ln < i + 5
    · rw [g_law, if_pos ((end_or Ln i hL (by omega)).mpr e)]
    have hK : ∀ v', Iv (T + 18000) v' → (fun v => g_law Ln sc (d + 1) (nI i + 5) v) v' = some () := fun v' hv => by
      show g_law Ln sc (d + 1) (nI i + 5) v' = some ()
      rw [show (nI i + 5 : Int32) = nI (i + 5) from nI_add i 5]
      exact ih (i + 5) (T + 18000) v' hv (by omega) (by omega) (by omega)
    have hT' : T < 15900000 := by omega
    have hi' : i + 5 ≤ Ln := by omega
    rw [g_law, if_neg (fun q => e ((end_or Ln i hL (by omega)).mp q)), p_ard (show i < Ln by omega) (by omega), Option.bind_some]
    by_cases e0 : sc i &&& 31 = 0
    · rw [if_pos e0]; exact st_0 hI hT' hL hi' hK
    rw [if_neg e0]
    by_cases e1 : sc i &&& 31 = 1
    · rw [if_pos e1]; exact st_1 hI hT' hL hi' hK
    rw [if_neg e1]
    by_cases e2 : sc i &&& 31 = 2
    · rw [if_pos e2]; exact st_2 hI hT' hL hi' hK
    rw [if_neg e2]
    by_cases e3 : sc i &&& 31 = 3
    · rw [if_pos e3]; exact st_3 hI hT' hL hi' hK
    rw [if_neg e3]
    by_cases e4 : sc i &&& 31 = 4
    · rw [if_pos e4]; exact st_4 hI hT' hL hi' hK
    rw [if_neg e4]
    by_cases e5 : sc i &&& 31 = 5
    · rw [if_pos e5]; exact st_5 hI hT' hL hi' hK
    rw [if_neg e5]
    by_cases e6 : sc i &&& 31 = 6
    · rw [if_pos e6]; exact st_6 hI hT' hL hi' hK
    rw [if_neg e6]
    by_cases e7 : sc i &&& 31 = 7
    · rw [if_pos e7]; exact st_7 hI hT' hL hi' hK
    rw [if_neg e7]
    by_cases e8 : sc i &&& 31 = 8
    · rw [if_pos e8]; exact st_8 hI hT' hL hi' hK
    rw [if_neg e8]
    by_cases e9 : sc i &&& 31 = 9
    · rw [if_pos e9]; exact st_9 hI hT' hL hi' hK
    rw [if_neg e9]
    by_cases e10 : sc i &&& 31 = 10
    · rw [if_pos e10]; exact st_10 hI hT' hL hi' hK
    rw [if_neg e10]
    by_cases e11 : sc i &&& 31 = 11
    · rw [if_pos e11]; exact st_11 hI hT' hL hi' hK
    rw [if_neg e11]
    by_cases e12 : sc i &&& 31 = 12
    · rw [if_pos e12]; exact st_12 hI hT' hL hi' hK
    rw [if_neg e12]
    by_cases e13 : sc i &&& 31 = 13
    · rw [if_pos e13]; exact st_13 hI hT' hL hi' hK
    rw [if_neg e13]
    by_cases e14 : sc i &&& 31 = 14
    · rw [if_pos e14]; exact st_14 hI hT' hL hi' hK
    rw [if_neg e14]
    by_cases e15 : sc i &&& 31 = 15
    · rw [if_pos e15]; exact st_15 hI hT' hL hi' hK
    rw [if_neg e15]
    by_cases e16 : sc i &&& 31 = 16
    · rw [if_pos e16]; exact st_16 hI hT' hL hi' hK
    rw [if_neg e16]
    by_cases e17 : sc i &&& 31 = 17
    · rw [if_pos e17]; exact st_17 hI hT' hL hi' hK
    rw [if_neg e17]
    by_cases e18 : sc i &&& 31 = 18
    · rw [if_pos e18]; exact st_18 hI hT' hL hi' hK
    rw [if_neg e18]
    by_cases e19 : sc i &&& 31 = 19
    · rw [if_pos e19]; exact st_19 hI hT' hL hi' hK
    rw [if_neg e19]
    by_cases e20 : sc i &&& 31 = 20
    · rw [if_pos e20]; exact st_20 hI hT' hL hi' hK
    rw [if_neg e20]
    by_cases e21 : sc i &&& 31 = 21
    · rw [if_pos e21]; exact st_21 hI hT' hL hi' hK
    rw [if_neg e21]
    by_cases e22 : sc i &&& 31 = 22
    · rw [if_pos e22]; exact st_22 hI hT' hL hi' hK
    rw [if_neg e22]
    by_cases e23 : sc i &&& 31 = 23
    · rw [if_pos e23]; exact st_23 hI hT' hL hi' hK
    rw [if_neg e23]
    by_cases e24 : sc i &&& 31 = 24
    · rw [if_pos e24]; exact st_24 hI hT' hL hi' hK
    rw [if_neg e24]
    by_cases e25 : sc i &&& 31 = 25
    · rw [if_pos e25]; exact st_25 hI hT' hL hi' hK
    rw [if_neg e25]
    by_cases e26 : sc i &&& 31 = 26
    · rw [if_pos e26]; exact st_26 hI hT' hL hi' hK
    rw [if_neg e26]
    by_cases e27 : sc i &&& 31 = 27
    · rw [if_pos e27]; exact st_27 hI hT' hL hi' hK
    rw [if_neg e27]
    exact hK v (hI.mono (by omega))
def Z00 : Nat → Nat := fun k => if k = 47 then 1 else 0
theorem Iv0 : Iv 0 VA0 := by
  have e : ∀ k, k ≠ 47 → Z00 k = 0 := fun k h => if_neg h
  have e47 : Z00 47 = 1 := rfl
  have hb : blkN Z00 = 0 := rfl
  have W : WF 0 Z00 := by
    refine ⟨fun s hs => ?_, by rw [e 40 (by omega)]; omega, fun _ s hs => ⟨e _ (by omega), e _ (by omega)⟩, by rw [e 41 (by omega)]; omega, by rw [e 42 (by omega)]; omega, by rw [e 43 (by omega)]; omega, by rw [e 44 (by omega)]; omega, by rw [e 45 (by omega)]; omega, by rw [e 46 (by omega)]; omega, by rw [e47]; omega, fun k h1 _ => by rw [e k (by omega)]; omega, fun q => ?_⟩
    · rw [e (9 * s) (by omega), e (9 * s + 1) (by omega), e (9 * s + 2) (by omega), e (9 * s + 3) (by omega), e (9 * s + 4) (by omega), e (9 * s + 5) (by omega), e (9 * s + 6) (by omega), e (9 * s + 7) (by omega), e (9 * s + 8) (by omega), e (36 + s) (by omega)]
      omega
    · rw [e 40 (by omega)] at q
      omega
  refine ⟨Z00, fun _ => Z00, 0, Z00, 0, fun _ => 0, 0, ⟨W, ⟨fun s hs => ?_, ⟨rfl, fun s hs => ?_, rfl, rfl, rfl, rfl, rfl⟩, ⟨fun s hs => ?_, rfl, rfl⟩, fun b hb2 => ?_, rfl, rfl, rfl, rfl, rfl⟩, fun k hk => ?_, by omega, rfl, rfl, ⟨fun i hi => ?_, fun i j _ _ h => ?_⟩, fun i hi => absurd hi (Nat.not_lt_zero i), by omega, rfl, rfl, fun q => absurd q (by omega)⟩, by omega, rfl, rfl, fun i hi => absurd hi (Nat.not_lt_zero i)⟩
  · have g : ∀ j, gt Z00 s j = 0 := fun j => by unfold gt; rw [e (9 * s) (by omega)]; rfl
    rw [g, g, g, g, g, e (9 * s + 5) (by omega)]
    exact ⟨rfl, rfl, rfl, rfl, rfl, rfl⟩
  · rw [e (36 + s) (by omega)]; rfl
  · rw [e (9 * s + 6) (by omega), e (9 * s + 7) (by omega)]
    exact ⟨rfl, rfl⟩
  · rw [hb] at hb2
    omega
  · show z0 k = zOf Z00 k
    unfold z0 zOf
    by_cases a : k = 40
    · subst a; rfl
    · by_cases b : k = 47
      · subst b; rfl
      · rw [if_neg a, e k b]
        rw [upd_ne _ _ b, upd_ne _ _ a]; rfl
  · show 2 ≤ 2 + i ∧ 2 + i < 8
    omega
  · have h' : 2 + i = 2 + j := h
    omega
theorem law_true (Ln : Nat) (sc : Nat → Int32) (h : Ln ≤ 2560) : ∃ n, n ≤ 600000 ∧ g_law Ln sc n 0 VA0 = some () :=
  ⟨512 + 1, by omega, law_go h 512 0 0 VA0 Iv0 (by omega) (by omega) (by omega)⟩
