-- ===== the reference's looks =====
theorem i5 : (5 : Int32) = nI 5 := rfl
theorem i6 : (6 : Int32) = nI 6 := rfl
theorem i7 : (7 : Int32) = nI 7 := rfl
theorem i8 : (8 : Int32) = nI 8 := rfl
theorem i9 : (9 : Int32) = nI 9 := rfl
theorem i12 : (12 : Int32) = nI 12 := rfl
theorem i36 : (36 : Int32) = nI 36 := rfl
theorem i40 : (40 : Int32) = nI 40 := rfl
theorem i41 : (41 : Int32) = nI 41 := rfl
theorem i48 : (48 : Int32) = nI 48 := rfl
theorem i96 : (96 : Int32) = nI 96 := rfl
theorem kI_n {k : Nat} (h : k ≤ 3) : (kI k = -nI 1) ↔ k = 0 := kI_m h
theorem bck_b (b : Bool) : bck (bI b) = some (bI b) := by cases b <;> rfl
section
variable {T : Nat} {Z : Nat → Nat} {b s : Nat}
theorem e_mod {n : Nat} (h : n < 2 ^ 31) : nI n - nI n / nI 2 * nI 2 = nI (n % 2) := pk_rem h (by omega) (by omega)
end
