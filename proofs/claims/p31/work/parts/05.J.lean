-- ===== the good words of the tables; every method carries them =====
def gw : List Cond := lw_tbl.filter goodWord
theorem gwm {w : Cond} {i : Nat} (h : lw_tbl[i]? = some w) (g : goodWord w = true) : w ∈ gw := List.mem_filter.mpr ⟨List.mem_of_getElem? h, g⟩
theorem gw_good {w : Cond} (h : w ∈ gw) : goodWord w = true := (List.mem_filter.mp h).2
theorem gw_in {ws : List Cond} (h : ∀ w ∈ ws, w ∈ gw) : GoodIn gw ws := fun w hw => ⟨h w hw, good_of_word (gw_good (h w hw))⟩
abbrev gws (y : MethodName) (cc : ByteArray) (n : Nat) (ret : Option FieldType) : List Cond := Cond.code y cc n ret :: gw
theorem gws_in {y : MethodName} {cc : ByteArray} {n : Nat} {ret : Option FieldType} (h : Cond.code y cc n ret ∈ gw) : GoodIn gw (gws y cc n ret) := gw_in (fun w hw => by
  rcases List.mem_cons.mp hw with e | e
  · rw [e]; exact h
  · exact e)
-- ===== the values of the system =====
abbrev VSk : Type := (Nat → Int32) × (Nat → Int32) × (Nat → Int32) × (Nat → Int32) × (Nat → Int32) × (Nat → Int32)
abbrev VLy : Type := Int32 × (Nat → Int32) × Int32 × Int32 × Int32 × Int32 × Int32
abbrev VCk : Type := (Nat → Int32) × Int32 × Int32
abbrev VI5 : Type := Int32 × Int32 × Int32 × Int32 × Int32
abbrev VSt : Type := VSk × VLy × VCk × (Nat → Int32) × VI5
abbrev VTx : Type := (Nat → Int32) × Int32 × (Nat → Int32) × (Nat → Int32) × Int32 × Int32 × Int32
abbrev VSp : Type := Int32 × Int32 × (Nat → Nat)
abbrev VC : Type := (Nat → VSk) × (Nat → VLy) × (Nat → VCk) × (Nat → Nat → Int32) × (Nat → VI5) × VTx × VSp
abbrev VW : Type := Nat → Nat × (Nat → Int32)
/-- the law's five rows -/
abbrev VRw : Type := (Nat → Int32) × (Nat → Int32) × (Nat → Int32) × (Nat → Int32) × (Nat → Int32)
abbrev VA : Type := VC × VW
-- setting parts
def sSk (c : VC) (k : Nat) (v : VSk) : VC := (va_up c.1 k v, c.2)
def sLy (c : VC) (k : Nat) (v : VLy) : VC := (c.1, va_up c.2.1 k v, c.2.2)
def sCk (c : VC) (k : Nat) (v : VCk) : VC := (c.1, c.2.1, va_up c.2.2.1 k v, c.2.2.2)
def sVl (c : VC) (k : Nat) (v : Nat → Int32) : VC := (c.1, c.2.1, c.2.2.1, va_up c.2.2.2.1 k v, c.2.2.2.2)
def sI5 (c : VC) (k : Nat) (v : VI5) : VC := (c.1, c.2.1, c.2.2.1, c.2.2.2.1, va_up c.2.2.2.2.1 k v, c.2.2.2.2.2)
def sTx (c : VC) (v : VTx) : VC := (c.1, c.2.1, c.2.2.1, c.2.2.2.1, c.2.2.2.2.1, v, c.2.2.2.2.2.2)
def sSp (c : VC) (v : VSp) : VC := (c.1, c.2.1, c.2.2.1, c.2.2.2.1, c.2.2.2.2.1, c.2.2.2.2.2.1, v)
def gSt (c : VC) (k : Nat) : VSt := (c.1 k, c.2.1 k, c.2.2.1 k, c.2.2.2.1 k, c.2.2.2.2.1 k)
def sSt (c : VC) (k : Nat) (v : VSt) : VC := (va_up c.1 k v.1, va_up c.2.1 k v.2.1, va_up c.2.2.1 k v.2.2.1, va_up c.2.2.2.1 k v.2.2.2.1, va_up c.2.2.2.2.1 k v.2.2.2.2, c.2.2.2.2.2)
theorem va_up_up {α : Type} (f : Nat → α) (k : Nat) (a b : α) : va_up (va_up f k a) k b = va_up f k b := by funext j; unfold va_up; split <;> rfl
theorem va_up_id {α : Type} (f : Nat → α) (k : Nat) {a : α} (h : f k = a) : va_up f k a = f := by funext j; unfold va_up; split <;> simp_all
theorem sSk_id {c : VC} {k : Nat} {v : VSk} (h : c.1 k = v) : sSk c k v = c := by unfold sSk; rw [va_up_id _ _ h]
theorem sSk_get (c : VC) (k : Nat) (v : VSk) : (sSk c k v).1 k = v := va_up_self _ _ _
theorem sSk_up (c : VC) (k : Nat) (v w : VSk) : sSk (sSk c k v) k w = sSk c k w := by unfold sSk; simp only [va_up_up]
theorem sLy_id {c : VC} {k : Nat} {v : VLy} (h : c.2.1 k = v) : sLy c k v = c := by unfold sLy; rw [va_up_id _ _ h]
theorem sLy_get (c : VC) (k : Nat) (v : VLy) : (sLy c k v).2.1 k = v := va_up_self _ _ _
theorem sLy_up (c : VC) (k : Nat) (v w : VLy) : sLy (sLy c k v) k w = sLy c k w := by unfold sLy; simp only [va_up_up]
theorem sCk_id {c : VC} {k : Nat} {v : VCk} (h : c.2.2.1 k = v) : sCk c k v = c := by unfold sCk; rw [va_up_id _ _ h]
theorem sCk_get (c : VC) (k : Nat) (v : VCk) : (sCk c k v).2.2.1 k = v := va_up_self _ _ _
theorem sCk_up (c : VC) (k : Nat) (v w : VCk) : sCk (sCk c k v) k w = sCk c k w := by unfold sCk; simp only [va_up_up]
theorem sTx_id {c : VC} {v : VTx} (h : c.2.2.2.2.2.1 = v) : sTx c v = c := by subst h; rfl
theorem sSt_id {c : VC} {k : Nat} {v : VSt} (h : gSt c k = v) : sSt c k v = c := by subst h; unfold sSt gSt; simp only [va_up_id _ _ rfl]
theorem sSt_get (c : VC) (k : Nat) (v : VSt) : gSt (sSt c k v) k = v := by unfold sSt gSt; simp only [va_up_self]
theorem sSt_up (c : VC) (k : Nat) (v w : VSt) : sSt (sSt c k v) k w = sSt c k w := by unfold sSt; simp only [va_up_up]
theorem sSt_g1 (c : VC) (k : Nat) (v : VSt) : (sSt c k v).1 k = v.1 := va_up_self _ _ _
theorem sSt_g2 (c : VC) (k : Nat) (v : VSt) : (sSt c k v).2.1 k = v.2.1 := va_up_self _ _ _
theorem sSt_g3 (c : VC) (k : Nat) (v : VSt) : (sSt c k v).2.2.1 k = v.2.2.1 := va_up_self _ _ _
theorem sSt_g4 (c : VC) (k : Nat) (v : VSt) : (sSt c k v).2.2.2.1 k = v.2.2.2.1 := va_up_self _ _ _
theorem sSt_g5 (c : VC) (k : Nat) (v : VSt) : (sSt c k v).2.2.2.2.1 k = v.2.2.2.2 := va_up_self _ _ _
theorem sSt_sSk (c : VC) (k : Nat) (v : VSt) (w : VSk) : sSk (sSt c k v) k w = sSt c k (w, v.2) := by unfold sSk sSt; simp only [va_up_up]
theorem sSt_sLy (c : VC) (k : Nat) (v : VSt) (w : VLy) : sLy (sSt c k v) k w = sSt c k (v.1, w, v.2.2) := by unfold sLy sSt; simp only [va_up_up]
theorem sSt_sCk (c : VC) (k : Nat) (v : VSt) (w : VCk) : sCk (sSt c k v) k w = sSt c k (v.1, v.2.1, w, v.2.2.2) := by unfold sCk sSt; simp only [va_up_up]
theorem sSt_sVl (c : VC) (k : Nat) (v : VSt) (w : Nat → Int32) : sVl (sSt c k v) k w = sSt c k (v.1, v.2.1, v.2.2.1, w, v.2.2.2.2) := by unfold sVl sSt; simp only [va_up_up]
theorem sSt_sI5 (c : VC) (k : Nat) (v : VSt) (w : VI5) : sI5 (sSt c k v) k w = sSt c k (v.1, v.2.1, v.2.2.1, v.2.2.2.1, w) := by unfold sI5 sSt; simp only [va_up_up]
-- ===== the cells =====
abbrev cI (cA : ClassId) (n : Nat) (f : Nat → Int32) : va_E := .inl (cA, n, .inl f)
def cSp (ad : Nat → Nat) (v : VSp) : va_E := .inr (5, [.ref (ad 6), .ref (ad 8), .int v.1, .ref (ad 1), .int v.2.1, .ref (ad 2), .ref (ad 94), .ref (ad 112)])
def cSv (cy : Nat → ClassId) (ad : Nat → Nat) (v : VSp) : va_E := .inl (cy 2, 6, .inr (.inr (.inr (.inr (fun i => some (ad (6 + 2 * min (v.2.2 i) 7)))))))
def cTx (ad : Nat → Nat) (v : VTx) : va_E := .inr (4, [.ref (ad 3), .int v.2.1, .ref (ad 4), .ref (ad 5), .int v.2.2.2.2.1, .int v.2.2.2.2.2.1, .int v.2.2.2.2.2.2])
def cSt (ad : Nat → Nat) (k : Nat) (v : VI5) : va_E := .inr (2, [.ref (ad (22 + 7 * k)), .ref (ad (78 + 2 * k)), .ref (ad (96 + 2 * k)), .ref (ad (7 + 2 * k)), .int v.1, .int v.2.1, .int v.2.2.1, .int v.2.2.2.1, .int v.2.2.2.2])
def cSk (ad : Nat → Nat) (k : Nat) : va_E := .inr (3, [.ref (ad (23 + 7 * k)), .ref (ad (24 + 7 * k)), .ref (ad (25 + 7 * k)), .ref (ad (26 + 7 * k)), .ref (ad (27 + 7 * k)), .ref (ad (28 + 7 * k))])
def cLy (ad : Nat → Nat) (k : Nat) (v : VLy) : va_E := .inr (1, [.int v.1, .ref (ad (79 + 2 * k)), .int v.2.2.1, .int v.2.2.2.1, .int v.2.2.2.2.1, .int v.2.2.2.2.2.1, .int v.2.2.2.2.2.2])
def cCk (ad : Nat → Nat) (k : Nat) (v : VCk) : va_E := .inr (0, [.ref (ad (97 + 2 * k)), .int v.2.1, .int v.2.2])
def skC (cy : Nat → ClassId) (ad : Nat → Nat) (k : Nat) (v : VSk) (j : Nat) : va_E :=
  if j = 0 then cSk ad k else if j = 1 then cI (cy 0) 4 v.1 else if j = 2 then cI (cy 0) 4 v.2.1 else if j = 3 then cI (cy 0) 4 v.2.2.1 else if j = 4 then cI (cy 0) 4 v.2.2.2.1 else if j = 5 then cI (cy 1) 4 v.2.2.2.2.1 else cI (cy 1) 4 v.2.2.2.2.2
def spC (cy : Nat → ClassId) (ad : Nat → Nat) (t : VTx) (v : VSp) (j : Nat) : va_E :=
  if j = 0 then cSp ad v else if j = 1 then cSv cy ad v else if j = 2 then cTx ad t else if j = 3 then cI (cy 0) 60 t.1 else if j = 4 then cI (cy 0) 30 t.2.2.1 else cI (cy 0) 30 t.2.2.2.1
def cellA (cy : Nat → ClassId) (ad : Nat → Nat) (V : VA) (i : Nat) : va_E :=
  if i < 6 then spC cy ad V.1.2.2.2.2.2.1 V.1.2.2.2.2.2.2 i
  else if i < 22 then (if (i - 6) % 2 = 0 then cSt ad ((i - 6) / 2) (V.1.2.2.2.2.1 ((i - 6) / 2)) else cI (cy 0) 48 (V.1.2.2.2.1 ((i - 6) / 2)))
  else if i < 78 then skC cy ad ((i - 22) / 7) (V.1.1 ((i - 22) / 7)) ((i - 22) % 7)
  else if i < 96 then (if (i - 78) % 2 = 0 then cLy ad ((i - 78) / 2) (V.1.2.1 ((i - 78) / 2)) else cI (cy 0) 4 (V.1.2.1 ((i - 78) / 2)).2.1)
  else if i < 114 then (if (i - 96) % 2 = 0 then cCk ad ((i - 96) / 2) (V.1.2.2.1 ((i - 96) / 2)) else cI (cy 0) 8 (V.1.2.2.1 ((i - 96) / 2)).1)
  else cI (cy 0) (V.2 (i - 114)).1 (V.2 (i - 114)).2
-- what stands at each
section
variable {cy : Nat → ClassId} {ad : Nat → Nat} {c : VC} {w : VW} {k : Nat}
theorem at_sp {j : Nat} (h : j < 6) : cellA cy ad (c, w) j = spC cy ad c.2.2.2.2.2.1 c.2.2.2.2.2.2 j := by unfold cellA; rw [if_pos h]
theorem at_st (h : k < 8) : cellA cy ad (c, w) (6 + 2 * k) = cSt ad k (c.2.2.2.2.1 k) := by
  unfold cellA
  rw [if_neg (by omega), if_pos (by omega), if_pos (by omega), show (6 + 2 * k - 6) / 2 = k by omega]
theorem at_vl (h : k < 8) : cellA cy ad (c, w) (7 + 2 * k) = cI (cy 0) 48 (c.2.2.2.1 k) := by
  unfold cellA
  rw [if_neg (by omega), if_pos (by omega), if_neg (by omega), show (7 + 2 * k - 6) / 2 = k by omega]
theorem at_sk {j : Nat} (h : k < 8) (hj : j < 7) : cellA cy ad (c, w) (22 + j + 7 * k) = skC cy ad k (c.1 k) j := by
  unfold cellA
  rw [if_neg (by omega), if_neg (by omega), if_pos (by omega), show (22 + j + 7 * k - 22) / 7 = k by omega, show (22 + j + 7 * k - 22) % 7 = j by omega]
theorem at_ly (h : k < 9) : cellA cy ad (c, w) (78 + 2 * k) = cLy ad k (c.2.1 k) := by
  unfold cellA
  rw [if_neg (by omega), if_neg (by omega), if_neg (by omega), if_pos (by omega), if_pos (by omega), show (78 + 2 * k - 78) / 2 = k by omega]
theorem at_lr (h : k < 9) : cellA cy ad (c, w) (79 + 2 * k) = cI (cy 0) 4 (c.2.1 k).2.1 := by
  unfold cellA
  rw [if_neg (by omega), if_neg (by omega), if_neg (by omega), if_pos (by omega), if_neg (by omega), show (79 + 2 * k - 78) / 2 = k by omega]
theorem at_ck (h : k < 9) : cellA cy ad (c, w) (96 + 2 * k) = cCk ad k (c.2.2.1 k) := by
  unfold cellA
  rw [if_neg (by omega), if_neg (by omega), if_neg (by omega), if_neg (by omega), if_pos (by omega), if_pos (by omega), show (96 + 2 * k - 96) / 2 = k by omega]
theorem at_cr (h : k < 9) : cellA cy ad (c, w) (97 + 2 * k) = cI (cy 0) 8 (c.2.2.1 k).1 := by
  unfold cellA
  rw [if_neg (by omega), if_neg (by omega), if_neg (by omega), if_neg (by omega), if_pos (by omega), if_neg (by omega), show (97 + 2 * k - 96) / 2 = k by omega]
theorem at_rw {j : Nat} : cellA cy ad (c, w) (114 + j) = cI (cy 0) (w j).1 (w j).2 := by
  unfold cellA
  rw [if_neg (by omega), if_neg (by omega), if_neg (by omega), if_neg (by omega), if_neg (by omega), show 114 + j - 114 = j by omega]
end
-- one cell changes when one part does
theorem up_sk {n0 : Nat} {cy : Nat → ClassId} {ad : Nat → Nat} {c : VC} {w : VW} {k j0 : Nat} {v : VSk} (h : k < 8) (hj : j0 < 7) (ho : ∀ j, j < 7 → j ≠ j0 → skC cy ad k v j = skC cy ad k (c.1 k) j) : ∀ i, i < n0 → va_up (cellA cy ad (c, w)) (22 + j0 + 7 * k) (skC cy ad k v j0) i = cellA cy ad (sSk c k v, w) i := by
  intro i hi
  by_cases e : i = 22 + j0 + 7 * k
  · rw [e, va_up_self, at_sk h hj, sSk_get]
  · rw [va_up_ne _ _ e]
    unfold cellA
    by_cases a1 : i < 6
    · rw [if_pos a1, if_pos a1]; rfl
    · rw [if_neg a1, if_neg a1]
      by_cases a2 : i < 22
      · rw [if_pos a2, if_pos a2]; rfl
      · rw [if_neg a2, if_neg a2]
        by_cases a3 : i < 78
        · rw [if_pos a3, if_pos a3]
          by_cases ek : (i - 22) / 7 = k
          · rw [ek]
            show _ = skC cy ad k ((sSk c k v).1 k) _
            rw [sSk_get]
            exact (ho _ (by omega) (by omega)).symm
          · show _ = skC cy ad _ (va_up c.1 k v _) _
            rw [va_up_ne _ _ ek]
        · rw [if_neg a3, if_neg a3]; rfl
theorem up_ly {n0 : Nat} {cy : Nat → ClassId} {ad : Nat → Nat} {c : VC} {w : VW} {k : Nat} {v : VLy} (h : k < 9) (ho : v.2.1 = (c.2.1 k).2.1) : ∀ i, i < n0 → va_up (cellA cy ad (c, w)) (78 + 2 * k) (cLy ad k v) i = cellA cy ad (sLy c k v, w) i := by
  intro i hi
  by_cases e : i = 78 + 2 * k
  · rw [e, va_up_self, at_ly h, sLy_get]
  · rw [va_up_ne _ _ e]
    unfold cellA
    by_cases a1 : i < 6
    · rw [if_pos a1, if_pos a1]; rfl
    · rw [if_neg a1, if_neg a1]
      by_cases a2 : i < 22
      · rw [if_pos a2, if_pos a2]; rfl
      · rw [if_neg a2, if_neg a2]
        by_cases a3 : i < 78
        · rw [if_pos a3, if_pos a3]; rfl
        · rw [if_neg a3, if_neg a3]
          by_cases a4 : i < 96
          · rw [if_pos a4, if_pos a4]
            by_cases ek : (i - 78) / 2 = k
            · rw [ek, if_neg (by omega), if_neg (by omega)]
              show _ = cI (cy 0) 4 ((sLy c k v).2.1 k).2.1
              rw [sLy_get, ho]
            · show _ = if (i - 78) % 2 = 0 then cLy ad _ (va_up c.2.1 k v _) else cI (cy 0) 4 (va_up c.2.1 k v _).2.1
              rw [va_up_ne _ _ ek]
          · rw [if_neg a4, if_neg a4]; rfl
theorem up_lr {n0 : Nat} {cy : Nat → ClassId} {ad : Nat → Nat} {c : VC} {w : VW} {k : Nat} {v : VLy} {f : Nat → Int32} (h : k < 9) (hv : c.2.1 k = v) : ∀ i, i < n0 → va_up (cellA cy ad (c, w)) (79 + 2 * k) (cI (cy 0) 4 f) i = cellA cy ad (sLy c k (v.1, f, v.2.2), w) i := by
  subst hv
  intro i hi
  by_cases e : i = 79 + 2 * k
  · rw [e, va_up_self, at_lr h, sLy_get]
  · rw [va_up_ne _ _ e]
    unfold cellA
    by_cases a1 : i < 6
    · rw [if_pos a1, if_pos a1]; rfl
    · rw [if_neg a1, if_neg a1]
      by_cases a2 : i < 22
      · rw [if_pos a2, if_pos a2]; rfl
      · rw [if_neg a2, if_neg a2]
        by_cases a3 : i < 78
        · rw [if_pos a3, if_pos a3]; rfl
        · rw [if_neg a3, if_neg a3]
          by_cases a4 : i < 96
          · rw [if_pos a4, if_pos a4]
            by_cases ek : (i - 78) / 2 = k
            · rw [ek, if_pos (by omega), if_pos (by omega)]
              show _ = cLy ad k ((sLy c k _).2.1 k)
              rw [sLy_get]
              rfl
            · show _ = if (i - 78) % 2 = 0 then cLy ad _ (va_up c.2.1 k _ _) else cI (cy 0) 4 (va_up c.2.1 k _ _).2.1
              rw [va_up_ne _ _ ek]
          · rw [if_neg a4, if_neg a4]; rfl
theorem up_ck {n0 : Nat} {cy : Nat → ClassId} {ad : Nat → Nat} {c : VC} {w : VW} {k : Nat} {v : VCk} (h : k < 9) (ho : v.1 = (c.2.2.1 k).1) : ∀ i, i < n0 → va_up (cellA cy ad (c, w)) (96 + 2 * k) (cCk ad k v) i = cellA cy ad (sCk c k v, w) i := by
  intro i hi
  by_cases e : i = 96 + 2 * k
  · rw [e, va_up_self, at_ck h, sCk_get]
  · rw [va_up_ne _ _ e]
    unfold cellA
    by_cases a1 : i < 6
    · rw [if_pos a1, if_pos a1]; rfl
    · rw [if_neg a1, if_neg a1]
      by_cases a2 : i < 22
      · rw [if_pos a2, if_pos a2]; rfl
      · rw [if_neg a2, if_neg a2]
        by_cases a3 : i < 78
        · rw [if_pos a3, if_pos a3]; rfl
        · rw [if_neg a3, if_neg a3]
          by_cases a4 : i < 96
          · rw [if_pos a4, if_pos a4]; rfl
          · rw [if_neg a4, if_neg a4]
            by_cases a5 : i < 114
            · rw [if_pos a5, if_pos a5]
              by_cases ek : (i - 96) / 2 = k
              · rw [ek, if_neg (by omega), if_neg (by omega)]
                show _ = cI (cy 0) 8 ((sCk c k v).2.2.1 k).1
                rw [sCk_get, ho]
              · show _ = if (i - 96) % 2 = 0 then cCk ad _ (va_up c.2.2.1 k v _) else cI (cy 0) 8 (va_up c.2.2.1 k v _).1
                rw [va_up_ne _ _ ek]
            · rw [if_neg a5, if_neg a5]
theorem up_cr {n0 : Nat} {cy : Nat → ClassId} {ad : Nat → Nat} {c : VC} {w : VW} {k : Nat} {v : VCk} {f : Nat → Int32} (h : k < 9) (hv : c.2.2.1 k = v) : ∀ i, i < n0 → va_up (cellA cy ad (c, w)) (97 + 2 * k) (cI (cy 0) 8 f) i = cellA cy ad (sCk c k (f, v.2), w) i := by
  subst hv
  intro i hi
  by_cases e : i = 97 + 2 * k
  · rw [e, va_up_self, at_cr h, sCk_get]
  · rw [va_up_ne _ _ e]
    unfold cellA
    by_cases a1 : i < 6
    · rw [if_pos a1, if_pos a1]; rfl
    · rw [if_neg a1, if_neg a1]
      by_cases a2 : i < 22
      · rw [if_pos a2, if_pos a2]; rfl
      · rw [if_neg a2, if_neg a2]
        by_cases a3 : i < 78
        · rw [if_pos a3, if_pos a3]; rfl
        · rw [if_neg a3, if_neg a3]
          by_cases a4 : i < 96
          · rw [if_pos a4, if_pos a4]; rfl
          · rw [if_neg a4, if_neg a4]
            by_cases a5 : i < 114
            · rw [if_pos a5, if_pos a5]
              by_cases ek : (i - 96) / 2 = k
              · rw [ek, if_pos (by omega), if_pos (by omega)]
                show _ = cCk ad k ((sCk c k _).2.2.1 k)
                rw [sCk_get]
                rfl
              · show _ = if (i - 96) % 2 = 0 then cCk ad _ (va_up c.2.2.1 k _ _) else cI (cy 0) 8 (va_up c.2.2.1 k _ _).1
                rw [va_up_ne _ _ ek]
            · rw [if_neg a5, if_neg a5]
theorem up_st {n0 : Nat} {cy : Nat → ClassId} {ad : Nat → Nat} {c : VC} {w : VW} {k : Nat} {v : VI5} (h : k < 8) : ∀ i, i < n0 → va_up (cellA cy ad (c, w)) (6 + 2 * k) (cSt ad k v) i = cellA cy ad (sI5 c k v, w) i := by
  intro i hi
  by_cases e : i = 6 + 2 * k
  · rw [e, va_up_self, at_st h]
    show _ = cSt ad k (va_up c.2.2.2.2.1 k v k)
    rw [va_up_self]
  · rw [va_up_ne _ _ e]
    unfold cellA
    by_cases a1 : i < 6
    · rw [if_pos a1, if_pos a1]; rfl
    · rw [if_neg a1, if_neg a1]
      by_cases a2 : i < 22
      · rw [if_pos a2, if_pos a2]
        by_cases ek : (i - 6) / 2 = k
        · rw [ek, if_neg (by omega), if_neg (by omega)]; rfl
        · show _ = if (i - 6) % 2 = 0 then cSt ad _ (va_up c.2.2.2.2.1 k v _) else _
          rw [va_up_ne _ _ ek]
          rfl
      · rw [if_neg a2, if_neg a2]; rfl
theorem up_vl {n0 : Nat} {cy : Nat → ClassId} {ad : Nat → Nat} {c : VC} {w : VW} {k : Nat} {v : Nat → Int32} (h : k < 8) : ∀ i, i < n0 → va_up (cellA cy ad (c, w)) (7 + 2 * k) (cI (cy 0) 48 v) i = cellA cy ad (sVl c k v, w) i := by
  intro i hi
  by_cases e : i = 7 + 2 * k
  · rw [e, va_up_self, at_vl h]
    show _ = cI (cy 0) 48 (va_up c.2.2.2.1 k v k)
    rw [va_up_self]
  · rw [va_up_ne _ _ e]
    unfold cellA
    by_cases a1 : i < 6
    · rw [if_pos a1, if_pos a1]; rfl
    · rw [if_neg a1, if_neg a1]
      by_cases a2 : i < 22
      · rw [if_pos a2, if_pos a2]
        by_cases ek : (i - 6) / 2 = k
        · rw [ek, if_pos (by omega), if_pos (by omega)]; rfl
        · show _ = if (i - 6) % 2 = 0 then _ else cI (cy 0) 48 (va_up c.2.2.2.1 k v _)
          rw [va_up_ne _ _ ek]
          rfl
      · rw [if_neg a2, if_neg a2]; rfl
theorem up_sp {n0 : Nat} {cy : Nat → ClassId} {ad : Nat → Nat} {c : VC} {w : VW} {j0 : Nat} {t : VTx} {v : VSp} (hj : j0 < 6) (ho : ∀ j, j < 6 → j ≠ j0 → spC cy ad t v j = spC cy ad c.2.2.2.2.2.1 c.2.2.2.2.2.2 j) : ∀ i, i < n0 → va_up (cellA cy ad (c, w)) j0 (spC cy ad t v j0) i = cellA cy ad (sSp (sTx c t) v, w) i := by
  intro i hi
  by_cases e : i = j0
  · rw [e, va_up_self, at_sp hj]; rfl
  · rw [va_up_ne _ _ e]
    unfold cellA
    by_cases a1 : i < 6
    · rw [if_pos a1, if_pos a1]; exact (ho i a1 e).symm
    · rw [if_neg a1, if_neg a1]; rfl
theorem up_rw {n0 : Nat} {cy : Nat → ClassId} {ad : Nat → Nat} {c : VC} {w : VW} {j0 n : Nat} {f : Nat → Int32} : ∀ i, i < n0 → va_up (cellA cy ad (c, w)) (114 + j0) (cI (cy 0) n f) i = cellA cy ad (c, va_up w j0 (n, f)) i := by
  intro i hi
  by_cases e : i = 114 + j0
  · rw [e, va_up_self, at_rw, va_up_self]
  · rw [va_up_ne _ _ e]
    unfold cellA
    by_cases a1 : i < 6
    · rw [if_pos a1, if_pos a1]
    · rw [if_neg a1, if_neg a1]
      by_cases a2 : i < 22
      · rw [if_pos a2, if_pos a2]
      · rw [if_neg a2, if_neg a2]
        by_cases a3 : i < 78
        · rw [if_pos a3, if_pos a3]
        · rw [if_neg a3, if_neg a3]
          by_cases a4 : i < 96
          · rw [if_pos a4, if_pos a4]
          · rw [if_neg a4, if_neg a4]
            by_cases a5 : i < 114
            · rw [if_pos a5, if_pos a5]
            · rw [if_neg a5, if_neg a5]
              show cI (cy 0) (w (i - 114)).1 (w (i - 114)).2 = cI (cy 0) (va_up w j0 (n, f) (i - 114)).1 (va_up w j0 (n, f) (i - 114)).2
              rw [va_up_ne _ _ (by omega)]
/-- the rows of the law that begin at the row k -/
def sRw (w : VW) (k : Nat) (v : VRw) : VW := va_up (va_up (va_up (va_up (va_up w k (10, v.1)) (1 + k) (32, v.2.1)) (2 + k) (48, v.2.2.1)) (3 + k) (48, v.2.2.2.1)) (4 + k) (48, v.2.2.2.2)
theorem va_upc {α : Type} (f : Nat → α) {i j : Nat} (a b : α) (h : i ≠ j) : va_up (va_up f i a) j b = va_up (va_up f j b) i a := by
  funext q
  unfold va_up
  by_cases e : q = i
  · subst e; rw [if_neg h, if_pos rfl]; simp
  · simp [e]
theorem sRw_0 (w : VW) (k : Nat) (v : VRw) : sRw w k v k = (10, v.1) := by unfold sRw; rw [va_up_ne _ _ (by omega), va_up_ne _ _ (by omega), va_up_ne _ _ (by omega), va_up_ne _ _ (by omega), va_up_self]
theorem sRw_1 (w : VW) (k : Nat) (v : VRw) : sRw w k v (1 + k) = (32, v.2.1) := by unfold sRw; rw [va_up_ne _ _ (by omega), va_up_ne _ _ (by omega), va_up_ne _ _ (by omega), va_up_self]
theorem sRw_2 (w : VW) (k : Nat) (v : VRw) : sRw w k v (2 + k) = (48, v.2.2.1) := by unfold sRw; rw [va_up_ne _ _ (by omega), va_up_ne _ _ (by omega), va_up_self]
theorem sRw_3 (w : VW) (k : Nat) (v : VRw) : sRw w k v (3 + k) = (48, v.2.2.2.1) := by unfold sRw; rw [va_up_ne _ _ (by omega), va_up_self]
theorem sRw_4 (w : VW) (k : Nat) (v : VRw) : sRw w k v (4 + k) = (48, v.2.2.2.2) := by unfold sRw; rw [va_up_self]
theorem sRw_ne (w : VW) {k j : Nat} (v : VRw) (h : j < k ∨ k + 5 ≤ j) : sRw w k v j = w j := by unfold sRw; rw [va_up_ne _ _ (by omega), va_up_ne _ _ (by omega), va_up_ne _ _ (by omega), va_up_ne _ _ (by omega), va_up_ne _ _ (by omega)]
theorem sRw_ext {w w' : VW} {k : Nat} {v : VRw} (h0 : w' k = (10, v.1)) (h1 : w' (1 + k) = (32, v.2.1)) (h2 : w' (2 + k) = (48, v.2.2.1)) (h3 : w' (3 + k) = (48, v.2.2.2.1)) (h4 : w' (4 + k) = (48, v.2.2.2.2)) (h : ∀ j, j < k ∨ k + 5 ≤ j → w' j = w j) : w' = sRw w k v := by
  funext j
  by_cases e : j < k ∨ k + 5 ≤ j
  · rw [h j e, sRw_ne w v e]
  · rcases (show j = k ∨ j = 1 + k ∨ j = 2 + k ∨ j = 3 + k ∨ j = 4 + k by omega) with q | q | q | q | q <;> rw [q]
    · rw [h0, sRw_0]
    · rw [h1, sRw_1]
    · rw [h2, sRw_2]
    · rw [h3, sRw_3]
    · rw [h4, sRw_4]
theorem sRw_up (w : VW) (k : Nat) (a b : VRw) : sRw (sRw w k a) k b = sRw w k b := sRw_ext (sRw_0 _ _ _) (sRw_1 _ _ _) (sRw_2 _ _ _) (sRw_3 _ _ _) (sRw_4 _ _ _) (fun j h => by rw [sRw_ne _ _ h, sRw_ne _ _ h])
theorem sRw_u0 (w : VW) (k : Nat) (v : VRw) (f : Nat → Int32) : va_up (sRw w k v) k (10, f) = sRw w k (f, v.2) := sRw_ext (va_up_self _ _ _) (by rw [va_up_ne _ _ (by omega), sRw_1]) (by rw [va_up_ne _ _ (by omega), sRw_2]) (by rw [va_up_ne _ _ (by omega), sRw_3]) (by rw [va_up_ne _ _ (by omega), sRw_4]) (fun j h => by rw [va_up_ne _ _ (by omega), sRw_ne _ _ h])
theorem sRw_u1 (w : VW) (k : Nat) (v : VRw) (f : Nat → Int32) : va_up (sRw w k v) (1 + k) (32, f) = sRw w k (v.1, f, v.2.2) := sRw_ext (by rw [va_up_ne _ _ (by omega), sRw_0]) (va_up_self _ _ _) (by rw [va_up_ne _ _ (by omega), sRw_2]) (by rw [va_up_ne _ _ (by omega), sRw_3]) (by rw [va_up_ne _ _ (by omega), sRw_4]) (fun j h => by rw [va_up_ne _ _ (by omega), sRw_ne _ _ h])
theorem sRw_u2 (w : VW) (k : Nat) (v : VRw) (f : Nat → Int32) : va_up (sRw w k v) (2 + k) (48, f) = sRw w k (v.1, v.2.1, f, v.2.2.2) := sRw_ext (by rw [va_up_ne _ _ (by omega), sRw_0]) (by rw [va_up_ne _ _ (by omega), sRw_1]) (va_up_self _ _ _) (by rw [va_up_ne _ _ (by omega), sRw_3]) (by rw [va_up_ne _ _ (by omega), sRw_4]) (fun j h => by rw [va_up_ne _ _ (by omega), sRw_ne _ _ h])
theorem sRw_u3 (w : VW) (k : Nat) (v : VRw) (f : Nat → Int32) : va_up (sRw w k v) (3 + k) (48, f) = sRw w k (v.1, v.2.1, v.2.2.1, f, v.2.2.2.2) := sRw_ext (by rw [va_up_ne _ _ (by omega), sRw_0]) (by rw [va_up_ne _ _ (by omega), sRw_1]) (by rw [va_up_ne _ _ (by omega), sRw_2]) (va_up_self _ _ _) (by rw [va_up_ne _ _ (by omega), sRw_4]) (fun j h => by rw [va_up_ne _ _ (by omega), sRw_ne _ _ h])
theorem sRw_u4 (w : VW) (k : Nat) (v : VRw) (f : Nat → Int32) : va_up (sRw w k v) (4 + k) (48, f) = sRw w k (v.1, v.2.1, v.2.2.1, v.2.2.2.1, f) := sRw_ext (by rw [va_up_ne _ _ (by omega), sRw_0]) (by rw [va_up_ne _ _ (by omega), sRw_1]) (by rw [va_up_ne _ _ (by omega), sRw_2]) (by rw [va_up_ne _ _ (by omega), sRw_3]) (va_up_self _ _ _) (fun j h => by rw [va_up_ne _ _ (by omega), sRw_ne _ _ h])
/-- what stands in the class's cells hangs on the class's addresses alone -/
theorem cellA_cg {cy : Nat → ClassId} {ad ad' : Nat → Nat} {V V' : VA} {i : Nat} (hV : V'.1 = V.1) (ha : ∀ j, j < 114 → ad' j = ad j) (hi : i < 114) : cellA cy ad' V' i = cellA cy ad V i := by
  unfold cellA
  rw [hV]
  by_cases a1 : i < 6
  · rw [if_pos a1, if_pos a1]
    rcases (show i = 0 ∨ i = 1 ∨ i = 2 ∨ i = 3 ∨ i = 4 ∨ i = 5 by omega) with rfl | rfl | rfl | rfl | rfl | rfl
    · show cSp ad' _ = cSp ad _
      unfold cSp
      rw [ha 6 (by omega), ha 8 (by omega), ha 1 (by omega), ha 2 (by omega), ha 94 (by omega), ha 112 (by omega)]
    · show cSv cy ad' _ = cSv cy ad _
      unfold cSv
      have e : (fun i => some (ad' (6 + 2 * min (V.1.2.2.2.2.2.2.2.2 i) 7))) = (fun i => some (ad (6 + 2 * min (V.1.2.2.2.2.2.2.2.2 i) 7))) := by
        funext i
        rw [ha _ (by omega)]
      rw [e]
    · show cTx ad' _ = cTx ad _
      unfold cTx
      rw [ha 3 (by omega), ha 4 (by omega), ha 5 (by omega)]
    · rfl
    · rfl
    · rfl
  · rw [if_neg a1, if_neg a1]
    by_cases a2 : i < 22
    · rw [if_pos a2, if_pos a2]
      by_cases b : (i - 6) % 2 = 0
      · rw [if_pos b, if_pos b]
        unfold cSt
        rw [ha _ (by omega), ha _ (by omega), ha _ (by omega), ha _ (by omega)]
      · rw [if_neg b, if_neg b]
    · rw [if_neg a2, if_neg a2]
      by_cases a3 : i < 78
      · rw [if_pos a3, if_pos a3]
        unfold skC cSk
        rw [ha _ (by omega), ha _ (by omega), ha _ (by omega), ha _ (by omega), ha _ (by omega), ha _ (by omega)]
      · rw [if_neg a3, if_neg a3]
        by_cases a4 : i < 96
        · rw [if_pos a4, if_pos a4]
          by_cases b : (i - 78) % 2 = 0
          · rw [if_pos b, if_pos b]
            unfold cLy
            rw [ha _ (by omega)]
          · rw [if_neg b, if_neg b]
        · rw [if_neg a4, if_neg a4, if_pos hi, if_pos hi]
          by_cases b : (i - 96) % 2 = 0
          · rw [if_pos b, if_pos b]
            unfold cCk
            rw [ha _ (by omega)]
          · rw [if_neg b, if_neg b]
