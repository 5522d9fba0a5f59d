-- ===== the text: the class's scan =====
section
variable {tx : Nat → Nat} {len p k i n a t w : Nat} {cd F L : Nat → Int32} {nl : Int32}
theorem nI_nm1 {a : Nat} (h : a < 2 ^ 31) : ¬ nI a = -1 := fun q => by
  have h2 : ¬ nI a < 0 := nI_pos h
  rw [q] at h2
  exact h2 (by decide)
theorem upd_upd (f : Nat → Int32) (k : Nat) (x y : Int32) : upd (upd f k x) k y = upd f k y := by
  funext j
  unfold upd
  split <;> rfl
theorem i30 : (30 : Int32) = nI 30 := rfl
theorem a_21 (hk : k < 30) (hw : w ≤ 1) {x : Int32} (hx : x ≠ 0) {d : Nat} (hd : d < 48) : b_X4_acceptsDigit_21 (cd, nl, F, L, nI k, nI w, x) (nI d) = some (1, (cd, nl, (if w = 0 then upd F k (nI d) else F), upd L k (nI d), nI k, nI w, nI d)) := by
  unfold b_X4_acceptsDigit_21
  dsimp only
  rw [if_neg hx, i48, if_pos (nI_lt hd (by omega)), if_neg (nI_pos (by omega)), i30, if_pos (nI_lt hk (by omega)), p_aup hk (by omega), p_aup hk (by omega)]
  rcases (show w = 0 ∨ w = 1 by omega) with rfl | rfl <;> rfl
theorem a_dig0 (ht : 48 ≤ t) (ht2 : t ≤ 57) (v : VTx) : f_X4_accepts v (nI t) = (f_X4_acceptsDigit v (nI (t - 48))).bind fun x17 => (bck x17.1).bind fun r20 => some (r20, x17.2) := by
  unfold f_X4_accepts
  rw [i48, if_neg (nI_nlt ht (by omega)), show (57 : Int32) = nI 57 from rfl, if_neg (nI_nlt ht2 (by omega)), pk_sub (by omega)]
theorem a_dig1 (ht : 48 ≤ t) (ht2 : t ≤ 57) (hk : k < 30) (hw : w ≤ 1) : f_X4_accepts (cd, nl, F, L, nI k, nI w, -1) (nI t) = some (1, (cd, nl, (if w = 0 then upd F k (nI (t - 48)) else F), upd L k (nI (t - 48)), nI k, nI w, nI (t - 48))) := by
  rw [a_dig0 ht ht2]
  unfold f_X4_acceptsDigit
  dsimp only
  rw [if_pos rfl, a_21 hk hw (by decide) (by omega)]; rfl
theorem a_dig2 (ht : 48 ≤ t) (ht2 : t ≤ 57) (hk : k < 30) (hw : w ≤ 1) (ha : 0 < a) (ha2 : a < 48) (h : 10 * a + (t - 48) < 48) : f_X4_accepts (cd, nl, F, L, nI k, nI w, nI a) (nI t) = some (1, (cd, nl, (if w = 0 then upd F k (nI (10 * a + (t - 48))) else F), upd L k (nI (10 * a + (t - 48))), nI k, nI w, nI (10 * a + (t - 48)))) := by
  rw [a_dig0 ht ht2]
  unfold f_X4_acceptsDigit
  dsimp only
  rw [if_neg (nI_nm1 (by omega)), show (10 : Int32) = nI 10 from rfl, pk_mul, nI_add, a_21 hk hw (fun q => by have := (nI_eq (show a < 2 ^ 31 by omega) (show 0 < 2 ^ 31 by omega)).mp q; omega) h]; rfl
theorem a_digx (ht : 48 ≤ t) (ht2 : t ≤ 57) (ha2 : a < 48) (h : a = 0 ∨ 48 ≤ 10 * a + (t - 48)) : f_X4_accepts (cd, nl, F, L, nI k, nI w, nI a) (nI t) = some (0, (cd, nl, F, L, nI k, nI w, nI a)) := by
  rw [a_dig0 ht ht2]
  unfold f_X4_acceptsDigit
  dsimp only
  rw [if_neg (nI_nm1 (by omega)), show (10 : Int32) = nI 10 from rfl, pk_mul, nI_add]
  unfold b_X4_acceptsDigit_21
  dsimp only
  by_cases e : a = 0
  · subst e
    rw [if_pos (by decide)]; rfl
  · rw [if_neg (show ¬ nI a = 0 from fun q => e ((nI_eq (show a < 2 ^ 31 by omega) (show 0 < 2 ^ 31 by omega)).mp (show nI a = nI 0 from q))), i48, if_neg (nI_nlt (by omega) (by omega))]; rfl
theorem a_non (ht : t < 48 ∨ 57 < t) (h31 : t < 200) (v : VTx) : f_X4_accepts v (nI t) = b_X4_accepts_21 v (nI t) := by
  unfold f_X4_accepts
  rw [i48, show (57 : Int32) = nI 57 from rfl]
  by_cases e : t < 48
  · rw [if_pos (nI_lt e (by omega))]
  · rw [if_neg (nI_nlt (by omega) (by omega)), if_pos (nI_lt (by omega) (by omega))]
theorem a_no (ht : t < 48 ∨ 57 < t) (h31 : t < 200) : f_X4_accepts (cd, nl, F, L, nI k, nI w, -1) (nI t) = some (0, (cd, nl, F, L, nI k, nI w, -1)) := by
  rw [a_non ht h31]; rfl
theorem a_com (ha : a < 48) : f_X4_accepts (cd, nl, F, L, nI k, nI w, nI a) (nI 44) = some (1, (cd, nl, F, L, nI (k + 1), nI 0, -1)) := by
  rw [a_non (by omega) (by omega)]
  unfold b_X4_accepts_21
  dsimp only
  rw [if_neg (nI_nm1 (by omega)), if_pos (by decide), i1, nI_add]; rfl
theorem a_das (ha : a < 48) : f_X4_accepts (cd, nl, F, L, nI k, nI 0, nI a) (nI 45) = some (1, (cd, nl, F, L, nI k, nI 1, -1)) := by
  rw [a_non (by omega) (by omega)]
  unfold b_X4_accepts_21
  dsimp only
  rw [if_neg (nI_nm1 (by omega)), if_neg (by decide), if_pos (by decide), if_pos (by decide)]; rfl
theorem a_no2 (ht : t < 48 ∨ 57 < t) (h31 : t < 200) (ha : a < 48) (h44 : t ≠ 44) (h45 : ¬ (t = 45 ∧ w = 0)) (hw : w ≤ 1) : f_X4_accepts (cd, nl, F, L, nI k, nI w, nI a) (nI t) = some (0, (cd, nl, F, L, nI k, nI w, nI a)) := by
  rw [a_non ht h31]
  unfold b_X4_accepts_21
  dsimp only
  rw [if_neg (nI_nm1 (by omega)), show (44 : Int32) = nI 44 from rfl, if_neg (fun q => h44 ((nI_eq (by omega) (by omega)).mp q))]
  by_cases e : t = 45
  · subst e
    rw [if_pos (by decide)]
    rcases (show w = 0 ∨ w = 1 by omega) with rfl | rfl
    · exact absurd ⟨rfl, rfl⟩ h45
    · rfl
  · rw [show (45 : Int32) = nI 45 from rfl, if_neg (fun q => e ((nI_eq (by omega) (by omega)).mp q))]
-- the scan
abbrev S5 : Type := (Nat → Int32) × (Nat → Int32) × Int32 × Int32 × Int32
def CdX (cd : Nat → Int32) (tx : Nat → Nat) (len : Nat) : Prop := len ≤ 60 ∧ ∀ i, i < len → cd i = nI (tx i) ∧ 33 ≤ tx i ∧ tx i ≤ 126
theorem c_step (h : CdX cd tx len) (hi : i < len) {r : S5} : l_X4_scan_17 (n + 1) (cd, nI len, r) (nI i) = (f_X4_accepts (cd, nI len, r) (nI (tx i))).bind fun x34 => if x34.1 = 0 then some (nI i, x34.2) else l_X4_scan_17 n x34.2 (nI (i + 1)) := by
  have h60 := h.1
  rw [l_X4_scan_17]
  dsimp only
  rw [if_pos (nI_lt hi (by omega)), p_entry (by omega) (by omega), Option.bind_some, (h.2 i hi).1, i1, nI_add]
theorem c_end (h : CdX cd tx len) {r : S5} : l_X4_scan_17 (n + 1) (cd, nI len, r) (nI len) = some (nI len, (cd, nI len, r)) := by
  have h60 := h.1
  rw [l_X4_scan_17]
  dsimp only
  rw [if_neg (nI_nlt (by omega) (by omega))]
theorem c_blk (h : CdX cd tx len) (hd : isD tx len p) (hk : k < 30) (hw : w ≤ 1) : l_X4_scan_17 (n + (enB tx len p - p)) (cd, nI len, F, L, nI k, nI w, -1) (nI p) = l_X4_scan_17 n (cd, nI len, (if w = 0 then upd F k (nI (vaB tx len p)) else F), upd L k (nI (vaB tx len p)), nI k, nI w, nI (vaB tx len p)) (nI (enB tx len p)) := by
  unfold enB vaB
  by_cases e : lonP tx len p
  · rw [if_pos e, if_pos e, show n + (p + 2 - p) = (n + 1) + 1 by omega, c_step h hd.1, a_dig1 hd.2.1 hd.2.2 hk hw, Option.bind_some]
    dsimp only
    rw [if_neg (by decide), c_step h e.2.1.1, a_dig2 e.2.1.2.1 e.2.1.2.2 hk hw (by have := e.1; omega) (by have := hd.2; omega) (by have := e.2.2; omega), Option.bind_some]
    dsimp only
    rw [if_neg (by decide), upd_upd]
    rcases (show w = 0 ∨ w = 1 by omega) with rfl | rfl
    · rw [if_pos rfl, if_pos rfl, if_pos rfl, upd_upd]
    · rw [if_neg (show ¬ (1 : Nat) = 0 by omega), if_neg (show ¬ (1 : Nat) = 0 by omega), if_neg (show ¬ (1 : Nat) = 0 by omega)]
  · rw [if_neg e, if_neg e, show n + (p + 1 - p) = n + 1 by omega, c_step h hd.1, a_dig1 hd.2.1 hd.2.2 hk hw, Option.bind_some]
    dsimp only
    rw [if_neg (by decide)]
/-- behind a block: what is no comma, and no dash in its place, is refused -/
theorem a_after (h : CdX cd tx len) (hd : isD tx len p) (he : enB tx len p < len) (h44 : tx (enB tx len p) ≠ 44) (h45 : ¬ (tx (enB tx len p) = 45 ∧ w = 0)) (hw : w ≤ 1) : f_X4_accepts (cd, nl, F, L, nI k, nI w, nI (vaB tx len p)) (nI (tx (enB tx len p))) = some (0, (cd, nl, F, L, nI k, nI w, nI (vaB tx len p))) := by
  have hv := enB_le hd
  have hb := (h.2 _ he).2
  by_cases q : tx (enB tx len p) < 48 ∨ 57 < tx (enB tx len p)
  · exact a_no2 q (by omega) (by omega) h44 h45 hw
  · refine a_digx (by omega) (by omega) (by omega) ?_
    revert he q hv
    unfold enB vaB
    by_cases e : lonP tx len p
    · rw [if_pos e, if_pos e]
      intro he hb hv
      have := e.1
      omega
    · rw [if_neg e, if_neg e]
      intro he hv q
      have := hd.2
      by_cases e1 : tx p = 48
      · left; omega
      · right
        by_cases e2 : 48 ≤ 10 * (tx p - 48) + (tx (p + 1) - 48)
        · exact e2
        · exact absurd ⟨by omega, ⟨he, by omega, by omega⟩, by omega⟩ e
theorem c_part (h : CdX cd tx len) (ho : okP tx len p) (hk : k < 30) : ∃ (F' L' : Nat → Int32) (w : Nat), w ≤ 1 ∧ (F' k = nI (vaB tx len p) ∧ L' k = nI (toP tx len p) ∧ ∀ j, j ≠ k → F' j = F j ∧ L' j = L j) ∧ (∀ n, l_X4_scan_17 (n + (enP tx len p - p)) (cd, nI len, F, L, nI k, nI 0, -1) (nI p) = l_X4_scan_17 n (cd, nI len, F', L', nI k, nI w, nI (toP tx len p)) (nI (enP tx len p))) ∧ (enP tx len p < len → tx (enP tx len p) ≠ 44 → ∀ n, l_X4_scan_17 (n + 1) (cd, nI len, F', L', nI k, nI w, nI (toP tx len p)) (nI (enP tx len p)) = some (nI (enP tx len p), (cd, nI len, F', L', nI k, nI w, nI (toP tx len p)))) := by
  have hd := ho.1
  have h1 := enB_gt tx len p
  have hv := enB_le hd
  unfold enP toP
  by_cases q : dasP tx len p
  · have hd2 := ho.2 q
    have h2 := enB_gt tx len (enB tx len p + 1)
    rw [if_pos q, if_pos q]
    refine ⟨upd F k (nI (vaB tx len p)), upd L k (nI (vaB tx len (enB tx len p + 1))), 1, by omega, ⟨upd_eq _ _ _, upd_eq _ _ _, fun j hj => ⟨upd_ne _ _ hj, upd_ne _ _ hj⟩⟩, fun n => ?_, fun he h44 n => ?_⟩
    · rw [show n + (enB tx len (enB tx len p + 1) - p) = (n + (enB tx len (enB tx len p + 1) - (enB tx len p + 1)) + 1) + (enB tx len p - p) by omega, c_blk h hd hk (by omega), if_pos rfl, c_step h q.1, q.2, a_das (by omega), Option.bind_some]
      dsimp only
      rw [if_neg (by decide), c_blk h hd2 hk (by omega), if_neg (show ¬ (1 : Nat) = 0 by omega), upd_upd]
    · rw [c_step h he, a_after h hd2 he h44 (fun z => by omega) (by omega)]; rfl
  · rw [if_neg q, if_neg q]
    refine ⟨upd F k (nI (vaB tx len p)), upd L k (nI (vaB tx len p)), 0, by omega, ⟨upd_eq _ _ _, upd_eq _ _ _, fun j hj => ⟨upd_ne _ _ hj, upd_ne _ _ hj⟩⟩, fun n => ?_, fun he h44 n => ?_⟩
    · rw [c_blk h hd hk (by omega), if_pos rfl]
    · rw [c_step h he, a_after h hd he h44 (fun z => q ⟨he, z.1⟩) (by omega)]; rfl
theorem c_bad (h : CdX cd tx len) (ho : ¬ okP tx len p) (hp : p ≤ len) (hk : 2 * k ≤ p) : ∃ r : S5, r.2.2.2.2 = -1 ∧ erP tx len p ≤ len ∧ ∀ n, l_X4_scan_17 (n + 8) (cd, nI len, F, L, nI k, nI 0, -1) (nI p) = some (nI (erP tx len p), (cd, nI len, r)) := by
  have h60 := h.1
  unfold erP
  by_cases hd : isD tx len p
  · rw [if_pos hd]
    have hv := enB_le hd
    have h1 := enB_gt tx len p
    by_cases q : dasP tx len p
    · have hd2 : ¬ isD tx len (enB tx len p + 1) := fun z => ho ⟨hd, fun _ => z⟩
      refine ⟨(upd F k (nI (vaB tx len p)), upd L k (nI (vaB tx len p)), nI k, nI 1, -1), rfl, by have := q.1; omega, fun n => ?_⟩
      rw [show n + 8 = (n + (6 - (enB tx len p - p)) + 1 + 1) + (enB tx len p - p) by omega, c_blk h hd (by omega) (by omega), if_pos rfl, c_step h q.1, q.2, a_das (by omega), Option.bind_some]
      dsimp only
      rw [if_neg (by decide)]
      by_cases e : enB tx len p + 1 = len
      · rw [e, c_end h]
      · have he : enB tx len p + 1 < len := by have := q.1; omega
        have hb := (h.2 _ he).2
        rw [c_step h he, a_no (by
          by_cases z : tx (enB tx len p + 1) < 48
          · exact Or.inl z
          · by_cases z2 : 57 < tx (enB tx len p + 1)
            · exact Or.inr z2
            · exact absurd ⟨he, by omega, by omega⟩ hd2) (by omega)]; rfl
    · exact absurd ⟨hd, fun z => absurd z q⟩ ho
  · rw [if_neg hd]
    refine ⟨(F, L, nI k, nI 0, -1), rfl, hp, fun n => ?_⟩
    by_cases e : p = len
    · rw [e, show n + 8 = (n + 7) + 1 from rfl, c_end h]
    · have he : p < len := by omega
      have hb := (h.2 _ he).2
      rw [show n + 8 = (n + 7) + 1 from rfl, c_step h he, a_no (by
          by_cases z : tx p < 48
          · exact Or.inl z
          · by_cases z2 : 57 < tx p
            · exact Or.inr z2
            · exact absurd ⟨he, by omega, by omega⟩ hd) (by omega)]; rfl
theorem c_chain (h : CdX cd tx len) : ∀ n, (∀ j, j < n → chP tx len j) → ∃ F' L' : Nat → Int32, (∀ j, j < n → F' j = nI (vaB tx len (ppN tx len j)) ∧ L' j = nI (toP tx len (ppN tx len j))) ∧ ∀ f, l_X4_scan_17 (f + ppN tx len n) (cd, nI len, F, L, nI 0, nI 0, -1) (nI 0) = l_X4_scan_17 f (cd, nI len, F', L', nI n, nI 0, -1) (nI (ppN tx len n)) := by
  intro n
  induction n with
  | zero => intro _; exact ⟨F, L, fun j hj => absurd hj (Nat.not_lt_zero j), fun f => rfl⟩
  | succ n ih =>
    intro hc
    obtain ⟨F', L', h1, h2⟩ := ih (fun j hj => hc j (by omega))
    obtain ⟨c1, c2, c3⟩ := hc n (by omega)
    have h60 := h.1
    have hpn := ppN_ge tx len n
    have hpl := c1.1.1
    have hg := enP_gt tx len (ppN tx len n)
    have hle := enP_le c1
    obtain ⟨F2, L2, w, hw, ⟨g1, g2, g3⟩, g4, -⟩ := c_part (F := F') (L := L') h c1 (k := n) (by omega)
    refine ⟨F2, L2, fun j hj => ?_, fun f => ?_⟩
    · by_cases e : j = n
      · rw [e]; exact ⟨g1, g2⟩
      · rw [(g3 j e).1, (g3 j e).2]; exact h1 j (by omega)
    · show l_X4_scan_17 (f + (enP tx len (ppN tx len n) + 1)) _ _ = l_X4_scan_17 f _ (nI (enP tx len (ppN tx len n) + 1))
      rw [show f + (enP tx len (ppN tx len n) + 1) = ((f + 1) + (enP tx len (ppN tx len n) - ppN tx len n)) + ppN tx len n by omega, h2, g4, c_step h c2, c3, a_com (by omega), Option.bind_some]
      dsimp only
      rw [if_neg (by decide)]
/-- what the scan finds -/
theorem c_scan (h : CdX cd tx len) (hn : n < 31) (hc : ∀ j, j < n → chP tx len j) (hx : ¬ chP tx len n) (v0 : S5) : ∃ r : S5, f_X4_scan (cd, nI len, v0) = some (if okP tx len (ppN tx len n) then nI (enP tx len (ppN tx len n)) else nI (erP tx len (ppN tx len n)), (cd, nI len, r)) ∧ (okP tx len (ppN tx len n) → n < 30 ∧ r.2.2.2.2 = nI (toP tx len (ppN tx len n)) ∧ r.2.2.1 = nI n ∧ ∀ j, j ≤ n → r.1 j = nI (vaB tx len (ppN tx len j)) ∧ r.2.1 j = nI (toP tx len (ppN tx len j))) ∧ (¬ okP tx len (ppN tx len n) → r.2.2.2.2 = -1 ∧ erP tx len (ppN tx len n) ≤ len) := by
  have h60 := h.1
  have hple := ppN_le hc
  have hpge := ppN_ge tx len n
  obtain ⟨F', L', h1, h2⟩ := c_chain (F := v0.1) (L := v0.2.1) h n hc
  have hs : f_X4_scan (cd, nI len, v0) = l_X4_scan_17 ((991 - ppN tx len n) + 8 + 1) (cd, nI len, F', L', nI n, nI 0, -1) (nI (ppN tx len n)) := by
    rw [← h2, show (991 - ppN tx len n) + 8 + 1 + ppN tx len n = FU from by have : FU = 1000 := rfl; omega]; rfl
  rw [hs]
  by_cases e : okP tx len (ppN tx len n)
  · have hpl := e.1.1
    have hg := enP_gt tx len (ppN tx len n)
    have hle := enP_le e
    obtain ⟨F2, L2, w, hw, ⟨g1, g2, g3⟩, g4, g5⟩ := c_part (F := F') (L := L') h e (k := n) (by omega)
    refine ⟨(F2, L2, nI n, nI w, nI (toP tx len (ppN tx len n))), ?_, fun _ => ⟨by omega, rfl, rfl, fun j hj => ?_⟩, fun z => absurd e z⟩
    · rw [if_pos e, show (991 - ppN tx len n) + 8 + 1 = ((991 - ppN tx len n) + 8 - (enP tx len (ppN tx len n) - ppN tx len n) + 1) + (enP tx len (ppN tx len n) - ppN tx len n) by omega, g4]
      by_cases e2 : enP tx len (ppN tx len n) = len
      · rw [e2, c_end h]
      · exact g5 (by omega) (fun z => hx ⟨e, by omega, z⟩) _
    · by_cases q : j = n
      · rw [q]; exact ⟨g1, g2⟩
      · rw [show (F2, L2, nI n, nI w, nI (toP tx len (ppN tx len n))).1 j = F' j from (g3 j q).1, show (F2, L2, nI n, nI w, nI (toP tx len (ppN tx len n))).2.1 j = L' j from (g3 j q).2]
        exact h1 j (by omega)
  · obtain ⟨r, g1, g2, g3⟩ := c_bad (F := F') (L := L') h e hple hpge
    refine ⟨r, ?_, fun z => absurd z e, fun _ => ⟨g1, g2⟩⟩
    rw [if_neg e, show (991 - ppN tx len n) + 8 + 1 = (991 - ppN tx len n + 1) + 8 by omega, g3]
end
