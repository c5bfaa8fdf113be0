/-! ===== statements ===== -/
theorem isSt_x {x : Int32} {M : Mem} : f_X12_isStatement x M = some (if x = 0 ∨ (6 ≤ x ∧ x ≤ 11) ∨ x = 14 ∨ x = 19 ∨ x = 22 ∨ x = 24 then 1 else 0, M) := by
  unfold f_X12_isStatement f_X12_isStatement_39
  by_cases h0 : x = 0
  · rw [if_pos h0, if_pos (Or.inl h0)]
  rw [if_neg h0]
  by_cases h1 : 6 ≤ x ∧ x ≤ 11
  · rw [iR1 h1, bnd_some, if_neg (by first | decide | simp), if_pos (Or.inr (Or.inl h1))]
  rw [iR0 h1, bnd_some, if_pos rfl]
  by_cases h2 : x = 14
  · rw [if_pos h2, if_pos (Or.inr (Or.inr (Or.inl h2)))]
  rw [if_neg h2]
  by_cases h3 : x = 19
  · rw [if_pos h3, if_pos (Or.inr (Or.inr (Or.inr (Or.inl h3))))]
  rw [if_neg h3]
  by_cases h4 : x = 22
  · rw [if_pos h4, if_pos (Or.inr (Or.inr (Or.inr (Or.inr (Or.inl h4)))))]
  rw [if_neg h4]
  by_cases h5 : x = 24
  · rw [if_pos h5, if_pos (Or.inr (Or.inr (Or.inr (Or.inr (Or.inr h5)))))]
  rw [if_neg h5, if_neg (fun q => by rcases q with q | q | q | q | q | q; exact h0 q; exact h1 q; exact h2 q; exact h3 q; exact h4 q; exact h5 q)]
theorem st_w : ∀ w, w < 26 → ((kmap w = 0 ∨ (6 ≤ kmap w ∧ kmap w ≤ 11) ∨ kmap w = 14 ∨ kmap w = 19 ∨ kmap w = 22 ∨ kmap w = 24) ↔ w ≤ 10) := by decide +kernel
theorem isSt {w : Nat} (hw : w < 26) {M : Mem} : f_X12_isStatement (kmap w) M = some (if w ≤ 10 then 1 else 0, M) := by
  rw [isSt_x]
  by_cases q : w ≤ 10
  · rw [if_pos ((st_w w hw).mpr q), if_pos q]
  · rw [if_neg (fun z => q ((st_w w hw).mp z)), if_neg q]
theorem isMt_x {x : Int32} {M : Mem} : f_X12_isManyTimes x M = some (if x = 0 ∨ x = 14 ∨ x = 19 then 1 else 0, M) := by
  unfold f_X12_isManyTimes f_X12_isManyTimes_16
  by_cases h0 : x = 0
  · rw [if_pos h0, if_pos (Or.inl h0)]
  rw [if_neg h0]
  by_cases h2 : x = 14
  · rw [if_pos h2, if_pos (Or.inr (Or.inl h2))]
  rw [if_neg h2]
  by_cases h3 : x = 19
  · rw [if_pos h3, if_pos (Or.inr (Or.inr h3))]
  rw [if_neg h3, if_neg (fun q => by rcases q with q | q | q; exact h0 q; exact h2 q; exact h3 q)]
theorem mt_w : ∀ w, w ≤ 10 → ((kmap w = 0 ∨ kmap w = 14 ∨ kmap w = 19) ↔ fw w = false) := by decide +kernel
theorem km_kn : ∀ w, w < 25 → kmap w = nI (kn w) ∧ kn w < 25 := by decide +kernel
theorem isMt {w : Nat} (hw : w ≤ 10) {M : Mem} : f_X12_isManyTimes (kmap w) M = some (if fw w = false then 1 else 0, M) := by
  rw [isMt_x]
  by_cases q : fw w = false
  · rw [if_pos ((mt_w w hw).mpr q), if_pos q]
  · rw [if_neg (fun z => q ((mt_w w hw).mp z)), if_neg q]
/-- the first word on the class's side -/
theorem tfw {len p w : Nat} {M N : Mem} {L V : LM} (h : PT len p 1 w M N L V) (hf : fw w = true) : f_X4_takeFirstWord M = if N.1 (36, 0, 0) (kn w) = 0 then bnd (f_X7_next (uI M (3, 0, 0) 4 ((M.1 (3, 0, 0) 4) ||| (wBit.getD w 0)))) (fun _ M5 => some (1, M5)) else some (0, uI (uI M (3, 0, 0) 8 3) (3, 0, 0) 9 (M.1 (6, 0, 0) 4)) := by
  obtain ⟨q1, q2, q3, q4⟩ := h.1.w
  have hb := h.2.2.2.2.1.wb (w := w) q1
  unfold f_X4_takeFirstWord
  rw [q2, wck_n q1, wck_n q1]
  by_cases z : N.1 (36, 0, 0) (kn w) = 0
  · rw [if_pos (hb.mpr (fun t => t.2 z)), if_pos z]
    rfl
  · rw [if_neg (fun t => (hb.mp t) ⟨hf, z⟩), if_neg z, cfail, bnd_some, if_neg (by first | decide | simp)]
/-- a statement's word on the reference's side -/
theorem ps_w {len p w : Nat} {M N : Mem} {L V : LM} (h : PT len p 1 w M N L V) (hw : w ≤ 10) : f_X12_parseStatement N = if N.1 (36, 0, 0) (kn w) = 0 ∨ fw w = false then f_X12_parseStatement_50 (kmap w) N else bnd (f_X12_fail 3 N) (fun _ M12 => f_X12_parseStatement_50 (kmap w) M12) := by
  obtain ⟨q1, q2, q3, q4⟩ := h.1.w
  obtain ⟨k1, k2, k3⟩ := h.1.k
  obtain ⟨n1, n2⟩ := km_kn w (by omega)
  unfold f_X12_parseStatement
  rw [k2, if_pos (show nI 1 = (1 : Int32) from rfl), q4 rfl, isSt q1, if_pos hw, bnd_some, if_neg (by first | decide | simp)]
  dsimp only [nm]
  rw [q4 rfl, if_neg (show ¬ bad (kmap w) 25 by rw [n1]; exact nbad n2 (by first | decide | simp)), show (kmap w).toNatClampNeg = kn w by rw [n1]; exact nI_clamp (by omega)]
  by_cases z : N.1 (36, 0, 0) (kn w) = 0
  · rw [if_pos z, if_pos (Or.inl z)]
  · rw [if_neg z, isMt hw, bnd_some]
    by_cases y : fw w = false
    · rw [if_pos y, if_neg (by first | decide | simp), if_pos (Or.inr y)]
    · rw [if_neg y, if_pos rfl, if_neg (fun t => t.elim z y)]
