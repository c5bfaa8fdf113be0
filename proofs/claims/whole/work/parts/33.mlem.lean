/-! ===== what the reference's small methods do, by numbers: block β of kind 32, settings of kind 31 ===== -/
theorem ix_blk {β k : Nat} : (472 : Int32) * nI β + nI k = nI (472 * β + k) := by
  rw [show (472 : Int32) = nI 472 from rfl, pk_mul, nI_add]
theorem nbad {k N : Nat} (h : k < N) (hN : N < 2 ^ 31) : ¬ bad (nI k) N := vp_in_nI h hN
theorem e_its {β k : Nat} {x : Int32} {M : Mem} (hb : M.1 (10, 0, 0) 7 = nI β) (hβ : β < 5) (hx : x = nI k) (hk : k < 472) : f_X12_its x M = some (M.1 (32, 0, 0) (472 * β + k), M) := by
  unfold f_X12_its
  rw [hb, hx, ix_blk, if_neg (nbad (by omega) (by decide)), nI_clamp (by omega)]
theorem e_puts {β k : Nat} {x v : Int32} {M : Mem} (hb : M.1 (10, 0, 0) 7 = nI β) (hβ : β < 5) (hx : x = nI k) (hk : k < 472) : f_X12_puts x v M = some ((), uI M (32, 0, 0) (472 * β + k) v) := by
  unfold f_X12_puts
  rw [hb, hx, ix_blk, if_neg (nbad (by omega) (by decide)), nI_clamp (by omega)]
  rfl
theorem e_adds {β k : Nat} {x v : Int32} {M : Mem} (hb : M.1 (10, 0, 0) 7 = nI β) (hβ : β < 5) (hx : x = nI k) (hk : k < 472) : f_X12_adds x v M = some ((), uI M (32, 0, 0) (472 * β + k) (M.1 (32, 0, 0) (472 * β + k) + v)) := by
  unfold f_X12_adds
  rw [hb, hx, ix_blk, if_neg (nbad (by omega) (by decide)), if_neg (nbad (by omega) (by decide)), nI_clamp (by omega)]
  rfl
theorem ix_seq {s k : Nat} : (20 : Int32) + 12 * nI s + nI k = nI (20 + 12 * s + k) := by
  rw [show (20 : Int32) = nI 20 from rfl, show (12 : Int32) = nI 12 from rfl, pk_mul, nI_add, nI_add]
theorem ix_chan {s k : Nat} : (44 : Int32) + 7 * nI s + nI k = nI (44 + 7 * s + k) := by
  rw [show (44 : Int32) = nI 44 from rfl, show (7 : Int32) = nI 7 from rfl, pk_mul, nI_add, nI_add]
theorem ix_trig {s k : Nat} : (100 : Int32) + 2 * nI s + nI k = nI (100 + 2 * s + k) := by
  rw [show (100 : Int32) = nI 100 from rfl, show (2 : Int32) = nI 2 from rfl, pk_mul, nI_add, nI_add]
theorem ix_win {s k : Nat} : (108 : Int32) + 8 * nI s + nI k = nI (108 + 8 * s + k) := by
  rw [show (108 : Int32) = nI 108 from rfl, show (8 : Int32) = nI 8 from rfl, pk_mul, nI_add, nI_add]
theorem e_seq {s k : Nat} {x y : Int32} {M : Mem} (hx : x = nI s) (hy : y = nI k) : f_X12_seq x y M = some (nI (20 + 12 * s + k), M) := by unfold f_X12_seq; rw [hx, hy, ix_seq]
theorem e_chan {s k : Nat} {x y : Int32} {M : Mem} (hx : x = nI s) (hy : y = nI k) : f_X12_chan x y M = some (nI (44 + 7 * s + k), M) := by unfold f_X12_chan; rw [hx, hy, ix_chan]
theorem e_trig {s k : Nat} {x y : Int32} {M : Mem} (hx : x = nI s) (hy : y = nI k) : f_X12_trig x y M = some (nI (100 + 2 * s + k), M) := by unfold f_X12_trig; rw [hx, hy, ix_trig]
theorem e_win {s k : Nat} {x y : Int32} {M : Mem} (hx : x = nI s) (hy : y = nI k) : f_X12_win x y M = some (nI (108 + 8 * s + k), M) := by unfold f_X12_win; rw [hx, hy, ix_win]
theorem e_entries {s : Nat} {x : Int32} {M : Mem} (hx : x = nI s) (hs : s < 104) : f_X12_entries x M = some (M.1 (31, 0, 0) s, M) := by
  unfold f_X12_entries
  rw [hx, show (0 : Int32) + nI s = nI s by rw [show (0 : Int32) = nI 0 from rfl, nI_add, Nat.zero_add], if_neg (nbad hs (by decide)), nI_clamp (by omega)]
theorem ix_ent {s k : Nat} : (10 : Int32) + 8 * nI s + nI k = nI (10 + 8 * s + k) := by
  rw [show (10 : Int32) = nI 10 from rfl, show (8 : Int32) = nI 8 from rfl, pk_mul, nI_add, nI_add]
theorem e_entryOf {s k : Nat} {x y : Int32} {M : Mem} (hx : x = nI s) (hy : y = nI k) (h : 10 + 8 * s + k < 104) : f_X12_entryOf x y M = some (M.1 (31, 0, 0) (10 + 8 * s + k), M) := by
  unfold f_X12_entryOf
  rw [hx, hy, ix_ent, if_neg (nbad h (by decide)), nI_clamp (by omega)]
theorem e_inRange {x lo hi : Int32} {M : Mem} : f_X12_inRange x lo hi M = some (if lo ≤ x ∧ x ≤ hi then 1 else 0, M) := by
  unfold f_X12_inRange f_X12_inRange_14
  by_cases h1 : x < lo
  · rw [if_pos h1, if_neg (fun q => absurd q.1 (Int32.not_le.mpr h1))]
  · rw [if_neg h1]
    by_cases h2 : hi < x
    · rw [if_pos h2, if_neg (fun q => absurd q.2 (Int32.not_le.mpr h2))]
    · rw [if_neg h2, if_pos ⟨Int32.not_lt.mp h1, Int32.not_lt.mp h2⟩]
/-- which of the three conditions is noted -/
def failN (a b c : Int32) : Int32 := if a = 0 then (if b = 0 then (if c = 0 then 0 else 3) else 2) else 1
theorem e_fails {a b c : Int32} {M : Mem} : f_X12_fails a b c M = some (if failN a b c = 0 then 0 else 1, uI M (10, 0, 0) 0 (failN a b c)) := by
  have key : ∀ v : Int32, (v = 0 ∨ v = 1 ∨ v = 2 ∨ v = 3) → f_X12_fails_26 v M = some (if v = 0 then 0 else 1, uI M (10, 0, 0) 0 v) := by
    intro v hv
    unfold f_X12_fails_26 nm
    show (if (uI M (10, 0, 0) 0 v).1 (10, 0, 0) 0 ≤ 0 then some ((0 : Int32), uI M (10, 0, 0) 0 v) else some (1, uI M (10, 0, 0) 0 v)) = _
    rw [uI_at]
    rcases hv with rfl | rfl | rfl | rfl <;> rfl
  unfold f_X12_fails failN
  by_cases ha : a = 0
  · rw [if_pos ha, if_pos ha]
    by_cases hb : b = 0
    · rw [if_pos hb, if_pos hb]
      by_cases hc : c = 0
      · rw [if_pos hc, if_pos hc, key 0 (Or.inl rfl)]
      · rw [if_neg hc, if_neg hc, key 3 (Or.inr (Or.inr (Or.inr rfl)))]
    · rw [if_neg hb, if_neg hb, key 2 (Or.inr (Or.inr (Or.inl rfl)))]
  · rw [if_neg ha, if_neg ha, key 1 (Or.inr (Or.inl rfl))]
