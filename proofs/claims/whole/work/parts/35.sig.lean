/-! ===== signals on both sides ===== -/
theorem stp {ρ σ : Type} {o : Option (ρ × Mem)} {r : ρ} {M : Mem} {k : ρ → Mem → Option (σ × Mem)} {y : Option (σ × Mem)} (h : o = some (r, M)) (K : k r M = y) : bnd o k = y := by rw [h]; exact K
def sigV (b sl p x : Int32) : Int32 := if 0 ≤ b + sl * (x - x / p * p) then (if b + sl * (x - x / p * p) ≤ 4095 then b + sl * (x - x / p * p) else 4095) else 0
theorem sig_class {c j : Nat} {x : Int32} {M : Mem} (h : 0 < M.1 (0, c, j) 4) : f_X1_signalAt c j x M = some (sigV (M.1 (0, c, j) 2) (M.1 (0, c, j) 3) (M.1 (0, c, j) 4) x, M) := by
  unfold f_X1_signalAt f_X1_signalAt_17 nm sigV
  rw [if_neg (Int32.not_le.mpr h), if_neg (fun q => by rw [q] at h; exact absurd h (by decide))]
  dsimp only
  by_cases h1 : 0 ≤ M.1 (0, c, j) 2 + M.1 (0, c, j) 3 * (x - x / M.1 (0, c, j) 4 * M.1 (0, c, j) 4)
  · rw [if_pos h1, if_pos h1]
    split <;> rfl
  · rw [if_neg h1, if_neg h1]
theorem sig_model {β j : Nat} {x : Int32} {N : Mem} (hb : N.1 (10, 0, 0) 7 = nI β) (hβ : β < 5) (hj : j < 8) (h : ¬ mA N β (44 + 7 * j + 3) = 0) : f_X12_signalOf (nI j) x N = some (sigV (mA N β (44 + 7 * j + 1)) (mA N β (44 + 7 * j + 2)) (mA N β (44 + 7 * j + 3)) x, N) := by
  unfold f_X12_signalOf
  refine stp (e_chan rfl (k := 1) rfl) ?_
  refine stp (e_its hb hβ rfl (by omega)) ?_
  refine stp (e_chan rfl (k := 2) rfl) ?_
  refine stp (e_its hb hβ rfl (by omega)) ?_
  refine stp (e_chan rfl (k := 3) rfl) ?_
  refine stp (e_its hb hβ rfl (by omega)) ?_
  rw [if_neg h]
  unfold nm sigV f_X12_lesser
  dsimp only
  by_cases h1 : 0 ≤ mA N β (44 + 7 * j + 1) + mA N β (44 + 7 * j + 2) * (x - x / mA N β (44 + 7 * j + 3) * mA N β (44 + 7 * j + 3))
  · rw [if_pos h1, if_pos h1]
    split <;> rfl
  · rw [if_neg h1, if_neg h1]
