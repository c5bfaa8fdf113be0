/-! ===== signals on both sides ===== -/
theorem stp {ρ σ : Type} {o : Option (ρ × Mem)} {r : ρ} {M : Mem} {k : ρ → Mem → Option (σ × Mem)} {y : Option (σ × Mem)} (h : o = some (r, M)) (K : k r M = y) : bnd o k = y := by rw [h]; exact K
def sigV (b sl p x : Int32) : Int32 := if 0 ≤ b + sl * (x - x / p * p) then (if b + sl * (x - x / p * p) ≤ 4095 then b + sl * (x - x / p * p) else 4095) else 0
