/-! ===== the reference's sequences ===== -/
/-- how many results a new pass makes -/
def leftV (s : Nat) (cnt pos grp : Int32) : Int32 := if s = 0 then (if grp ≤ 0 then cnt - pos else (if cnt - pos ≤ grp then cnt - pos else grp)) else cnt - pos
theorem m_beginPass {β s : Nat} {N : Mem} (hb : N.1 (10, 0, 0) 7 = nI β) (hβ : β < 5) (hs : s < 2) : f_X12_beginPass (nI s) N = some ((), pA N β (20 + 12 * s + 8) (leftV s (mS N 0 s) (mA N β (20 + 12 * s + 1)) (mS N 0 5))) := by
  unfold f_X12_beginPass f_X12_beginPass_46 f_X12_lesser
  refine stp (e_entries rfl (by omega)) ?_
  refine stp (e_seq rfl (k := 1) rfl) ?_
  refine stp (e_its hb hβ rfl (by omega)) ?_
  unfold nm
  dsimp only
  rw [if_neg (show ¬ bad 5 104 from by decide)]
  refine stp (e_seq rfl (k := 8) rfl) ?_
  have e5 : (Int32.toNatClampNeg 5) = 5 := by decide
  have hS0 : ∀ k, mS N 0 k = N.1 (31, 0, 0) k := fun k => by show N.1 (31, 0, 0) (0 + k) = _; rw [Nat.zero_add]
  have hp : ∀ v, f_X12_puts (nI (20 + 12 * s + 8)) v N = some ((), pA N β (20 + 12 * s + 8) v) := fun v => e_puts hb hβ rfl (by omega)
  rw [e5, hS0, hS0]
  unfold leftV
  have hz : nI s = 0 ↔ s = 0 := by
    rw [show (0 : Int32) = nI 0 from rfl]
    exact nI_eq (by omega) (by decide)
  by_cases h0 : s = 0
  · rw [if_pos (hz.mpr h0), if_pos h0]
    by_cases h1 : N.1 (31, 0, 0) 5 ≤ 0
    · rw [if_pos h1, if_pos h1, hp]; rfl
    · rw [if_neg h1, if_neg h1]
      by_cases h2 : N.1 (31, 0, 0) s - N.1 (32, 0, 0) (472 * β + (20 + 12 * s + 1)) ≤ N.1 (31, 0, 0) 5
      · rw [if_pos h2, if_pos h2]
        refine stp rfl ?_
        rw [hp]; rfl
      · rw [if_neg h2, if_neg h2]
        refine stp rfl ?_
        rw [hp]; rfl
  · rw [if_neg (fun q => h0 (hz.mp q)), if_neg h0, hp]; rfl
