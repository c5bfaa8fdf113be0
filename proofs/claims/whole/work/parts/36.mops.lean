/-! ===== the reference's steps as writes of its block ===== -/
abbrev pA (N : Mem) (β k : Nat) (v : Int32) : Mem := uI N (32, 0, 0) (472 * β + k) v
theorem pA_rd {N : Mem} {β k j : Nat} {v : Int32} : mA (pA N β k v) β j = if j = k then v else mA N β j := by
  unfold mA pA uI
  by_cases h : j = k
  · subst h; simp
  · rw [if_neg h]
    exact if_neg (fun q => h (by omega))
theorem pA_blk {N : Mem} {β k j : Nat} {v : Int32} : (pA N β k v).1 (10, 0, 0) j = N.1 (10, 0, 0) j := by
  simp [pA, uI]
theorem pA_set {N : Mem} {β k j : Nat} {v : Int32} : (pA N β k v).1 (31, 0, 0) j = N.1 (31, 0, 0) j := by
  simp [pA, uI]
theorem m_breakOff {β : Nat} {N : Mem} (hb : N.1 (10, 0, 0) 7 = nI β) (hβ : β < 5) : f_X12_breakOff N = some ((), pA (pA N β 1 0) β 7 (mA N β 7 + 1)) := by
  unfold f_X12_breakOff
  refine stp (e_puts hb hβ (k := 1) rfl (by omega)) ?_
  refine stp (e_adds (by rw [pA_blk]; exact hb) hβ (k := 7) rfl (by omega)) ?_
  rw [show (uI N (32, 0, 0) (472 * β + 1) 0).1 (32, 0, 0) (472 * β + 7) = mA N β 7 from by have h := pA_rd (N := N) (β := β) (k := 1) (j := 7) (v := 0); rw [if_neg (by decide)] at h; exact h]
theorem m_clearResult {β s : Nat} {N : Mem} (hb : N.1 (10, 0, 0) 7 = nI β) (hβ : β < 5) (hs : s < 2) : f_X12_clearResult (nI s) N = some ((), pA (pA N β (20 + 12 * s + 6) 0) β (20 + 12 * s + 7) 0) := by
  unfold f_X12_clearResult
  refine stp (e_seq rfl (k := 6) rfl) ?_
  refine stp (e_puts hb hβ rfl (by omega)) ?_
  refine stp (e_seq rfl (k := 7) rfl) ?_
  refine stp (e_puts (by rw [pA_blk]; exact hb) hβ rfl (by omega)) ?_
  rfl
theorem m_idle {β s : Nat} {N : Mem} (hb : N.1 (10, 0, 0) 7 = nI β) (hβ : β < 5) (hs : s < 2) : f_X12_idle (nI s) N = some ((), pA (pA (pA N β (20 + 12 * s + 0) 0) β (20 + 12 * s + 2) (-1)) β (20 + 12 * s + 3) (-1)) := by
  unfold f_X12_idle
  refine stp (e_seq rfl (k := 0) rfl) ?_
  refine stp (e_puts hb hβ rfl (by omega)) ?_
  refine stp (e_seq rfl (k := 2) rfl) ?_
  refine stp (e_puts (by rw [pA_blk]; exact hb) hβ rfl (by omega)) ?_
  refine stp (e_seq rfl (k := 3) rfl) ?_
  refine stp (e_puts (by rw [pA_blk, pA_blk]; exact hb) hβ rfl (by omega)) ?_
  rfl
