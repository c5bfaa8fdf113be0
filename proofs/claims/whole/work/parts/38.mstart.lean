/-! ===== the reference starts a sequence ===== -/
def busyM (β s : Nat) (t : Int32) (N : Mem) : Mem := pA (pA (pA N β (20 + 12 * s + 0) 1) β (20 + 12 * s + 2) t) β (20 + 12 * s + 3) (mA N β 0)
def passM (β s : Nat) (N : Mem) : Mem := pA N β (20 + 12 * s + 8) (leftV s (mS N 0 s) (mA N β (20 + 12 * s + 1)) (mS N 0 5))
def breakM (β : Nat) (N : Mem) : Mem := pA (pA N β 1 0) β 7 (mA N β 7 + 1)
def clearM (β s : Nat) (N : Mem) : Mem := pA (pA N β (20 + 12 * s + 6) 0) β (20 + 12 * s + 7) 0
def startM (β s : Nat) (t : Int32) (N : Mem) : Mem :=
  if s = 0 then passM β s (busyM β s t N)
  else if mA (passM β s (busyM β s t N)) β 1 = 1 then (if mS (breakM β (passM β s (busyM β s t N))) 0 4 = 0 then clearM β 0 (breakM β (passM β s (busyM β s t N))) else breakM β (passM β s (busyM β s t N)))
  else passM β s (busyM β s t N)
theorem blk_busy {β s j : Nat} {t : Int32} {N : Mem} : (busyM β s t N).1 (10, 0, 0) j = N.1 (10, 0, 0) j := by unfold busyM; rw [pA_blk, pA_blk, pA_blk]
theorem blk_pass {β s j : Nat} {N : Mem} : (passM β s N).1 (10, 0, 0) j = N.1 (10, 0, 0) j := by unfold passM; rw [pA_blk]
theorem blk_break {β j : Nat} {N : Mem} : (breakM β N).1 (10, 0, 0) j = N.1 (10, 0, 0) j := by unfold breakM; rw [pA_blk, pA_blk]
theorem m_startSequence {β s : Nat} {t : Int32} {N : Mem} (hb : N.1 (10, 0, 0) 7 = nI β) (hβ : β < 5) (hs : s < 2) : f_X12_startSequence (nI s) t N = some ((), startM β s t N) := by
  unfold f_X12_startSequence
  refine stp (e_seq rfl (k := 0) rfl) ?_
  refine stp (e_puts hb hβ rfl (by omega)) ?_
  refine stp (e_seq rfl (k := 2) rfl) ?_
  refine stp (e_puts (by rw [pA_blk]; exact hb) hβ rfl (by omega)) ?_
  refine stp (e_seq rfl (k := 3) rfl) ?_
  refine stp (e_its (by rw [pA_blk, pA_blk]; exact hb) hβ (k := 0) rfl (by omega)) ?_
  refine stp (e_puts (by rw [pA_blk, pA_blk]; exact hb) hβ rfl (by omega)) ?_
  have e0 : mA (pA (pA N β (20 + 12 * s + 0) 1) β (20 + 12 * s + 2) t) β 0 = mA N β 0 := by rw [pA_rd, if_neg (by omega), pA_rd, if_neg (by omega)]
  show bnd (f_X12_beginPass (nI s) (pA (pA (pA N β (20 + 12 * s + 0) 1) β (20 + 12 * s + 2) t) β (20 + 12 * s + 3) (mA (pA (pA N β (20 + 12 * s + 0) 1) β (20 + 12 * s + 2) t) β 0))) _ = _
  rw [e0]
  show bnd (f_X12_beginPass (nI s) (busyM β s t N)) _ = _
  refine stp (m_beginPass (by rw [blk_busy]; exact hb) hβ hs) ?_
  show (if nI s = 0 then some ((), passM β s (busyM β s t N)) else bnd (f_X12_its 1 (passM β s (busyM β s t N))) _) = _
  have hz : nI s = 0 ↔ s = 0 := by
    rw [show (0 : Int32) = nI 0 from rfl]
    exact nI_eq (by omega) (by decide)
  have hbp : (passM β s (busyM β s t N)).1 (10, 0, 0) 7 = nI β := by rw [blk_pass, blk_busy]; exact hb
  unfold startM
  by_cases h0 : s = 0
  · rw [if_pos (hz.mpr h0), if_pos h0]
  · rw [if_neg (fun q => h0 (hz.mp q)), if_neg h0]
    refine stp (e_its hbp hβ (k := 1) rfl (by omega)) ?_
    by_cases h1 : mA (passM β s (busyM β s t N)) β 1 = 1
    · rw [if_pos h1, if_pos h1]
      refine stp (m_breakOff hbp hβ) ?_
      rw [if_neg (show ¬ bad 4 104 from by decide)]
      have e4 : (Int32.toNatClampNeg 4) = 4 := by decide
      rw [e4]
      show (if (breakM β (passM β s (busyM β s t N))).1 (31, 0, 0) 4 = 0 then bnd (f_X12_clearResult 0 (breakM β (passM β s (busyM β s t N)))) _ else _) = _
      have hS : mS (breakM β (passM β s (busyM β s t N))) 0 4 = (breakM β (passM β s (busyM β s t N))).1 (31, 0, 0) 4 := by show (breakM β (passM β s (busyM β s t N))).1 (31, 0, 0) (0 + 4) = _; rw [Nat.zero_add]
      rw [hS]
      by_cases h2 : (breakM β (passM β s (busyM β s t N))).1 (31, 0, 0) 4 = 0
      · rw [if_pos h2, if_pos h2]
        refine stp (m_clearResult (s := 0) (by rw [blk_break]; exact hbp) hβ (by omega)) ?_
        rfl
      · rw [if_neg h2, if_neg h2]; rfl
    · rw [if_neg h1, if_neg h1]
