/-! ===== the reference: channels' numbers, passes, results, conversions ===== -/
theorem wI_self {V : LM} {a : Cl} {v : Int32} (h : V.1 a = v) : wI V a v = V := by
  unfold wI
  refine Prod.ext (funext fun y => ?_) rfl
  dsimp only
  split
  · rename_i q; rw [q, h]
  · rfl
theorem wI_comm {V : LM} {a b : Cl} {v w : Int32} (h : a ≠ b) : wI (wI V a v) b w = wI (wI V b w) a v := by
  unfold wI
  refine Prod.ext (funext fun y => ?_) rfl
  dsimp only
  by_cases h1 : y = b
  · rw [if_pos h1, if_neg (fun q => h (q.symm.trans h1)), if_pos h1]
  · rw [if_neg h1, if_neg h1]
theorem wI_wL {V : LM} {a b : Cl} {v : Int64} {w : Int32} : wI (wL V a v) b w = wL (wI V b w) a v := rfl
def z_lo (c : Nat) (x : Int32) (V : LM) : Int32 := if V.1 (0, 5, c) = 0 ∨ x < V.1 (0, 6, c) then x else V.1 (0, 6, c)
def z_hi (c : Nat) (x : Int32) (V : LM) : Int32 := if V.1 (0, 5, c) = 0 ∨ V.1 (0, 7, c) < x then x else V.1 (0, 7, c)
def z_add (c : Nat) (x : Int32) (V : LM) : LM := wL (wI (wI (wI V (0, 6, c) (z_lo c x V)) (0, 7, c) (z_hi c x V)) (0, 5, c) (V.1 (0, 5, c) + 1)) (0, 8, c) (V.2 (0, 8, c) + Int32.toInt64 x)
theorem ixs2 {β c : Nat} : (10 : Int32) * nI β + 2 + nI c = nI (10 * β + (2 + c)) := by
  rw [show (10 : Int32) = nI 10 from rfl, show (2 : Int32) = nI 2 from rfl, pk_mul, nI_add, nI_add, Nat.add_assoc]
theorem ixs0 {β c : Nat} : (10 : Int32) * nI β + nI c = nI (10 * β + c) := by
  rw [show (10 : Int32) = nI 10 from rfl, pk_mul, nI_add]
theorem bad50 {β c : Nat} (hβ : β < 5) (hc : c < 10) : ¬ bad (nI (10 * β + c)) 50 := nbad (by omega) (by decide)
theorem cL_c {c : Nat} : cL (2 + c) = (0, 8, c) := by
  unfold cL
  rw [if_neg (by omega), Nat.add_sub_cancel_left]
theorem cL_s {s : Nat} (h : s < 2) : cL s = (5, 12, s) := if_pos h
theorem M_count {β : Nat} {N : Mem} {V : LM} (hb : N.1 (10, 0, 0) 7 = nI β) (hβ : β < 5) {c : Nat} {x : Int32} (hc : c < 8) : f_X12_countChannel (nI c) x (putM β 0 N V) = some ((), putM β 0 N (z_add c x V)) := by
  have k94 : ∀ V : LM, f_X12_countChannel_94 (nI c) x (putM β 0 N V) = some ((), putM β 0 N (wI V (0, 7, c) x)) := by
    intro V
    unfold f_X12_countChannel_94
    simp only [chan_0, chan_1, chan_2, chan_3, chan_4, chan_5, chan_6, itschan_0 hb hβ hc, putschan_0 hb hβ hc, addschan_0 hb hβ hc, itschan_1 hb hβ hc, putschan_1 hb hβ hc, addschan_1 hb hβ hc, itschan_2 hb hβ hc, putschan_2 hb hβ hc, addschan_2 hb hβ hc, itschan_3 hb hβ hc, putschan_3 hb hβ hc, addschan_3 hb hβ hc, itschan_4 hb hβ hc, putschan_4 hb hβ hc, addschan_4 hb hβ hc, itschan_5 hb hβ hc, putschan_5 hb hβ hc, addschan_5 hb hβ hc, itschan_6 hb hβ hc, putschan_6 hb hβ hc, addschan_6 hb hβ hc, bnd_some, nm]
  have k76 : ∀ (f : Int32) (V : LM), f_X12_countChannel_76 (nI c) x f (putM β 0 N V) = some ((), putM β 0 N (wI V (0, 7, c) (if ¬ f = 0 ∨ V.1 (0, 7, c) < x then x else V.1 (0, 7, c)))) := by
    intro f V
    unfold f_X12_countChannel_76
    simp only [chan_0, chan_1, chan_2, chan_3, chan_4, chan_5, chan_6, itschan_0 hb hβ hc, putschan_0 hb hβ hc, addschan_0 hb hβ hc, itschan_1 hb hβ hc, putschan_1 hb hβ hc, addschan_1 hb hβ hc, itschan_2 hb hβ hc, putschan_2 hb hβ hc, addschan_2 hb hβ hc, itschan_3 hb hβ hc, putschan_3 hb hβ hc, addschan_3 hb hβ hc, itschan_4 hb hβ hc, putschan_4 hb hβ hc, addschan_4 hb hβ hc, itschan_5 hb hβ hc, putschan_5 hb hβ hc, addschan_5 hb hβ hc, itschan_6 hb hβ hc, putschan_6 hb hβ hc, addschan_6 hb hβ hc, bnd_some, nm, k94]
    by_cases h1 : f = 0
    · rw [if_pos h1]
      by_cases h2 : x ≤ V.1 (0, 7, c)
      · rw [if_pos h2, if_neg (c := ¬ f = 0 ∨ _) (by rintro (q | q); exact q h1; exact absurd q (Int32.not_lt.mpr h2)), wI_self rfl]
      · rw [if_neg h2, if_pos (c := ¬ f = 0 ∨ _) (Or.inr (Int32.not_le.mp h2))]
    · rw [if_neg h1, if_pos (c := ¬ f = 0 ∨ _) (Or.inl h1)]
  have k17 : ∀ (f : Int32), (f = 0 ↔ ¬ V.1 (0, 5, c) = 0) → f_X12_countChannel_17 (nI c) x f (putM β 0 N V) = some ((), putM β 0 N (z_add c x V)) := by
    intro f hf
    unfold f_X12_countChannel_17 f_X12_countChannel_66
    simp only [chan_0, chan_1, chan_2, chan_3, chan_4, chan_5, chan_6, itschan_0 hb hβ hc, putschan_0 hb hβ hc, addschan_0 hb hβ hc, itschan_1 hb hβ hc, putschan_1 hb hβ hc, addschan_1 hb hβ hc, itschan_2 hb hβ hc, putschan_2 hb hβ hc, addschan_2 hb hβ hc, itschan_3 hb hβ hc, putschan_3 hb hβ hc, addschan_3 hb hβ hc, itschan_4 hb hβ hc, putschan_4 hb hβ hc, addschan_4 hb hβ hc, itschan_5 hb hβ hc, putschan_5 hb hβ hc, addschan_5 hb hβ hc, itschan_6 hb hβ hc, putschan_6 hb hβ hc, addschan_6 hb hβ hc, bnd_some, nm, rd10, hb, ixs2, if_neg (bad50 hβ (c := 2 + c) (by omega)), nI_clamp (n := 10 * β + (2 + c)) (by omega), rdL (i := 2 + c) (β := β) (by omega), wrL (i := 2 + c) (β := β) (by omega), cL_c, k76]
    simp only [rdw, rdl, rdw2, rdl1, Prod.mk.injEq, Nat.reduceEqDiff, and_self, and_true, true_and, and_false, false_and, ite_true, ite_false, ↓reduceIte]
    have e : (if f = 0 then (if V.1 (0, 6, c) ≤ x then (0 : Int32) else 1) else 1) = if V.1 (0, 5, c) = 0 ∨ x < V.1 (0, 6, c) then 1 else 0 := by
      by_cases h1 : f = 0
      · rw [if_pos h1]
        by_cases h2 : V.1 (0, 6, c) ≤ x
        · rw [if_pos h2, if_neg (by rintro (q | q); exact (hf.mp h1) q; exact absurd q (Int32.not_lt.mpr h2))]
        · rw [if_neg h2, if_pos (Or.inr (Int32.not_le.mp h2))]
      · rw [if_neg h1, if_pos (Or.inl (Decidable.not_not.mp (fun q => h1 (hf.mpr q))))]
    have eh : (if ¬ f = 0 ∨ V.1 (0, 7, c) < x then x else V.1 (0, 7, c)) = z_hi c x V := by
      unfold z_hi
      by_cases h1 : f = 0
      · have h2 := hf.mp h1
        by_cases h3 : V.1 (0, 7, c) < x
        · rw [if_pos (Or.inr h3), if_pos (Or.inr h3)]
        · rw [if_neg (by rintro (q | q); exact q h1; exact h3 q), if_neg (by rintro (q | q); exact h2 q; exact h3 q)]
      · have h2 : V.1 (0, 5, c) = 0 := Decidable.not_not.mp (fun q => h1 (hf.mpr q))
        rw [if_pos (Or.inl h1), if_pos (Or.inl h2)]
    rw [eh]
    have z1 : wI (wL (wI V (0, 5, c) (V.1 (0, 5, c) + 1)) (0, 8, c) (V.2 (0, 8, c) + Int32.toInt64 x)) (0, 7, c) (z_hi c x V) = wL (wI (wI V (0, 7, c) (z_hi c x V)) (0, 5, c) (V.1 (0, 5, c) + 1)) (0, 8, c) (V.2 (0, 8, c) + Int32.toInt64 x) := by
      rw [wI_wL, wI_comm (by simp)]
    have z2 : wI (wI (wL (wI V (0, 5, c) (V.1 (0, 5, c) + 1)) (0, 8, c) (V.2 (0, 8, c) + Int32.toInt64 x)) (0, 6, c) x) (0, 7, c) (z_hi c x V) = wL (wI (wI (wI V (0, 6, c) x) (0, 7, c) (z_hi c x V)) (0, 5, c) (V.1 (0, 5, c) + 1)) (0, 8, c) (V.2 (0, 8, c) + Int32.toInt64 x) := by
      rw [wI_wL, wI_wL, wI_comm (a := (0, 5, c)) (b := (0, 6, c)) (by simp), wI_comm (a := (0, 5, c)) (b := (0, 7, c)) (by simp)]
    rw [z1, z2]
    unfold z_add z_lo
    by_cases h1 : f = 0
    · rw [if_pos h1]
      by_cases h2 : V.1 (0, 6, c) ≤ x
      · rw [if_pos h2, if_neg (by rintro (q | q); exact (hf.mp h1) q; exact absurd q (Int32.not_lt.mpr h2)), wI_self (a := (0, 6, c)) rfl]
      · rw [if_neg h2, if_pos (Or.inr (Int32.not_le.mp h2))]
    · rw [if_neg h1, if_pos (Or.inl (Decidable.not_not.mp (fun q => h1 (hf.mpr q))))]
  unfold f_X12_countChannel
  simp only [chan_0, chan_1, chan_2, chan_3, chan_4, chan_5, chan_6, itschan_0 hb hβ hc, putschan_0 hb hβ hc, addschan_0 hb hβ hc, itschan_1 hb hβ hc, putschan_1 hb hβ hc, addschan_1 hb hβ hc, itschan_2 hb hβ hc, putschan_2 hb hβ hc, addschan_2 hb hβ hc, itschan_3 hb hβ hc, putschan_3 hb hβ hc, addschan_3 hb hβ hc, itschan_4 hb hβ hc, putschan_4 hb hβ hc, addschan_4 hb hβ hc, itschan_5 hb hβ hc, putschan_5 hb hβ hc, addschan_5 hb hβ hc, itschan_6 hb hβ hc, putschan_6 hb hβ hc, addschan_6 hb hβ hc, bnd_some, nm]
  by_cases h : V.1 (0, 5, c) = 0
  · rw [if_pos h]
    exact k17 1 ⟨fun q => absurd q (by decide), fun q => absurd h q⟩
  · rw [if_neg h]
    exact k17 0 ⟨fun _ => h, fun _ => rfl⟩
/-! passes -/
def m_end1 (V : LM) : LM := wI (z_idle 1 (wI V (5, 9, 1) (V.1 (5, 9, 1) + 1))) (5, 4, 1) 0
def m_end3 (V : LM) : LM := if V.1 (2, 9, 0) = 1 then m_bp 0 V else z_idle 0 V
def m_end2 (V : LM) : LM := if V.1 (2, 10, 0) = 1 ∧ ¬ V.1 (5, 1, 1) ≤ 0 ∧ V.1 (5, 3, 1) = 0 then m_end3 (m_start 1 (V.1 (5, 6, 0)) V) else m_end3 V
def m_end0 (V : LM) : LM := if V.1 (5, 4, 0) = V.1 (5, 1, 0) then m_end2 (wI (wI V (5, 9, 0) (V.1 (5, 9, 0) + 1)) (5, 4, 0) 0) else m_end2 (wI V (5, 9, 0) (V.1 (5, 9, 0) + 1))
def m_end (s : Nat) (V : LM) : LM := if s = 1 then m_end1 V else m_end0 V
theorem M_end3 {β : Nat} {N : Mem} {V : LM} (hb : N.1 (10, 0, 0) 7 = nI β) (hβ : β < 5) : f_X12_endPass_103 (putM β 0 N V) = some ((), putM β 0 N (m_end3 V)) := by
  unfold f_X12_endPass_103
  have h1 := M_bp (V := V) hb hβ (j := 0) (by decide)
  have h2 := M_idle (V := V) hb hβ (j := 0) (by decide)
  rw [show nI 0 = (0 : Int32) from rfl] at h1 h2
  rw [h1, h2, bnd_some, bnd_some, if_neg (of_eq_false nb_6), set_6]
  unfold m_end3
  split <;> rfl
theorem M_end2 {β : Nat} {N : Mem} {V : LM} (hb : N.1 (10, 0, 0) 7 = nI β) (hβ : β < 5) : f_X12_endPass_58 (putM β 0 N V) = some ((), putM β 0 N (m_end2 V)) := by
  unfold f_X12_endPass_58
  have h1 : ∀ t, f_X12_startSequence 1 t (putM β 0 N V) = _ := fun t => M_start (V := V) hb hβ (j := 1) (t := t) (by decide)
  simp only [entries_1, seq_0_0, seq_0_1, seq_0_2, seq_0_3, seq_0_4, seq_0_5, seq_0_6, seq_0_7, seq_0_8, itsseq_0 hb hβ (s := 0) (ltb rfl), putsseq_0 hb hβ (s := 0) (ltb rfl), addsseq_0 hb hβ (s := 0) (ltb rfl), itsseq_1 hb hβ (s := 0) (ltb rfl), putsseq_1 hb hβ (s := 0) (ltb rfl), addsseq_1 hb hβ (s := 0) (ltb rfl), itsseq_2 hb hβ (s := 0) (ltb rfl), putsseq_2 hb hβ (s := 0) (ltb rfl), addsseq_2 hb hβ (s := 0) (ltb rfl), itsseq_3 hb hβ (s := 0) (ltb rfl), putsseq_3 hb hβ (s := 0) (ltb rfl), addsseq_3 hb hβ (s := 0) (ltb rfl), itsseq_4 hb hβ (s := 0) (ltb rfl), putsseq_4 hb hβ (s := 0) (ltb rfl), addsseq_4 hb hβ (s := 0) (ltb rfl), itsseq_5 hb hβ (s := 0) (ltb rfl), putsseq_5 hb hβ (s := 0) (ltb rfl), addsseq_5 hb hβ (s := 0) (ltb rfl), itsseq_6 hb hβ (s := 0) (ltb rfl), putsseq_6 hb hβ (s := 0) (ltb rfl), addsseq_6 hb hβ (s := 0) (ltb rfl), itsseq_7 hb hβ (s := 0) (ltb rfl), putsseq_7 hb hβ (s := 0) (ltb rfl), addsseq_7 hb hβ (s := 0) (ltb rfl), itsseq_8 hb hβ (s := 0) (ltb rfl), putsseq_8 hb hβ (s := 0) (ltb rfl), addsseq_8 hb hβ (s := 0) (ltb rfl), seq_1_0, seq_1_1, seq_1_2, seq_1_3, seq_1_4, seq_1_5, seq_1_6, seq_1_7, seq_1_8, itsseq_0 hb hβ (s := 1) (ltb rfl), putsseq_0 hb hβ (s := 1) (ltb rfl), addsseq_0 hb hβ (s := 1) (ltb rfl), itsseq_1 hb hβ (s := 1) (ltb rfl), putsseq_1 hb hβ (s := 1) (ltb rfl), addsseq_1 hb hβ (s := 1) (ltb rfl), itsseq_2 hb hβ (s := 1) (ltb rfl), putsseq_2 hb hβ (s := 1) (ltb rfl), addsseq_2 hb hβ (s := 1) (ltb rfl), itsseq_3 hb hβ (s := 1) (ltb rfl), putsseq_3 hb hβ (s := 1) (ltb rfl), addsseq_3 hb hβ (s := 1) (ltb rfl), itsseq_4 hb hβ (s := 1) (ltb rfl), putsseq_4 hb hβ (s := 1) (ltb rfl), addsseq_4 hb hβ (s := 1) (ltb rfl), itsseq_5 hb hβ (s := 1) (ltb rfl), putsseq_5 hb hβ (s := 1) (ltb rfl), addsseq_5 hb hβ (s := 1) (ltb rfl), itsseq_6 hb hβ (s := 1) (ltb rfl), putsseq_6 hb hβ (s := 1) (ltb rfl), addsseq_6 hb hβ (s := 1) (ltb rfl), itsseq_7 hb hβ (s := 1) (ltb rfl), putsseq_7 hb hβ (s := 1) (ltb rfl), addsseq_7 hb hβ (s := 1) (ltb rfl), itsseq_8 hb hβ (s := 1) (ltb rfl), putsseq_8 hb hβ (s := 1) (ltb rfl), addsseq_8 hb hβ (s := 1) (ltb rfl), bnd_some, nm, h1, M_end3 hb hβ, set_7, nb_7, if_false]
  unfold m_end2
  by_cases h2 : V.1 (2, 10, 0) = 1
  · rw [if_pos h2]
    by_cases h3 : V.1 (5, 1, 1) ≤ 0
    · rw [if_pos h3, if_neg (fun q => q.2.1 h3)]
    · rw [if_neg h3]
      by_cases h4 : V.1 (5, 3, 1) = 0
      · rw [if_pos h4, if_pos ⟨h2, h3, h4⟩]
      · rw [if_neg h4, if_neg (fun q => h4 q.2.2)]
  · rw [if_neg h2, if_neg (fun q => h2 q.1)]
theorem M_end {β : Nat} {N : Mem} {V : LM} (hb : N.1 (10, 0, 0) 7 = nI β) (hβ : β < 5) {s : Nat} (hs : s < 2) : f_X12_endPass (nI s) (putM β 0 N V) = some ((), putM β 0 N (m_end s V)) := by
  unfold f_X12_endPass
  have h1 := fun V : LM => M_idle (V := V) hb hβ (j := 1) (by decide)
  rw [show nI 1 = (1 : Int32) from rfl] at h1
  simp only [entries_0, seq_0, seq_1, seq_2, seq_3, seq_4, seq_5, seq_6, seq_7, seq_8, itsseq_0 hb hβ hs, putsseq_0 hb hβ hs, addsseq_0 hb hβ hs, itsseq_1 hb hβ hs, putsseq_1 hb hβ hs, addsseq_1 hb hβ hs, itsseq_2 hb hβ hs, putsseq_2 hb hβ hs, addsseq_2 hb hβ hs, itsseq_3 hb hβ hs, putsseq_3 hb hβ hs, addsseq_3 hb hβ hs, itsseq_4 hb hβ hs, putsseq_4 hb hβ hs, addsseq_4 hb hβ hs, itsseq_5 hb hβ hs, putsseq_5 hb hβ hs, addsseq_5 hb hβ hs, itsseq_6 hb hβ hs, putsseq_6 hb hβ hs, addsseq_6 hb hβ hs, itsseq_7 hb hβ hs, putsseq_7 hb hβ hs, addsseq_7 hb hβ hs, itsseq_8 hb hβ hs, putsseq_8 hb hβ hs, addsseq_8 hb hβ hs, seq_0_0, seq_0_1, seq_0_2, seq_0_3, seq_0_4, seq_0_5, seq_0_6, seq_0_7, seq_0_8, itsseq_0 hb hβ (s := 0) (ltb rfl), putsseq_0 hb hβ (s := 0) (ltb rfl), addsseq_0 hb hβ (s := 0) (ltb rfl), itsseq_1 hb hβ (s := 0) (ltb rfl), putsseq_1 hb hβ (s := 0) (ltb rfl), addsseq_1 hb hβ (s := 0) (ltb rfl), itsseq_2 hb hβ (s := 0) (ltb rfl), putsseq_2 hb hβ (s := 0) (ltb rfl), addsseq_2 hb hβ (s := 0) (ltb rfl), itsseq_3 hb hβ (s := 0) (ltb rfl), putsseq_3 hb hβ (s := 0) (ltb rfl), addsseq_3 hb hβ (s := 0) (ltb rfl), itsseq_4 hb hβ (s := 0) (ltb rfl), putsseq_4 hb hβ (s := 0) (ltb rfl), addsseq_4 hb hβ (s := 0) (ltb rfl), itsseq_5 hb hβ (s := 0) (ltb rfl), putsseq_5 hb hβ (s := 0) (ltb rfl), addsseq_5 hb hβ (s := 0) (ltb rfl), itsseq_6 hb hβ (s := 0) (ltb rfl), putsseq_6 hb hβ (s := 0) (ltb rfl), addsseq_6 hb hβ (s := 0) (ltb rfl), itsseq_7 hb hβ (s := 0) (ltb rfl), putsseq_7 hb hβ (s := 0) (ltb rfl), addsseq_7 hb hβ (s := 0) (ltb rfl), itsseq_8 hb hβ (s := 0) (ltb rfl), putsseq_8 hb hβ (s := 0) (ltb rfl), addsseq_8 hb hβ (s := 0) (ltb rfl), seq_1_0, seq_1_1, seq_1_2, seq_1_3, seq_1_4, seq_1_5, seq_1_6, seq_1_7, seq_1_8, itsseq_0 hb hβ (s := 1) (ltb rfl), putsseq_0 hb hβ (s := 1) (ltb rfl), addsseq_0 hb hβ (s := 1) (ltb rfl), itsseq_1 hb hβ (s := 1) (ltb rfl), putsseq_1 hb hβ (s := 1) (ltb rfl), addsseq_1 hb hβ (s := 1) (ltb rfl), itsseq_2 hb hβ (s := 1) (ltb rfl), putsseq_2 hb hβ (s := 1) (ltb rfl), addsseq_2 hb hβ (s := 1) (ltb rfl), itsseq_3 hb hβ (s := 1) (ltb rfl), putsseq_3 hb hβ (s := 1) (ltb rfl), addsseq_3 hb hβ (s := 1) (ltb rfl), itsseq_4 hb hβ (s := 1) (ltb rfl), putsseq_4 hb hβ (s := 1) (ltb rfl), addsseq_4 hb hβ (s := 1) (ltb rfl), itsseq_5 hb hβ (s := 1) (ltb rfl), putsseq_5 hb hβ (s := 1) (ltb rfl), addsseq_5 hb hβ (s := 1) (ltb rfl), itsseq_6 hb hβ (s := 1) (ltb rfl), putsseq_6 hb hβ (s := 1) (ltb rfl), addsseq_6 hb hβ (s := 1) (ltb rfl), itsseq_7 hb hβ (s := 1) (ltb rfl), putsseq_7 hb hβ (s := 1) (ltb rfl), addsseq_7 hb hβ (s := 1) (ltb rfl), itsseq_8 hb hβ (s := 1) (ltb rfl), putsseq_8 hb hβ (s := 1) (ltb rfl), addsseq_8 hb hβ (s := 1) (ltb rfl), bnd_some, nm, h1, M_end2 hb hβ, nI_o hs]
  unfold m_end
  rcases (show s = 0 ∨ s = 1 by omega) with rfl | rfl
  · rw [if_neg (show ¬ (0 : Nat) = 1 by decide), if_neg (show ¬ (0 : Nat) = 1 by decide)]
    simp only [rdw, rdl, rdw2, rdl1, Prod.mk.injEq, Nat.reduceEqDiff, and_self, and_true, true_and, and_false, false_and, ite_true, ite_false, ↓reduceIte]
    unfold m_end0
    split <;> rfl
  · rw [if_pos rfl, if_pos rfl]
    rfl
/-! the start of a conversion -/
def z_stc (s : Nat) (e : Nat) (V : LM) : LM := wI (wI (wI (wI V (1, 0, 0) (nI (s + 1))) (1, 1, 0) (nI e)) (1, 6, 0) (V.1 (0, 0, e))) (1, 2, 0) (V.1 (0, 0, e) + 12)
theorem M_stc18 {β : Nat} {N : Mem} {V : LM} (hb : N.1 (10, 0, 0) 7 = nI β) (hβ : β < 5) {s : Nat} (hs : s < 2) (h0 : V.1 (1, 0, 0) = 0) (hk : ¬ V.1 (5, 3, s) = 0 → ∃ p e, p < capE s ∧ V.1 (5, 4, s) = nI p ∧ e < 8 ∧ V.1 (20, p, s) = nI e) : f_X12_startConversion_18 (nI s) (putM β 0 N V) = some ((), putM β 0 N (if V.1 (5, 3, s) = 0 then V else z_stc s (V.1 (20, (V.1 (5, 4, s)).toNatClampNeg, s)).toNatClampNeg V)) := by
  unfold f_X12_startConversion_18
  by_cases h : V.1 (5, 3, s) = 0
  · simp only [its_0 hb hβ, puts_0 hb hβ, adds_0 hb hβ, its_1 hb hβ, puts_1 hb hβ, adds_1 hb hβ, its_2 hb hβ, puts_2 hb hβ, adds_2 hb hβ, its_3 hb hβ, puts_3 hb hβ, adds_3 hb hβ, its_4 hb hβ, puts_4 hb hβ, adds_4 hb hβ, its_5 hb hβ, puts_5 hb hβ, adds_5 hb hβ, its_6 hb hβ, puts_6 hb hβ, adds_6 hb hβ, its_7 hb hβ, puts_7 hb hβ, adds_7 hb hβ, its_8 hb hβ, puts_8 hb hβ, adds_8 hb hβ, its_9 hb hβ, puts_9 hb hβ, adds_9 hb hβ, its_10 hb hβ, puts_10 hb hβ, adds_10 hb hβ, its_11 hb hβ, puts_11 hb hβ, adds_11 hb hβ, its_12 hb hβ, puts_12 hb hβ, adds_12 hb hβ, its_13 hb hβ, puts_13 hb hβ, adds_13 hb hβ, its_155 hb hβ, seq_0, seq_1, seq_2, seq_3, seq_4, seq_5, seq_6, seq_7, seq_8, itsseq_0 hb hβ hs, putsseq_0 hb hβ hs, addsseq_0 hb hβ hs, itsseq_1 hb hβ hs, putsseq_1 hb hβ hs, addsseq_1 hb hβ hs, itsseq_2 hb hβ hs, putsseq_2 hb hβ hs, addsseq_2 hb hβ hs, itsseq_3 hb hβ hs, putsseq_3 hb hβ hs, addsseq_3 hb hβ hs, itsseq_4 hb hβ hs, putsseq_4 hb hβ hs, addsseq_4 hb hβ hs, itsseq_5 hb hβ hs, putsseq_5 hb hβ hs, addsseq_5 hb hβ hs, itsseq_6 hb hβ hs, putsseq_6 hb hβ hs, addsseq_6 hb hβ hs, itsseq_7 hb hβ hs, putsseq_7 hb hβ hs, addsseq_7 hb hβ hs, itsseq_8 hb hβ hs, putsseq_8 hb hβ hs, addsseq_8 hb hβ hs, bnd_some, nm, h0, h, if_pos]
  · obtain ⟨p, e, h1, h2, h3, h4⟩ := hk h
    have hp : p < 8 := by unfold capE at h1; split at h1 <;> omega
    simp only [its_0 hb hβ, puts_0 hb hβ, adds_0 hb hβ, its_1 hb hβ, puts_1 hb hβ, adds_1 hb hβ, its_2 hb hβ, puts_2 hb hβ, adds_2 hb hβ, its_3 hb hβ, puts_3 hb hβ, adds_3 hb hβ, its_4 hb hβ, puts_4 hb hβ, adds_4 hb hβ, its_5 hb hβ, puts_5 hb hβ, adds_5 hb hβ, its_6 hb hβ, puts_6 hb hβ, adds_6 hb hβ, its_7 hb hβ, puts_7 hb hβ, adds_7 hb hβ, its_8 hb hβ, puts_8 hb hβ, adds_8 hb hβ, its_9 hb hβ, puts_9 hb hβ, adds_9 hb hβ, its_10 hb hβ, puts_10 hb hβ, adds_10 hb hβ, its_11 hb hβ, puts_11 hb hβ, adds_11 hb hβ, its_12 hb hβ, puts_12 hb hβ, adds_12 hb hβ, its_13 hb hβ, puts_13 hb hβ, adds_13 hb hβ, its_155 hb hβ, seq_0, seq_1, seq_2, seq_3, seq_4, seq_5, seq_6, seq_7, seq_8, itsseq_0 hb hβ hs, putsseq_0 hb hβ hs, addsseq_0 hb hβ hs, itsseq_1 hb hβ hs, putsseq_1 hb hβ hs, addsseq_1 hb hβ hs, itsseq_2 hb hβ hs, putsseq_2 hb hβ hs, addsseq_2 hb hβ hs, itsseq_3 hb hβ hs, putsseq_3 hb hβ hs, addsseq_3 hb hβ hs, itsseq_4 hb hβ hs, putsseq_4 hb hβ hs, addsseq_4 hb hβ hs, itsseq_5 hb hβ hs, putsseq_5 hb hβ hs, addsseq_5 hb hβ hs, itsseq_6 hb hβ hs, putsseq_6 hb hβ hs, addsseq_6 hb hβ hs, itsseq_7 hb hβ hs, putsseq_7 hb hβ hs, addsseq_7 hb hβ hs, itsseq_8 hb hβ hs, putsseq_8 hb hβ hs, addsseq_8 hb hβ hs, chan_0, chan_1, chan_2, chan_3, chan_4, chan_5, chan_6, itschan_0 hb hβ h3, putschan_0 hb hβ h3, addschan_0 hb hβ h3, itschan_1 hb hβ h3, putschan_1 hb hβ h3, addschan_1 hb hβ h3, itschan_2 hb hβ h3, putschan_2 hb hβ h3, addschan_2 hb hβ h3, itschan_3 hb hβ h3, putschan_3 hb hβ h3, addschan_3 hb hβ h3, itschan_4 hb hβ h3, putschan_4 hb hβ h3, addschan_4 hb hβ h3, itschan_5 hb hβ h3, putschan_5 hb hβ h3, addschan_5 hb hβ h3, itschan_6 hb hβ h3, putschan_6 hb hβ h3, addschan_6 hb hβ h3, bnd_some, nm, h0, h, h2, h4, entryOf_ hs h1, if_pos, if_false, nI_clamp (show p < 2 ^ 31 by omega), nI_clamp (show e < 2 ^ 31 by omega), nI_1]
    simp only [rdw, rdl, rdw2, rdl1, Prod.mk.injEq, Nat.reduceEqDiff, and_self, and_true, true_and, and_false, false_and, ite_true, ite_false, ↓reduceIte]
    rfl
theorem M_stc {β : Nat} {N : Mem} {V : LM} (hb : N.1 (10, 0, 0) 7 = nI β) (hβ : β < 5) (h0 : V.1 (1, 0, 0) = 0) (hz : V.1 (5, 3, 1) = 0 ∨ V.1 (5, 3, 1) = 1) (hk : ∀ s, s < 2 → ¬ V.1 (5, 3, s) = 0 → ∃ p e, p < capE s ∧ V.1 (5, 4, s) = nI p ∧ e < 8 ∧ V.1 (20, p, s) = nI e) : f_X12_startConversion (putM β 0 N V) = some ((), putM β 0 N (if V.1 (5, 3, 1) = 0 then (if V.1 (5, 3, 0) = 0 then V else z_stc 0 (V.1 (20, (V.1 (5, 4, 0)).toNatClampNeg, 0)).toNatClampNeg V) else z_stc 1 (V.1 (20, (V.1 (5, 4, 1)).toNatClampNeg, 1)).toNatClampNeg V)) := by
  unfold f_X12_startConversion
  simp only [seq_1_0, seq_1_1, seq_1_2, seq_1_3, seq_1_4, seq_1_5, seq_1_6, seq_1_7, seq_1_8, itsseq_0 hb hβ (s := 1) (ltb rfl), putsseq_0 hb hβ (s := 1) (ltb rfl), addsseq_0 hb hβ (s := 1) (ltb rfl), itsseq_1 hb hβ (s := 1) (ltb rfl), putsseq_1 hb hβ (s := 1) (ltb rfl), addsseq_1 hb hβ (s := 1) (ltb rfl), itsseq_2 hb hβ (s := 1) (ltb rfl), putsseq_2 hb hβ (s := 1) (ltb rfl), addsseq_2 hb hβ (s := 1) (ltb rfl), itsseq_3 hb hβ (s := 1) (ltb rfl), putsseq_3 hb hβ (s := 1) (ltb rfl), addsseq_3 hb hβ (s := 1) (ltb rfl), itsseq_4 hb hβ (s := 1) (ltb rfl), putsseq_4 hb hβ (s := 1) (ltb rfl), addsseq_4 hb hβ (s := 1) (ltb rfl), itsseq_5 hb hβ (s := 1) (ltb rfl), putsseq_5 hb hβ (s := 1) (ltb rfl), addsseq_5 hb hβ (s := 1) (ltb rfl), itsseq_6 hb hβ (s := 1) (ltb rfl), putsseq_6 hb hβ (s := 1) (ltb rfl), addsseq_6 hb hβ (s := 1) (ltb rfl), itsseq_7 hb hβ (s := 1) (ltb rfl), putsseq_7 hb hβ (s := 1) (ltb rfl), addsseq_7 hb hβ (s := 1) (ltb rfl), itsseq_8 hb hβ (s := 1) (ltb rfl), putsseq_8 hb hβ (s := 1) (ltb rfl), addsseq_8 hb hβ (s := 1) (ltb rfl), bnd_some, nm, zo1 hz]
  by_cases h : V.1 (5, 3, 1) = 0
  · rw [if_neg (fun q => q h), if_pos h]
    exact M_stc18 hb hβ (s := 0) (by decide) h0 (hk 0 (by decide))
  · rw [if_pos h, if_neg h]
    have h1 := M_stc18 hb hβ (s := 1) (by decide) h0 (hk 1 (by decide))
    rw [if_neg h] at h1
    exact h1
