/-! ===== the class: starts, transfers, a whole cycle ===== -/
theorem N_cl {c : Nat} {L : LM} : g_X1_conversionLength c L = some (L.1 (0, 0, c) + 12, L) := Eq.trans rfl rfl
theorem N_nc {s p : Nat} {L : LM} (hs : s < 2) (hp : L.1 (5, 4, s) = nI p) (h : p < capE s) : g_X6_nextChannel s L = some (L.1 (20, p, s), L) := by
  have e : (akO (20, 0, s)).2 = capE s := by
    rcases (show s = 0 ∨ s = 1 by omega) with rfl | rfl <;> rfl
  have h8 : capE s ≤ 8 := by unfold capE; split <;> decide
  unfold g_X6_nextChannel
  rw [hp, e, if_neg (nI_pos (by omega)), show Int32.ofNat (capE s) = nI (capE s) from rfl, if_neg (nI_ge h (by omega)), if_neg (nbad h (by omega)), nI_clamp (by omega)]
def n_stc (s e : Nat) (L : LM) : LM := wI (wI (wI L (1, 0, 0) (nI (s + 1))) (1, 1, 0) (nI e)) (1, 2, 0) (L.1 (0, 0, e) + 12)
theorem N_stc43 {s p e : Nat} {L : LM} (hs : s < 2) (hi : L.1 (1, 0, 0) = nI (s + 1)) (hp : L.1 (5, 4, s) = nI p) (h : p < capE s) (he : e < 8) (h20 : L.1 (20, p, s) = nI e) : g_X3_startConversion_43 L = some ((), wI (wI L (1, 1, 0) (nI e)) (1, 2, 0) (L.1 (0, 0, e) + 12)) := by
  unfold g_X3_startConversion_43
  rw [hi, N_seq hs, bng_some, N_nc hs hp h, bng_some, h20]
  dsimp only [nm]
  simp only [rdw, rdl, rdw2, rdl1, Prod.mk.injEq, Nat.reduceEqDiff, and_self, and_true, true_and, and_false, false_and, ite_true, ite_false, ↓reduceIte, if_neg (nbad he (show 8 < 2 ^ 31 by decide)), nI_clamp (show e < 2 ^ 31 by omega), N_cl, bng_some]
theorem N_stc {L : LM} (hk : ∀ s, s < 2 → ¬ L.1 (5, 3, s) = 0 → ∃ p e, p < capE s ∧ L.1 (5, 4, s) = nI p ∧ e < 8 ∧ L.1 (20, p, s) = nI e) : g_X3_startConversion L = some ((), if L.1 (5, 3, 1) = 0 then (if L.1 (5, 3, 0) = 0 then L else n_stc 0 (L.1 (20, (L.1 (5, 4, 0)).toNatClampNeg, 0)).toNatClampNeg L) else n_stc 1 (L.1 (20, (L.1 (5, 4, 1)).toNatClampNeg, 1)).toNatClampNeg L) := by
  unfold g_X3_startConversion
  dsimp only [nm]
  have key : ∀ s, s < 2 → ¬ L.1 (5, 3, s) = 0 → g_X3_startConversion_43 (wI L (1, 0, 0) (nI (s + 1))) = some ((), n_stc s (L.1 (20, (L.1 (5, 4, s)).toNatClampNeg, s)).toNatClampNeg L) := by
    intro s hs h
    obtain ⟨p, e, h1, h2, h3, h4⟩ := hk s hs h
    have hp : p < 8 := by unfold capE at h1; split at h1 <;> omega
    rw [N_stc43 hs (by rw [rdw, if_pos rfl]) (by rw [rdw, if_neg (by simp)]; exact h2) h1 h3 (by rw [rdw, if_neg (by simp)]; exact h4)]
    rw [h2, nI_clamp (show p < 2 ^ 31 by omega), h4, nI_clamp (show e < 2 ^ 31 by omega)]
    unfold n_stc
    simp only [rdw, rdl, rdw2, rdl1, Prod.mk.injEq, Nat.reduceEqDiff, and_self, and_true, true_and, and_false, false_and, ite_true, ite_false, ↓reduceIte]
  by_cases h1 : L.1 (5, 3, 1) = 0
  · rw [if_pos h1, if_pos h1]
    by_cases h0 : L.1 (5, 3, 0) = 0
    · rw [if_pos h0, if_pos h0]
    · rw [if_neg h0, if_neg h0]
      exact key 0 (by first | decide | simp) h0
  · rw [if_neg h1, if_neg h1]
    exact key 1 (by first | decide | simp) h1
/-! triggers -/
abbrev n_due (t : Nat) (L : LM) : Prop := ¬ L.1 (7, 1, t) ≤ 0 ∧ ¬ L.1 (2, 15, 0) < L.1 (7, 2, t) ∧ (L.1 (2, 15, 0) - L.1 (7, 2, t)) - (L.1 (2, 15, 0) - L.1 (7, 2, t)) / L.1 (7, 1, t) * L.1 (7, 1, t) = 0
def z_fd (t : Nat) (L : LM) : LM := wI L (7, 3, t) (L.1 (7, 3, t) + 1)
def z_ms (t : Nat) (L : LM) : LM := wI L (7, 4, t) (L.1 (7, 4, t) + 1)
theorem N_fire {t : Nat} {L : LM} (ht : t < 4) (hT : L.1 (7, 0, t) = 0 ∨ L.1 (7, 0, t) = 1 ∨ L.1 (7, 0, t) = 2) : g_X3_fireTrigger (nI t) L = (if L.1 (7, 0, t) = 0 ∨ (L.1 (5, 1, (L.1 (7, 0, t)).toNatClampNeg - 1) ≤ 0 ∨ ¬ L.1 (5, 3, (L.1 (7, 0, t)).toNatClampNeg - 1) = 0) then some (0, z_ms t (z_fd t L)) else some (1, n_start ((L.1 (7, 0, t)).toNatClampNeg - 1) (nI t) (z_fd t L))) := by
  unfold g_X3_fireTrigger g_X3_fireTrigger_40
  rw [if_neg (nbad ht (by first | decide | simp)), nI_clamp (by omega)]
  dsimp only [nm]
  have e : wI L (7, 3, t) (L.1 (7, 3, t) + 1) = z_fd t L := rfl
  have e2 : wI (z_fd t L) (7, 4, t) ((z_fd t L).1 (7, 4, t) + 1) = z_ms t (z_fd t L) := rfl
  have r : ∀ a : Cl, a.1 ≠ 7 ∨ a.2.1 ≠ 3 → (z_fd t L).1 a = L.1 a := fun a ha => by
    unfold z_fd
    rw [rdw, if_neg (fun q => by subst q; rcases ha with h | h <;> exact h rfl)]
  rw [e, r (7, 0, t) (Or.inr (by simp))]
  have two : ∀ s, s < 2 → (if nI (s + 1) = 0 then some ((0 : Int32), wI (z_fd t L) (7, 4, t) ((z_fd t L).1 (7, 4, t) + 1)) else bng (g_X6_isReady s (z_fd t L)) fun r6 L7 => if r6 = 0 then some (0, wI L7 (7, 4, t) (L7.1 (7, 4, t) + 1)) else bng (g_X3_startSequence (L7.1 (7, 0, t)) (nI t) L7) fun r9 L10 => some (1, L10)) = (if nI (s + 1) = 0 ∨ (L.1 (5, 1, s) ≤ 0 ∨ ¬ L.1 (5, 3, s) = 0) then some (0, z_ms t (z_fd t L)) else (if L.1 (7, 0, t) = nI (s + 1) then some (1, n_start s (nI t) (z_fd t L)) else bng (g_X3_startSequence (L.1 (7, 0, t)) (nI t) (z_fd t L)) fun r9 L10 => some (1, L10))) := by
    intro s hs
    have h0 : ¬ nI (s + 1) = 0 := nI_ne0 (by omega) (by omega)
    rw [if_neg h0, N_ready, bng_some, r (5, 1, s) (Or.inl (by simp)), r (5, 3, s) (Or.inl (by simp)), r (7, 0, t) (Or.inr (by simp)), e2]
    by_cases h1 : L.1 (5, 1, s) ≤ 0 ∨ ¬ L.1 (5, 3, s) = 0
    · rw [if_pos h1, if_pos rfl, if_pos (Or.inr h1)]
    · rw [if_neg h1, if_neg (by first | decide | simp), if_neg (by rintro (q | q); exact h0 q; exact h1 q)]
      split
      · rename_i h2
        rw [h2, N_start hs, bng_some]
      · rfl
  rcases hT with hT | hT | hT
  · rw [hT, if_pos (Or.inl rfl), show g_X3_sequenceOf 0 (z_fd t L) = some (0, z_fd t L) from rfl, bng_some, r (7, 0, t) (Or.inr (by simp)), hT, if_pos rfl]
    rfl
  · have h := two 0 (by first | decide | simp)
    rw [hT] at h ⊢
    rw [show (1 : Int32) = nI (0 + 1) from rfl] at h ⊢
    rw [N_seq (by first | decide | simp), bng_some, r (7, 0, t) (Or.inr (by simp)), hT]
    rw [show (1 : Int32) = nI (0 + 1) from rfl, h, if_pos rfl, show (nI (0 + 1)).toNatClampNeg - 1 = 0 from rfl]
  · have h := two 1 (by first | decide | simp)
    rw [hT] at h ⊢
    rw [show (2 : Int32) = nI (1 + 1) from rfl] at h ⊢
    rw [N_seq (by first | decide | simp), bng_some, r (7, 0, t) (Or.inr (by simp)), hT]
    rw [show (2 : Int32) = nI (1 + 1) from rfl, h, if_pos rfl, show (nI (1 + 1)).toNatClampNeg - 1 = 1 from rfl]
/-! the transfer -/
theorem N_tr {o z o1 y : Nat} {L : LM} (hm : MkC L) (ho : L.1 (4, 4, 0) = nI o) (h1 : o < 16) (hz : L.1 (4, 5, 0) = nI z) (h2 : z ≤ 16) (h3 : 1 ≤ z) (ho1 : L.1 (4, 4, 1) = nI o1) (h4 : o1 < 64) (hy : L.1 (4, 5, 1) = nI y) (h5 : y ≤ 64) (hc : L.1 (4, 2, 1) = nI 64) (hn : L.1 (4, 3, 1) = 1) : ∀ (t cy x : Int32) (a : Int32), a = L.1 (21, 4 * (o % 16) + 0, 0) → t = L.1 (21, 4 * (o % 16) + 1, 0) → cy = L.1 (21, 4 * (o % 16) + 2, 0) → x = L.1 (21, 4 * (o % 16) + 3, 0) → g_X3_transferOldest L = some ((), wI (n_drop 0 (n_enq 1 o1 y 64 a t cy x L)) (2, 16, 0) ((n_drop 0 (n_enq 1 o1 y 64 a t cy x L)).1 (2, 16, 0) + 1)) := by
  intro t cy x a e0 e1 e2 e3
  unfold g_X3_transferOldest g_X5_oldestNumber
  have n := fun k hk => N_num (j := 0) (r := o) (k := k) (L := L) (hm 0 (by first | decide | simp)) (by omega) hk
  rw [hz, if_neg (nI_ne0 (by omega) (by omega)), ho]
  rw [show (0 : Int32) = nI 0 from rfl, n 0 (by first | decide | simp), bng_some, bng_some, ho]
  rw [show (1 : Int32) = nI 1 from rfl, n 1 (by first | decide | simp), bng_some, bng_some, ho]
  rw [show (2 : Int32) = nI 2 from rfl, n 2 (by first | decide | simp), bng_some, bng_some, ho]
  rw [show (3 : Int32) = nI 3 from rfl, n 3 (by first | decide | simp), bng_some, bng_some]
  rw [N_enq (hm 1 (by first | decide | simp)) ho1 hy hc h4 h5 (by first | decide | simp) (by first | decide | simp), bng_some, N_drop, bng_some, e0, e1, e2, e3]
  rfl
theorem N_pc88 {L : LM} : g_X3_passCycle_88 L = some ((), wI L (2, 15, 0) (L.1 (2, 15, 0) + 1)) := Eq.trans rfl rfl
