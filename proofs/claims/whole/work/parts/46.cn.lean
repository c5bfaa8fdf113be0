/-! ===== the class's functions in normal form (n_), on the same cells ===== -/
theorem sub1 (x : Int32) : x - 1 = x + -1 := Int32.sub_eq_add_neg x 1
theorem N_forget {j : Nat} {L : LM} : g_X6_forgetConversions j L = some ((), z_forget j L) := Eq.trans rfl rfl
theorem N_idle {j : Nat} {L : LM} : g_X6_becomeIdle j L = some ((), z_idle j L) := Eq.trans rfl rfl
def n_pe (j : Nat) (L : LM) : Int32 := if 0 < L.1 (5, 2, j) ∧ L.1 (5, 4, j) + L.1 (5, 2, j) < L.1 (5, 1, j) then L.1 (5, 4, j) + L.1 (5, 2, j) else L.1 (5, 1, j)
def n_bp (j : Nat) (L : LM) : LM := wI L (5, 5, j) (n_pe j L)
def n_start (j : Nat) (t : Int32) (L : LM) : LM := if j = 1 then z_brk (L.1 (2, 11, 0)) (n_bp j (z_busy j t L)) else n_bp j (z_busy j t L)
theorem N_bp {j : Nat} {L : LM} : g_X6_beginPass j L = some ((), n_bp j L) := by
  unfold g_X6_beginPass g_X6_beginPass_27 g_X6_beginPass_28 n_bp n_pe
  dsimp only [nm]
  by_cases h1 : L.1 (5, 2, j) ≤ 0
  · rw [if_pos h1, if_pos rfl, if_neg (fun q => absurd q.1 (Int32.not_lt.mpr h1))]
  · rw [if_neg h1]
    by_cases h2 : L.1 (5, 1, j) ≤ L.1 (5, 4, j) + L.1 (5, 2, j)
    · rw [if_pos h2, if_pos rfl, if_neg (fun q => absurd q.2 (Int32.not_lt.mpr h2))]
    · rw [if_neg h2, if_neg (by first | decide | simp), if_pos ⟨Int32.not_le.mp h1, Int32.not_le.mp h2⟩]
theorem N_brk {k : Int32} {L : LM} : g_X3_breakOffRegular k L = some ((), z_brk k L) := by
  unfold g_X3_breakOffRegular z_brk z_b
  dsimp only [nm]
  simp only [N_forget, bng_some, rdw, rdl, rdw2, rdl1, Prod.mk.injEq, Nat.reduceEqDiff, and_self, and_true, true_and, and_false, false_and, ite_true, ite_false, ↓reduceIte]
  split
  · split <;> rfl
  · rfl
theorem N_seq {j : Nat} {L : LM} (hj : j < 2) : g_X3_sequenceOf (nI (j + 1)) L = some (j, L) := by
  rcases (show j = 0 ∨ j = 1 by omega) with rfl | rfl <;> rfl
theorem N_start {j : Nat} {t : Int32} {L : LM} (hj : j < 2) : g_X3_startSequence (nI (j + 1)) t L = some ((), n_start j t L) := by
  unfold g_X3_startSequence
  rw [N_seq hj, bng_some]
  unfold g_X6_becomeBusy
  dsimp only [nm]
  rw [N_bp, bng_some, bng_some, N_brk, bng_some]
  unfold n_start
  rcases (show j = 0 ∨ j = 1 by omega) with rfl | rfl
  · rw [if_neg (by first | decide | simp), if_neg (by first | decide | simp)]
    rfl
  · rw [if_pos (by first | decide | simp), if_pos rfl]
    unfold n_bp z_busy
    simp only [rdw, rdl, rdw2, rdl1, Prod.mk.injEq, Nat.reduceEqDiff, and_self, and_true, true_and, and_false, false_and, ite_true, ite_false, ↓reduceIte]
theorem N_ready {j : Nat} {L : LM} : g_X6_isReady j L = some (if L.1 (5, 1, j) ≤ 0 ∨ ¬ L.1 (5, 3, j) = 0 then 0 else 1, L) := by
  unfold g_X6_isReady g_X6_isReady_18
  by_cases h1 : L.1 (5, 1, j) ≤ 0
  · rw [if_pos h1, if_pos (Or.inl h1)]
  · rw [if_neg h1]
    by_cases h2 : L.1 (5, 3, j) = 0
    · rw [if_pos h2, if_neg (by rintro (q | q); exact h1 q; exact q h2)]
    · rw [if_neg h2, if_pos (Or.inr h2)]
theorem N_look {w : Nat} {c t y x : Int32} {L : LM} : g_X9_look w c t y x L = some ((), z_look w c t y x L) := by
  have key : ∀ n : Int32, g_X9_look_41 w c t y n w L = some ((), if n < L.1 (8, 3, w) ∨ ¬ L.1 (8, 6, w) = 0 then wI L (8, 5, w) n else wI (wI (wI (wI (wI L (8, 5, w) n) (8, 6, w) 1) (8, 7, w) y) (8, 8, w) c) (8, 9, w) t) := by
    intro n
    unfold g_X9_look_41
    dsimp only [nm]
    simp only [rdw, rdl, rdw2, rdl1, Prod.mk.injEq, Nat.reduceEqDiff, and_self, and_true, true_and, and_false, false_and, ite_true, ite_false, ↓reduceIte]
    by_cases h3 : n < L.1 (8, 3, w)
    · rw [if_pos h3, if_pos (Or.inl h3)]
    · rw [if_neg h3]
      by_cases h4 : L.1 (8, 6, w) = 0
      · rw [if_pos h4, if_neg (by rintro (q | q); exact h3 q; exact q h4)]
      · rw [if_neg h4, if_pos (Or.inr h4)]
  unfold g_X9_look g_X9_look_31 z_look z_cnt
  simp only [key]
  by_cases h3 : L.1 (8, 4, w) >>> (c &&& 31) &&& 1 = 0
  · rw [if_pos h3, if_pos h3]
  · rw [if_neg h3, if_neg h3]
    by_cases h4 : x < L.1 (8, 1, w)
    · rw [if_pos h4, if_pos (c := x < L.1 (8, 1, w) ∨ _) (Or.inl h4)]
    · rw [if_neg h4]
      by_cases h5 : x ≤ L.1 (8, 2, w)
      · rw [if_pos h5, if_neg (c := x < L.1 (8, 1, w) ∨ _) (by rintro (q | q); exact h4 q; exact absurd q (Int32.not_lt.mpr h5))]
      · rw [if_neg h5, if_pos (c := x < L.1 (8, 1, w) ∨ _) (Or.inr (Int32.not_le.mp h5))]
theorem N_sig {c : Nat} {x : Int32} {L : LM} (h : ¬ L.1 (0, 4, c) ≤ 0) : g_X1_signalAt c x L = some (sigV (L.1 (0, 2, c)) (L.1 (0, 3, c)) (L.1 (0, 4, c)) x, L) := by
  unfold g_X1_signalAt g_X1_signalAt_17 sigV
  dsimp only [nm]
  rw [if_neg h, if_neg (fun q => h (by rw [q]; exact Int32.le_refl 0))]
  split
  · split <;> rfl
  · rfl
theorem N_add {c : Nat} {x : Int32} {L : LM} : g_X1_addResult c x L = some ((), z_add c x L) := by
  unfold g_X1_addResult g_X1_addResult_15 g_X1_addResult_20 g_X1_addResult_35 g_X1_addResult_40 z_add z_lo z_hi
  dsimp only [nm]
  by_cases h1 : L.1 (0, 5, c) = 0
  · simp only [rdw, rdl, rdw2, rdl1, Prod.mk.injEq, Nat.reduceEqDiff, and_self, and_true, true_and, and_false, false_and, ite_true, ite_false, ↓reduceIte, if_pos h1, h1, true_or, if_true]
  · rw [if_neg h1]
    by_cases h2 : L.1 (0, 6, c) ≤ x
    · rw [if_pos h2, if_neg h1, if_neg (c := _ ∨ x < _) (by rintro (q | q); exact h1 q; exact absurd q (Int32.not_lt.mpr h2)), wI_self (a := (0, 6, c)) rfl]
      by_cases h3 : x ≤ L.1 (0, 7, c)
      · rw [if_pos h3, if_neg (by rintro (q | q); exact h1 q; exact absurd q (Int32.not_lt.mpr h3)), wI_self (a := (0, 7, c)) rfl]
        rfl
      · rw [if_neg h3, if_pos (Or.inr (Int32.not_le.mp h3))]
        simp only [rdw, rdl, rdw2, rdl1, Prod.mk.injEq, Nat.reduceEqDiff, and_self, and_true, true_and, and_false, false_and, ite_true, ite_false, ↓reduceIte]
    · rw [if_neg h2, if_pos (c := _ ∨ x < _) (Or.inr (Int32.not_le.mp h2))]
      simp only [rdw, rdl, rdw2, rdl1, Prod.mk.injEq, Nat.reduceEqDiff, and_self, and_true, true_and, and_false, false_and, ite_true, ite_false, ↓reduceIte, if_neg h1]
      by_cases h3 : x ≤ L.1 (0, 7, c)
      · rw [if_pos h3, if_neg (by rintro (q | q); exact h1 q; exact absurd q (Int32.not_lt.mpr h3)), wI_self (V := wI L (0, 6, c) x) (a := (0, 7, c)) (by simp only [rdw, rdl, rdw2, rdl1, Prod.mk.injEq, Nat.reduceEqDiff, and_self, and_true, true_and, and_false, false_and, ite_true, ite_false, ↓reduceIte])]
      · rw [if_neg h3, if_pos (Or.inr (Int32.not_le.mp h3))]
/-! rings: 2 ^ k rows -/
def rk : Nat → Nat := fun j => match j with | 0 => 16 | 1 => 64 | _ => 4
def MkC (L : LM) : Prop := ∀ j, j < 3 → L.1 (4, 1, j) = nI (rk j - 1)
theorem rk_and {j r : Nat} (h : r < 2 ^ 31) : nI r &&& nI (rk j - 1) = nI (r % rk j) := by
  unfold rk
  split
  · exact pk_andN (by omega) 4 (by first | decide | simp)
  · exact pk_andN (by omega) 6 (by first | decide | simp)
  · exact pk_andN (by omega) 2 (by first | decide | simp)
theorem rk_cap {j : Nat} : (akO (21, 0, j)).2 = 4 * rk j := by
  unfold akO rk
  rcases j with _ | _ | j <;> rfl
theorem rk_pos {j : Nat} : 0 < rk j ∧ rk j ≤ 64 := by
  unfold rk
  split <;> omega
theorem N_put {j r : Nat} {a b c d : Int32} {L : LM} (hm : L.1 (4, 1, j) = nI (rk j - 1)) (hr : r < 2 ^ 31) : g_X5_put j (nI r) a b c d L = some ((), z_put j (4 * (r % rk j)) a b c d L) := by
  unfold g_X5_put
  dsimp only [nm]
  have h0 := Nat.mod_lt r (rk_pos (j := j)).1
  have h1 := (rk_pos (j := j)).2
  rw [hm, rk_and hr, rk_cap, show nI (r % rk j) * 4 = nI (4 * (r % rk j)) by rw [show (4 : Int32) = nI 4 from rfl, pk_mul, Nat.mul_comm]]
  rw [show nI (4 * (r % rk j)) + 1 = nI (4 * (r % rk j) + 1) from nI_add _ 1, show nI (4 * (r % rk j)) + 2 = nI (4 * (r % rk j) + 2) from nI_add _ 2, show nI (4 * (r % rk j)) + 3 = nI (4 * (r % rk j) + 3) from nI_add _ 3]
  rw [if_neg (nbad (by omega) (by omega)), if_neg (nbad (by omega) (by omega)), if_neg (nbad (by omega) (by omega)), if_neg (nbad (by omega) (by omega)), nI_clamp (by omega), nI_clamp (by omega), nI_clamp (by omega), nI_clamp (by omega)]
  rfl
theorem N_num {j r k : Nat} {L : LM} (hm : L.1 (4, 1, j) = nI (rk j - 1)) (hr : r < 2 ^ 31) (hk : k < 4) : g_X5_number j (nI r) (nI k) L = some (L.1 (21, 4 * (r % rk j) + k, j), L) := by
  unfold g_X5_number
  have h0 := Nat.mod_lt r (rk_pos (j := j)).1
  have h1 := (rk_pos (j := j)).2
  rw [hm, rk_and hr, rk_cap, show nI (r % rk j) * 4 + nI k = nI (4 * (r % rk j) + k) by rw [show (4 : Int32) = nI 4 from rfl, pk_mul, Nat.mul_comm, nI_add]]
  rw [if_neg (nbad (by omega) (by omega)), nI_clamp (by omega)]
def n_drop (j : Nat) (L : LM) : LM := wI (wI L (4, 4, j) ((L.1 (4, 4, j) + 1) &&& L.1 (4, 1, j))) (4, 5, j) (L.1 (4, 5, j) - 1)
theorem N_drop {j : Nat} {L : LM} : g_X5_removeOldest j L = some ((), n_drop j L) := by
  unfold g_X5_removeOldest n_drop
  dsimp only [nm]
  simp only [rdw, rdl, rdw2, rdl1, Prod.mk.injEq, Nat.reduceEqDiff, and_self, and_true, true_and, and_false, false_and, ite_true, ite_false, ↓reduceIte]
theorem n_drop_rd {j : Nat} {L : LM} {x : Cl} (h : x ≠ (4, 4, j)) (h2 : x ≠ (4, 5, j)) : (n_drop j L).1 x = L.1 x := by
  unfold n_drop
  rw [rdw, if_neg h2, rdw, if_neg h]
theorem n_drop_o {j o : Nat} {L : LM} (hm : L.1 (4, 1, j) = nI (rk j - 1)) (ho : L.1 (4, 4, j) = nI o) (h : o < 64) : (n_drop j L).1 (4, 4, j) = nI ((o + 1) % rk j) := by
  unfold n_drop
  rw [rdw, if_neg (by simp), rdw, if_pos rfl, ho, hm, nI_1, rk_and (by omega)]
theorem n_drop_z {j z : Nat} {L : LM} (hz : L.1 (4, 5, j) = nI z) (h : 1 ≤ z) : (n_drop j L).1 (4, 5, j) = nI (z - 1) := by
  unfold n_drop
  rw [rdw, if_pos rfl, hz, show z = (z - 1) + 1 by omega, nI_pred, Nat.add_sub_cancel]
def n_put (j o z : Nat) (a t y x : Int32) (L : LM) : LM := wI (z_put j (4 * ((o + z) % rk j)) a t y x L) (4, 5, j) (L.1 (4, 5, j) + 1)
def n_enq (j o z c : Nat) (a t y x : Int32) (L : LM) : LM :=
  if z = c then (if L.1 (4, 3, j) = 0 then wI L (4, 6, j) (L.1 (4, 6, j) + 1) else n_put j ((o + 1) % rk j) (z - 1) a t y x (n_drop j (wI L (4, 6, j) (L.1 (4, 6, j) + 1)))) else n_put j o z a t y x L
theorem N_put33 {j o z : Nat} {a t y x : Int32} {L : LM} (hm : L.1 (4, 1, j) = nI (rk j - 1)) (ho : L.1 (4, 4, j) = nI o) (hz : L.1 (4, 5, j) = nI z) (h1 : o < 64) (h2 : z ≤ 64) : g_X5_add_33 j a t y x L = some ((), n_put j o z a t y x L) := by
  unfold g_X5_add_33
  rw [ho, hz, nI_add, N_put hm (by omega), bng_some, z_put_rd (by simp), hz]
  unfold n_put
  dsimp only [nm]
  rw [hz]
theorem N_enq {j o z c : Nat} {a t y x : Int32} {L : LM} (hm : L.1 (4, 1, j) = nI (rk j - 1)) (ho : L.1 (4, 4, j) = nI o) (hz : L.1 (4, 5, j) = nI z) (hc : L.1 (4, 2, j) = nI c) (h1 : o < 64) (h2 : z ≤ c) (h3 : c ≤ 64) (h4 : 1 ≤ c) : g_X5_add j a t y x L = some ((), n_enq j o z c a t y x L) := by
  unfold g_X5_add n_enq
  rw [hz, hc]
  by_cases h : z = c
  · subst h
    rw [if_neg (nI_nlt (by omega) (by omega)), if_pos rfl]
    dsimp only [nm]
    have r : ∀ x : Cl, x ≠ (4, 6, j) → (wI L (4, 6, j) (L.1 (4, 6, j) + 1)).1 x = L.1 x := fun x hx => by rw [rdw, if_neg hx]
    rw [r (4, 3, j) (by simp)]
    split
    · rfl
    · rw [N_drop, bng_some]
      have h5 := Nat.mod_lt (o + 1) (rk_pos (j := j)).1
      have h6 := (rk_pos (j := j)).2
      exact N_put33 (by rw [n_drop_rd (by simp) (by simp), r _ (by simp)]; exact hm) (n_drop_o (by rw [r _ (by simp)]; exact hm) (by rw [r _ (by simp)]; exact ho) h1) (n_drop_z (by rw [r _ (by simp)]; exact hz) h4) (by omega) (by omega)
  · rw [if_pos (nI_lt (by omega) (by omega)), if_neg h]
    exact N_put33 hm ho hz h1 (by omega)
