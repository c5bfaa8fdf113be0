/-! ===== the class: passes, results, conversions ===== -/
def n_end1 (L : LM) : LM := z_idle 1 (wI (wI L (5, 9, 1) (L.1 (5, 9, 1) + 1)) (5, 4, 1) 0)
def n_end3 (L : LM) : LM := if L.1 (2, 9, 0) = 0 then z_idle 0 L else n_bp 0 L
def n_end2 (L : LM) : LM := if L.1 (2, 10, 0) = 0 ∨ (L.1 (5, 1, 1) ≤ 0 ∨ ¬ L.1 (5, 3, 1) = 0) then n_end3 L else n_end3 (n_start 1 (L.1 (5, 6, 0)) L)
def n_end0 (L : LM) : LM := if L.1 (5, 4, 0) < L.1 (5, 1, 0) then n_end2 (wI L (5, 9, 0) (L.1 (5, 9, 0) + 1)) else n_end2 (wI (wI L (5, 9, 0) (L.1 (5, 9, 0) + 1)) (5, 4, 0) 0)
def n_end (s : Nat) (L : LM) : LM := if s = 1 then n_end1 L else n_end0 L
theorem N_end3 {L : LM} : g_X3_endPass_89 L = some ((), n_end3 L) := by
  unfold g_X3_endPass_89 n_end3
  simp only [N_idle, N_bp, bng_some]
  split <;> rfl
theorem N_end2 {L : LM} : g_X3_endPass_60 L = some ((), n_end2 L) := by
  unfold g_X3_endPass_60 n_end2
  have h : ∀ t, g_X3_startSequence 2 t L = some ((), n_start 1 t L) := fun t => N_start (j := 1) (by first | decide | simp)
  simp only [N_end3, N_ready, h, bng_some]
  by_cases h1 : L.1 (2, 10, 0) = 0
  · rw [if_pos h1, if_pos (Or.inl h1)]
  · rw [if_neg h1]
    by_cases h2 : L.1 (5, 1, 1) ≤ 0 ∨ ¬ L.1 (5, 3, 1) = 0
    · rw [if_pos h2, if_pos rfl, if_pos (Or.inr h2)]
    · rw [if_neg h2, if_neg (by first | decide | simp), if_neg (by rintro (q | q); exact h1 q; exact h2 q)]
theorem N_end {s : Nat} {L : LM} (hs : s < 2) : g_X3_endPass (nI (s + 1)) L = some ((), n_end s L) := by
  unfold g_X3_endPass
  rw [N_seq hs, bng_some]
  unfold n_end
  dsimp only [nm]
  simp only [N_idle, N_end2, bng_some]
  rcases (show s = 0 ∨ s = 1 by omega) with rfl | rfl
  · rw [if_neg (show ¬ nI (0 + 1) = (2 : Int32) by decide), if_neg (show ¬ (0 : Nat) = 1 by decide)]
    simp only [rdw, rdl, rdw2, rdl1, Prod.mk.injEq, Nat.reduceEqDiff, and_self, and_true, true_and, and_false, false_and, ite_true, ite_false, ↓reduceIte]
    unfold n_end0
    split <;> rfl
  · rw [if_pos (by first | decide | simp), if_pos rfl]
    rfl
def n_mid (s : Nat) (L : LM) : LM := wL (wI L (5, 8, s) (L.1 (5, 8, s) + 1)) (5, 12, s) (L.2 (5, 12, s) + Int32.toInt64 (L.1 (2, 15, 0) - L.1 (5, 7, s)))
def n_fin7 (s p o z k : Nat) (c t x : Int32) (L : LM) : LM := if s = 1 then z_put 2 (4 * (p % 4)) c t (L.1 (2, 15, 0)) x L else n_enq 0 o z k c t (L.1 (2, 15, 0)) x L
def n_fin8 (s : Nat) (L : LM) : LM := wI L (5, 4, s) (L.1 (5, 4, s) + 1)
def n_fin (s c p o z k : Nat) (L : LM) : LM := n_fin8 s (n_fin7 s p o z k (nI c) (L.1 (5, 6, s)) (z_val s c L) (n_mid s (z_add c (z_val s c L) (z_looks (nI c) (L.1 (5, 6, s)) (L.1 (2, 15, 0)) (z_val s c L) (z_forget s L)))))
theorem z_forget_rd {s : Nat} {L : LM} {a : Cl} (h : a.1 ≠ 5 ∨ a.2.1 < 10) : (z_forget s L).1 a = L.1 a := by
  unfold z_forget
  have key : ∀ f, 10 ≤ f → a ≠ (5, f, s) := by
    intro f hf q
    subst q
    rcases h with h | h
    · exact h rfl
    · exact absurd h (by simpa using hf)
  rw [rdw, if_neg (key 11 (by first | decide | simp)), rdw, if_neg (key 10 (by first | decide | simp))]
theorem n_mid_rd {s : Nat} {L : LM} {a : Cl} (h : a.1 ≠ 5 ∨ a.2.1 ≠ 8) : (n_mid s L).1 a = L.1 a := by
  unfold n_mid
  rw [rdl1, rdw, if_neg (fun q => by subst q; rcases h with h | h <;> exact h rfl)]
theorem N_fin53 {s c p o z k : Nat} {x : Int32} {L : LM} (hs : s < 2) (hm : MkC L) (ho : L.1 (4, 4, 0) = nI o) (hz : L.1 (4, 5, 0) = nI z) (hk : L.1 (4, 2, 0) = nI k) (h1 : o < 64) (h2 : z ≤ k) (h3 : k ≤ 64) (h4 : 1 ≤ k) (hq : L.1 (5, 4, s) = nI p) (hp : p < 64) {n : Nat} : g_X3_finishResult_53 (n + 4) (nI (s + 1)) s (nI c) c x 0 L = some ((), n_fin8 s (n_fin7 s p o z k (nI c) (L.1 (5, 6, s)) x (n_mid s (z_add c x (z_looks (nI c) (L.1 (5, 6, s)) (L.1 (2, 15, 0)) x L))))) := by
  have st : ∀ (n w : Nat) (L : LM), w < 3 → g_X3_finishResult_53 (n + 1) (nI (s + 1)) s (nI c) c x (nI w) L = g_X3_finishResult_53 n (nI (s + 1)) s (nI c) c x (nI (w + 1)) (z_look w (nI c) (L.1 (5, 6, s)) (L.1 (2, 15, 0)) x L) := by
    intro n w L hw
    rw [show g_X3_finishResult_53 (n + 1) (nI (s + 1)) s (nI c) c x (nI w) L = _ from Eq.trans (by unfold g_X3_finishResult_53; exact rfl) rfl]
    rw [if_neg (ge3 hw), if_neg (nbad hw (by first | decide | simp)), nI_clamp (by omega), N_look, bng_some]
    dsimp only [nm]
    rw [nI_1]
  rw [show (0 : Int32) = nI 0 from rfl, st (n + 3) 0 L (by first | decide | simp), st (n + 2) 1 _ (by first | decide | simp), st (n + 1) 2 _ (by first | decide | simp)]
  rw [z_look_rd (w := 0) (a := (2, 15, 0)) (Or.inl (by first | decide | simp)), z_look_rd (w := 0) (a := (5, 6, s)) (Or.inl (by first | decide | simp)), z_look_rd (w := 1) (a := (2, 15, 0)) (Or.inl (by first | decide | simp)), z_look_rd (w := 1) (a := (5, 6, s)) (Or.inl (by first | decide | simp)), z_look_rd (w := 0) (a := (2, 15, 0)) (Or.inl (by first | decide | simp)), z_look_rd (w := 0) (a := (5, 6, s)) (Or.inl (by first | decide | simp))]
  have e : z_look 2 (nI c) (L.1 (5, 6, s)) (L.1 (2, 15, 0)) x (z_look 1 (nI c) (L.1 (5, 6, s)) (L.1 (2, 15, 0)) x (z_look 0 (nI c) (L.1 (5, 6, s)) (L.1 (2, 15, 0)) x L)) = z_looks (nI c) (L.1 (5, 6, s)) (L.1 (2, 15, 0)) x L := rfl
  rw [e]
  rw [show g_X3_finishResult_53 (n + 1) (nI (s + 1)) s (nI c) c x (nI (2 + 1)) (z_looks (nI c) (L.1 (5, 6, s)) (L.1 (2, 15, 0)) x L) = _ from Eq.trans (by unfold g_X3_finishResult_53; exact rfl) rfl]
  rw [if_pos (by first | decide | simp), N_add, bng_some]
  dsimp only [nm]
  have e2 : ∀ L : LM, wL (wI L (5, 8, s) (L.1 (5, 8, s) + 1)) (5, 12, s) ((wI L (5, 8, s) (L.1 (5, 8, s) + 1)).2 (5, 12, s) + Int32.toInt64 ((wI L (5, 8, s) (L.1 (5, 8, s) + 1)).1 (2, 15, 0) - (wI L (5, 8, s) (L.1 (5, 8, s) + 1)).1 (5, 7, s))) = n_mid s L := by
    intro L
    unfold n_mid
    simp only [rdw, rdl, rdw2, rdl1, Prod.mk.injEq, Nat.reduceEqDiff, and_self, and_true, true_and, and_false, false_and, ite_true, ite_false, ↓reduceIte]
  rw [e2]
  have r : ∀ a : Cl, a.1 ≠ 8 → a.1 ≠ 0 → (a.1 ≠ 5 ∨ a.2.1 ≠ 8) → (n_mid s (z_add c x (z_looks (nI c) (L.1 (5, 6, s)) (L.1 (2, 15, 0)) x L))).1 a = L.1 a := by
    intro a h1 h2 h3
    rw [n_mid_rd h3, z_add_rd h2, z_looks_rd h1]
  rw [r (5, 4, s) (by first | decide | simp) (by first | decide | simp) (Or.inr (by simp)), r (5, 6, s) (by first | decide | simp) (by first | decide | simp) (Or.inr (by simp)), r (2, 15, 0) (by first | decide | simp) (by first | decide | simp) (Or.inl (by first | decide | simp)), hq]
  have m : MkC (n_mid s (z_add c x (z_looks (nI c) (L.1 (5, 6, s)) (L.1 (2, 15, 0)) x L))) := by
    intro j hj
    rw [r _ (by simp) (by simp) (Or.inl (by simp))]
    exact hm j hj
  unfold g_X3_finishResult_170 n_fin8 n_fin7
  dsimp only [nm]
  rcases (show s = 0 ∨ s = 1 by omega) with rfl | rfl
  · rw [if_neg (by first | decide | simp), if_neg (by first | decide | simp), N_enq (m 0 (by first | decide | simp)) (by rw [r _ (by first | decide | simp) (by first | decide | simp) (Or.inl (by first | decide | simp))]; exact ho) (by rw [r _ (by first | decide | simp) (by first | decide | simp) (Or.inl (by first | decide | simp))]; exact hz) (by rw [r _ (by first | decide | simp) (by first | decide | simp) (Or.inl (by first | decide | simp))]; exact hk) h1 h2 h3 h4, bng_some, r (2, 15, 0) (by first | decide | simp) (by first | decide | simp) (Or.inl (by first | decide | simp))]
  · rw [if_pos (by first | decide | simp), if_pos rfl, N_put (m 2 (by first | decide | simp)) (by omega), bng_some, r (2, 15, 0) (by first | decide | simp) (by first | decide | simp) (Or.inl (by first | decide | simp))]
    rfl
theorem N_fin {s c p o z k : Nat} {L : LM} (hs : s < 2) (hcc : L.1 (1, 1, 0) = nI c) (hc : c < 8) (hm : MkC L) (ho : L.1 (4, 4, 0) = nI o) (hz : L.1 (4, 5, 0) = nI z) (hk : L.1 (4, 2, 0) = nI k) (h1 : o < 64) (h2 : z ≤ k) (h3 : k ≤ 64) (h4 : 1 ≤ k) (hq : L.1 (5, 4, s) = nI p) (hp : p < 64) : g_X3_finishResult (nI (s + 1)) s L = some ((), n_fin s c p o z k L) := by
  unfold g_X3_finishResult
  rw [hcc]
  dsimp only [nm]
  rw [if_neg (nbad hc (by first | decide | simp)), nI_clamp (by omega)]
  have r : ∀ a : Cl, a.1 ≠ 5 ∨ a.2.1 < 10 → (z_forget s L).1 a = L.1 a := fun a ha => z_forget_rd ha
  have key : ∀ x, g_X3_finishResult_44 (nI (s + 1)) s (nI c) c x L = some ((), n_fin8 s (n_fin7 s p o z k (nI c) (L.1 (5, 6, s)) x (n_mid s (z_add c x (z_looks (nI c) (L.1 (5, 6, s)) (L.1 (2, 15, 0)) x (z_forget s L)))))) := by
    intro x
    unfold g_X3_finishResult_44
    rw [N_forget, bng_some, show fuelN = 5996 + 4 from rfl, N_fin53 hs (fun j hj => by rw [r _ (Or.inl (by simp))]; exact hm j hj) (by rw [r _ (Or.inl (by first | decide | simp))]; exact ho) (by rw [r _ (Or.inl (by first | decide | simp))]; exact hz) (by rw [r _ (Or.inl (by first | decide | simp))]; exact hk) h1 h2 h3 h4 (by rw [r _ (Or.inr (by simp))]; exact hq) hp, r (5, 6, s) (Or.inr (by simp)), r (2, 15, 0) (Or.inl (by first | decide | simp))]
  rw [key, key]
  unfold n_fin z_val
  split <;> rfl
def n_cv1 (c : Nat) (L : LM) : LM := if L.1 (1, 2, 0) - 1 = 12 then wI (wI L (1, 2, 0) (L.1 (1, 2, 0) - 1)) (1, 3, 0) (sigV (L.1 (0, 2, c)) (L.1 (0, 3, c)) (L.1 (0, 4, c)) (L.1 (2, 15, 0))) else wI L (1, 2, 0) (L.1 (1, 2, 0) - 1)
def n_cv4 (s : Nat) (L : LM) : LM := if L.1 (5, 4, s) < L.1 (5, 5, s) then L else n_end s L
def n_cv3 (s c p o z k : Nat) (L : LM) : LM := if (z_cv2 s L).1 (5, 10, s) < 1 <<< ((z_cv2 s L).1 (2, 12, 0) &&& 31) then z_cv2 s L else n_cv4 s (n_fin s c p o z k (z_cv2 s L))
def n_cv2 (s c p o z k : Nat) (L : LM) : LM := if L.1 (1, 2, 0) ≤ 0 then n_cv3 s c p o z k L else L
theorem z_cv2_rd {s : Nat} {L : LM} {a : Cl} (h3 : a.1 ≠ 1 ∨ a.2.1 ≠ 0 ∧ a.2.1 ≠ 4) (h4 : a.1 = 5 → a.2.1 < 10) : (z_cv2 s L).1 a = L.1 a := by
  unfold z_cv2
  simp only [rdw]
  rw [if_neg (fun q => by subst q; exact absurd (h4 rfl) (by first | decide | simp)), if_neg (fun q => by subst q; exact absurd (h4 rfl) (by first | decide | simp)), if_neg (fun q => by subst q; rcases h3 with h | h; exact h rfl; exact h.2 rfl), if_neg (fun q => by subst q; rcases h3 with h | h; exact h rfl; exact h.1 rfl)]
theorem N_cv2 {s c p o z k : Nat} {L : LM} (hs : s < 2) (hi : L.1 (1, 0, 0) = nI (s + 1)) (hcc : L.1 (1, 1, 0) = nI c) (hc : c < 8) (hm : MkC L) (ho : L.1 (4, 4, 0) = nI o) (hz : L.1 (4, 5, 0) = nI z) (hk : L.1 (4, 2, 0) = nI k) (h1 : o < 64) (h2 : z ≤ k) (h3 : k ≤ 64) (h4 : 1 ≤ k) (hq : L.1 (5, 4, s) = nI p) (hp : p < 64) : g_X3_advanceConversion_51 L = some ((), n_cv2 s c p o z k L) := by
  unfold g_X3_advanceConversion_51
  rw [hi]
  dsimp only [nm]
  rw [N_seq hs, bng_some]
  have e : wI (wI (wI (wI L (1, 0, 0) 0) (1, 4, 0) ((wI L (1, 0, 0) 0).1 (1, 4, 0) + 1)) (5, 10, s) ((wI (wI L (1, 0, 0) 0) (1, 4, 0) ((wI L (1, 0, 0) 0).1 (1, 4, 0) + 1)).1 (5, 10, s) + 1)) (5, 11, s) ((wI (wI (wI L (1, 0, 0) 0) (1, 4, 0) ((wI L (1, 0, 0) 0).1 (1, 4, 0) + 1)) (5, 10, s) ((wI (wI L (1, 0, 0) 0) (1, 4, 0) ((wI L (1, 0, 0) 0).1 (1, 4, 0) + 1)).1 (5, 10, s) + 1)).1 (5, 11, s) + (wI (wI (wI L (1, 0, 0) 0) (1, 4, 0) ((wI L (1, 0, 0) 0).1 (1, 4, 0) + 1)) (5, 10, s) ((wI (wI L (1, 0, 0) 0) (1, 4, 0) ((wI L (1, 0, 0) 0).1 (1, 4, 0) + 1)).1 (5, 10, s) + 1)).1 (1, 3, 0)) = z_cv2 s L := by
    unfold z_cv2
    simp only [rdw, rdl, rdw2, rdl1, Prod.mk.injEq, Nat.reduceEqDiff, and_self, and_true, true_and, and_false, false_and, ite_true, ite_false, ↓reduceIte]
  rw [e]
  have r : ∀ a : Cl, (a.1 ≠ 1 ∨ a.2.1 ≠ 0 ∧ a.2.1 ≠ 4) → (a.1 = 5 → a.2.1 < 10) → (z_cv2 s L).1 a = L.1 a := fun a h3 h4 => z_cv2_rd h3 h4
  rw [N_fin hs (by rw [r _ (Or.inr (by first | decide | simp)) (fun q => absurd q (by first | decide | simp))]; exact hcc) hc (fun j hj => by rw [r _ (Or.inl (by simp)) (fun q => absurd q (by simp))]; exact hm j hj) (by rw [r _ (Or.inl (by first | decide | simp)) (fun q => absurd q (by first | decide | simp))]; exact ho) (by rw [r _ (Or.inl (by first | decide | simp)) (fun q => absurd q (by first | decide | simp))]; exact hz) (by rw [r _ (Or.inl (by first | decide | simp)) (fun q => absurd q (by first | decide | simp))]; exact hk) h1 h2 h3 h4 (by rw [r _ (Or.inl (by first | decide | simp)) (fun _ => (by first | decide | simp))]; exact hq) hp, bng_some, N_end hs]
  unfold n_cv2 n_cv3 n_cv4
  split
  · split
    · rfl
    · split <;> rfl
  · rfl
theorem N_cv {s c p o z k : Nat} {L : LM} (hs : s < 2) (hi : L.1 (1, 0, 0) = nI (s + 1)) (hcc : L.1 (1, 1, 0) = nI c) (hc : c < 8) (hm : MkC L) (ho : L.1 (4, 4, 0) = nI o) (hz : L.1 (4, 5, 0) = nI z) (hk : L.1 (4, 2, 0) = nI k) (h1 : o < 64) (h2 : z ≤ k) (h3 : k ≤ 64) (h4 : 1 ≤ k) (hq : L.1 (5, 4, s) = nI p) (hp : p < 64) (hr : ¬ L.1 (0, 4, c) ≤ 0) : g_X3_advanceConversion L = some ((), n_cv2 s c p o z k (n_cv1 c L)) := by
  have g : ∀ v : Int32, ∀ L', L' = wI L (1, 2, 0) v ∨ (∃ u, L' = wI (wI L (1, 2, 0) v) (1, 3, 0) u) → g_X3_advanceConversion_51 L' = some ((), n_cv2 s c p o z k L') := by
    intro v L' hL
    have r : ∀ a : Cl, (a.1 ≠ 1 ∨ a.2.1 < 2) → L'.1 a = L.1 a := by
      intro a ha
      rcases hL with rfl | ⟨u, rfl⟩
      · rw [rdw, if_neg (fun q => by subst q; rcases ha with h | h; exact h rfl; exact absurd h (by first | decide | simp))]
      · rw [rdw, if_neg (fun q => by subst q; rcases ha with h | h; exact h rfl; exact absurd h (by first | decide | simp)), rdw, if_neg (fun q => by subst q; rcases ha with h | h; exact h rfl; exact absurd h (by first | decide | simp))]
    exact N_cv2 hs (by rw [r _ (Or.inr (by first | decide | simp))]; exact hi) (by rw [r _ (Or.inr (by first | decide | simp))]; exact hcc) hc (fun j hj => by rw [r _ (Or.inl (by simp))]; exact hm j hj) (by rw [r _ (Or.inl (by first | decide | simp))]; exact ho) (by rw [r _ (Or.inl (by first | decide | simp))]; exact hz) (by rw [r _ (Or.inl (by first | decide | simp))]; exact hk) h1 h2 h3 h4 (by rw [r _ (Or.inl (by simp))]; exact hq) hp
  unfold g_X3_advanceConversion
  dsimp only [nm]
  have hs2 := fun x => N_sig (L := wI L (1, 2, 0) (L.1 (1, 2, 0) - 1)) (x := x) (c := c) (by rw [rdw, if_neg (by simp)]; exact hr)
  simp only [rdw, rdl, rdw2, rdl1, Prod.mk.injEq, Nat.reduceEqDiff, and_self, and_true, true_and, and_false, false_and, ite_true, ite_false, ↓reduceIte, hcc, if_neg (nbad hc (show 8 < 2 ^ 31 by decide)), nI_clamp (show c < 2 ^ 31 by omega)]
  rw [hs2, bng_some]
  unfold n_cv1
  simp only [rdw, rdl, rdw2, rdl1, Prod.mk.injEq, Nat.reduceEqDiff, and_self, and_true, true_and, and_false, false_and, ite_true, ite_false, ↓reduceIte]
  split
  · exact g _ _ (Or.inr ⟨_, rfl⟩)
  · exact g _ _ (Or.inl rfl)
