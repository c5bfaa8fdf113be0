/-! ===== a run of letters ===== -/
theorem let64 : ∀ d, d < 26 → Int32.toInt64 (nI (97 + d)) = 96 + Int32.toInt64 (nI (97 + d) - 97 + 1) := by decide +kernel
theorem let_step {l t : Int64} : l * 32 + (96 + t) - 96 = 32 * l + t := by
  rw [Int64.mul_comm l 32, Int64.add_comm 96 t, ← Int64.add_assoc, Int64.sub_eq_add_neg, Int64.add_assoc (32 * l + t), Int64.add_right_neg, Int64.add_zero]
def WordR (s q len : Nat) (M N M' N' : Mem) : Prop := FT M M' ∧ GT N N' ∧ M'.1 (6, 0, 0) 7 = M.1 (6, 0, 0) 7 ∧ M'.1 (6, 0, 0) 4 = nI s ∧ N'.1 (10, 0, 0) 12 = nI s ∧ ∃ e, q ≤ e ∧ (q < len → 97 ≤ N.1 (30, 0, 0) q ∧ N.1 (30, 0, 0) q ≤ 122 → q < e) ∧ e ≤ len ∧ M'.1 (6, 0, 0) 2 = nI e ∧ N'.1 (10, 0, 0) 10 = nI e ∧
      ((M'.1 (6, 0, 0) 5 = 1 ∧ N'.1 (10, 0, 0) 11 = 1 ∧ N'.1 (10, 0, 0) 15 = srch (M'.2.1 (6, 0, 0) 3) 25 0 (N.1 (10, 0, 0) 15)) ∨ (M'.1 (6, 0, 0) 5 = 4 ∧ N'.1 (10, 0, 0) 11 = 4))
theorem word_end {len s q f g : Nat} {y : Int64} {M N : Mem} (h : Sta len M N) (h4 : M.1 (6, 0, 0) 4 = nI s) (h12 : N.1 (10, 0, 0) 12 = nI s) (h10 : N.1 (10, 0, 0) 10 = nI q) (h11 : N.1 (10, 0, 0) 11 = 1) (hs : s ≤ q) (hq : q ≤ len) (hv : q - s ≤ 10 → M.2.1 (6, 0, 0) 3 = y)
    (z1 : q < len → (M.1 (22, 0, 0) q < 97 ∨ 122 < M.1 (22, 0, 0) q)) (z2 : q < len → ¬ (97 ≤ N.1 (30, 0, 0) q ∧ N.1 (30, 0, 0) q ≤ 122)) :
    ∃ M' N', f_X7_readRun_16 (f + 1) 1 97 122 10 (nI q) M = some ((), M') ∧ f_X12_scanWord_7 (g + 1) y N = some ((), N') ∧ WordR s q len M N M' N' := by
  obtain ⟨hl, c1, m9, hb, hk⟩ := h
  have ec := rr_end (f := f) (k := 1) (lo := 97) (hi := 122) (mx := 10) (n := 10) c1 hl h4 hs hq rfl (by first | decide | simp) z1
  have em : f_X12_scanWord_7 (g + 1) y N = _ := Eq.trans (by unfold f_X12_scanWord_7; exact rfl) rfl
  have go : ∀ X : Mem, (∀ j, j < 25 → X.2.1 (35, 0, 0) j = kwN.getD j 0) → ∃ N', f_X12_scanWord_84 y X = some ((), N') ∧ (∀ o k, (o ≠ (10, 0, 0) ∨ k ≠ 15) → N'.1 o k = X.1 o k) ∧ N'.2 = X.2 ∧ N'.1 (10, 0, 0) 15 = srch y 25 0 (X.1 (10, 0, 0) 15) := fun X hX => sw_loop 25 0 fuelN X rfl (by unfold fuelN; decide) hX
  have gt : ∀ {X N' : Mem}, (∀ o k, (o ≠ (10, 0, 0) ∨ k ≠ 15) → N'.1 o k = X.1 o k) → N'.2 = X.2 → GT X N' := fun g1 g2 => ⟨fun o k q => g1 o k (q.imp id (fun z => by omega)), g2⟩
  by_cases y1 : q - s ≤ 10
  · obtain ⟨N', g1, g2, g3, g4⟩ := go N hk.1
    refine ⟨_, N', ec, ?_, (FT.u (by first | decide | simp)).trans (FT.u (by first | decide | simp)), gt g2 g3, by rw [uIr, uIr], by rw [uIr, uIr]; exact h4, by rw [g2 _ _ (Or.inr (by first | decide | simp))]; exact h12, q, Nat.le_refl q, fun a b => absurd b (z2 a), hq, by rw [uIr]; exact uI_at, by rw [g2 _ _ (Or.inr (by first | decide | simp))]; exact h10, Or.inl ⟨by rw [if_pos y1]; exact uI_at, by rw [g2 _ _ (Or.inr (by first | decide | simp))]; exact h11, ?_⟩⟩
    · rw [em, h10, isL0 m9 hl hq z2, bnd_some, if_pos rfl, h10, h12, nI_sub hs, if_pos (show nI (q - s) ≤ (10 : Int32) from nI_le (b := 10) y1 (by first | decide | simp))]
      exact g1
    · rw [g4, ← hv y1]
      rfl
  · obtain ⟨N', g1, g2, g3, g4⟩ := go (uI N (10, 0, 0) 11 4) hk.1
    refine ⟨_, N', ec, ?_, (FT.u (by first | decide | simp)).trans (FT.u (by first | decide | simp)), (GT.u (by first | decide | simp) (by first | decide | simp)).trans (gt g2 g3), by rw [uIr, uIr], by rw [uIr, uIr]; exact h4, by rw [g2 _ _ (Or.inr (by first | decide | simp)), uIr]; exact h12, q, Nat.le_refl q, fun a b => absurd b (z2 a), hq, by rw [uIr]; exact uI_at, by rw [g2 _ _ (Or.inr (by first | decide | simp)), uIr]; exact h10, Or.inr ⟨by rw [if_neg y1]; exact uI_at, by rw [g2 _ _ (Or.inr (by first | decide | simp))]; exact uI_at⟩⟩
    rw [em, h10, isL0 m9 hl hq z2, bnd_some, if_pos rfl, h10, h12, nI_sub hs, if_neg (show ¬ nI (q - s) ≤ (10 : Int32) from nI_ge (a := 10) (b := q - s) (by omega) (by omega))]
    exact g1
theorem word_run {len s : Nat} : ∀ (m q f g : Nat) (y : Int64) (M N : Mem), q + m = len → m < f → m < g → Sta len M N → M.1 (6, 0, 0) 4 = nI s → N.1 (10, 0, 0) 12 = nI s → N.1 (10, 0, 0) 10 = nI q → N.1 (10, 0, 0) 11 = 1 → s ≤ q → (q - s ≤ 10 → M.2.1 (6, 0, 0) 3 = y) →
    ∃ M' N', f_X7_readRun_16 f 1 97 122 10 (nI q) M = some ((), M') ∧ f_X12_scanWord_7 g y N = some ((), N') ∧ WordR s q len M N M' N' := by
  intro m
  induction m with
  | zero =>
    intro q f g y M N hq hf hg h h4 h12 h10 h11 hs hv
    obtain ⟨f, rfl⟩ : ∃ k, f = k + 1 := ⟨f - 1, by omega⟩
    obtain ⟨g, rfl⟩ : ∃ k, g = k + 1 := ⟨g - 1, by omega⟩
    exact word_end h h4 h12 h10 h11 hs (by omega) hv (fun y => by omega) (fun y => by omega)
  | succ m ih =>
    intro q f g y M N hq hf hg h h4 h12 h10 h11 hs hv
    obtain ⟨f, rfl⟩ : ∃ k, f = k + 1 := ⟨f - 1, by omega⟩
    obtain ⟨g, rfl⟩ : ∃ k, g = k + 1 := ⟨g - 1, by omega⟩
    have h' := h
    obtain ⟨hl, c1, m9, hb, hk⟩ := h'
    have hq9 : q < 900 := by omega
    rcases (hb q hq9).let with ⟨d, hd, b1, b2⟩ | ⟨z1, z2⟩
    · have cs := rr_step (f := f) (k := 1) (lo := 97) (hi := 122) (mx := 10) c1 hl (q := q) (by omega) (by rw [b1]; exact Int32.not_lt.mpr (nI_le (a := 97) (by omega) (by omega))) (by rw [b1]; exact Int32.not_lt.mpr (nI_le (b := 122) (by omega) (by first | decide | simp)))
      have fM : FT M (uI (uL M (6, 0, 0) 3 ((32 * (M.2.1 (6, 0, 0) 3)) + (Int32.toInt64 ((M.1 (22, 0, 0) q - 97) + 1)))) (6, 0, 0) 6 ((10 * M.1 (6, 0, 0) 6) + (M.1 (22, 0, 0) q - 97))) := FT.ul.trans (FT.u (by first | decide | simp))
      have em : f_X12_scanWord_7 (g + 1) y N = _ := Eq.trans (by unfold f_X12_scanWord_7; exact rfl) rfl
      have i1 : f_X12_isLetter (nI q) N = some (1, N) := isL1 m9 hl (by omega) (by rw [b2]; exact ⟨nI_le (a := 97) (by omega) (by omega), nI_le (b := 122) (by omega) (by first | decide | simp)⟩)
      have e4 : (uI (uL M (6, 0, 0) 3 ((32 * (M.2.1 (6, 0, 0) 3)) + (Int32.toInt64 ((M.1 (22, 0, 0) q - 97) + 1)))) (6, 0, 0) 6 ((10 * M.1 (6, 0, 0) 6) + (M.1 (22, 0, 0) q - 97))).1 (6, 0, 0) 4 = nI s := by rw [uIr]; exact h4
      have e7 : (uI (uL M (6, 0, 0) 3 ((32 * (M.2.1 (6, 0, 0) 3)) + (Int32.toInt64 ((M.1 (22, 0, 0) q - 97) + 1)))) (6, 0, 0) 6 ((10 * M.1 (6, 0, 0) 6) + (M.1 (22, 0, 0) q - 97))).1 (6, 0, 0) 7 = M.1 (6, 0, 0) 7 := by rw [uIr]; rfl
      have e3 : (uI (uL M (6, 0, 0) 3 ((32 * (M.2.1 (6, 0, 0) 3)) + (Int32.toInt64 ((M.1 (22, 0, 0) q - 97) + 1)))) (6, 0, 0) 6 ((10 * M.1 (6, 0, 0) 6) + (M.1 (22, 0, 0) q - 97))).2.1 (6, 0, 0) 3 = (32 * (M.2.1 (6, 0, 0) 3)) + (Int32.toInt64 ((M.1 (22, 0, 0) q - 97) + 1)) := uL_at
      have gN : GT N (uI N (10, 0, 0) 10 (nI (q + 1))) := GT.u (by first | decide | simp) (by first | decide | simp)
      by_cases y1 : q - s < 10
      · obtain ⟨M', N', r1, r2, r3, r4, r5, r6, r7, e, r9, _, r10, r12, r13, r11⟩ := ih (q + 1) f g (y * 32 + Int32.toInt64 (nI (97 + d)) - 96) _ (uI N (10, 0, 0) 10 (nI (q + 1))) (by omega) (by omega) (by omega) (h.of fM gN) e4 (by rw [uIr]; exact h12) uI_at (by rw [uIr]; exact h11) (by omega) (fun _ => by rw [e3, hv (by omega), b1, let64 d hd, let_step])
        rw [uIr] at r11
        refine ⟨M', N', cs.trans r1, ?_, fM.trans r3, gN.trans r4, r5.trans e7, r6, r7, e, by omega, fun _ _ => by omega, r10, r12, r13, r11⟩
        rw [em, h10, i1, bnd_some, if_neg (by first | decide | simp), h10, h12, nI_sub hs, if_neg (show ¬ (10 : Int32) ≤ nI (q - s) from nI_ge (b := 10) (a := q - s) y1 (by first | decide | simp)), bA_in m9 hl (by omega), bnd_some, b2]
        unfold f_X12_scanWord_52
        dsimp only [nm]
        rw [h10, nI_1]
        exact r2
      · obtain ⟨M', N', r1, r2, r3, r4, r5, r6, r7, e, r9, _, r10, r12, r13, r11⟩ := ih (q + 1) f g y _ (uI N (10, 0, 0) 10 (nI (q + 1))) (by omega) (by omega) (by omega) (h.of fM gN) e4 (by rw [uIr]; exact h12) uI_at (by rw [uIr]; exact h11) (by omega) (fun y2 => absurd y2 (by omega))
        rw [uIr] at r11
        refine ⟨M', N', cs.trans r1, ?_, fM.trans r3, gN.trans r4, r5.trans e7, r6, r7, e, by omega, fun _ _ => by omega, r10, r12, r13, r11⟩
        rw [em, h10, i1, bnd_some, if_neg (by first | decide | simp), h10, h12, nI_sub hs, if_pos (show (10 : Int32) ≤ nI (q - s) from nI_le (a := 10) (b := q - s) (by omega) (by omega))]
        unfold f_X12_scanWord_52
        dsimp only [nm]
        rw [h10, nI_1]
        exact r2
    · exact word_end h h4 h12 h10 h11 hs (by omega) hv (fun _ => z1) (fun _ => z2)
