/-! ===== the next token on both sides ===== -/
def Tok (len s p k w : Nat) (M N : Mem) : Prop := s ≤ len ∧ p ≤ len ∧ k ≤ 4 ∧ w < 26 ∧ M.1 (6, 0, 0) 4 = nI s ∧ N.1 (10, 0, 0) 12 = nI s ∧ M.1 (6, 0, 0) 2 = nI p ∧ N.1 (10, 0, 0) 10 = nI p ∧ M.1 (6, 0, 0) 5 = nI k ∧ N.1 (10, 0, 0) 11 = nI k ∧ M.1 (6, 0, 0) 7 = nI w ∧ (k ≠ 1 → w = 25) ∧ (k = 1 → N.1 (10, 0, 0) 15 = kmap w) ∧
  (k = 2 → ∃ v, v ≤ 99999 ∧ M.1 (6, 0, 0) 6 = nI v ∧ N.1 (10, 0, 0) 13 = nI v) ∧ (k = 3 → ∀ c : Int32, (c = 45 ∨ c = 59) → (M.1 (6, 0, 0) 6 = c ↔ N.1 (10, 0, 0) 14 = c))
theorem Bt.eqc {b n : Int32} (h : Bt b n) {c : Nat} (hc : c < 128) : b = nI c ↔ n = nI c := by
  rcases h.cs with ⟨v, hv, rfl, rfl⟩ | ⟨v, h1, h2, rfl, h3⟩
  · exact Iff.rfl
  · refine ⟨fun q => ?_, fun q => ?_⟩
    · rw [q] at h3
      exact absurd (nI_pos' (n := c) (by omega)) (Int32.not_le.mpr h3)
    · have := nIi q (by omega) (by omega)
      omega
theorem Bt.nn {b n : Int32} (h : Bt b n) : 0 ≤ n := by
  obtain ⟨v, hv, h1, h2⟩ := h
  rw [h1]
  exact nI_pos' (by omega)
def nxB (M5 : Mem) : Option (Unit × Mem) := nm (uI M5 (10, 0, 0) 12 (M5.1 (10, 0, 0) 10)) (fun M7 => nm (uI M7 (10, 0, 0) 15 (-1)) (fun M8 => bnd (f_X12_byteAt (M8.1 (10, 0, 0) 10) M8) (fun r9 M10 => if 0 ≤ r9 then bnd (f_X12_isLetter (M10.1 (10, 0, 0) 10) M10) (fun r12 M13 => if r12 = 0 then bnd (f_X12_isDigit (M13.1 (10, 0, 0) 10) M13) (fun r15 M16 => if r15 = 0 then nm (uI M16 (10, 0, 0) 11 3) (fun M18 => bnd (f_X12_byteAt (M18.1 (10, 0, 0) 10) M18) (fun r19 M20 => nm (uI M20 (10, 0, 0) 14 r19) (fun M22 => nm (uI M22 (10, 0, 0) 10 ((M22.1 (10, 0, 0) 10) + 1)) (fun M23 => some ((), M23))))) else bnd (f_X12_scanNumber  M16) (fun r24 M25 => some ((), M25))) else bnd (f_X12_scanWord  M13) (fun r27 M28 => some ((), M28))) else nm (uI M10 (10, 0, 0) 11 0) (fun M30 => some ((), M30)))))
theorem sk_loop {len : Nat} {M : Mem} : ∀ (m p f g : Nat) (N : Mem), p + m = len → m < f → m < g → Sta len M N → N.1 (10, 0, 0) 10 = nI p → ∃ p' N', p ≤ p' ∧ p' ≤ len ∧ GT N N' ∧ N'.1 (10, 0, 0) 10 = nI p' ∧ f_X7_next_5 f (nI p) M = f_X7_next_41 (nI p') M ∧ f_X12_next_0 g N = nxB N' := by
  intro m
  induction m with
  | zero =>
    intro p f g N hp hf hg h h10
    obtain ⟨f, rfl⟩ : ∃ k, f = k + 1 := ⟨f - 1, by omega⟩
    obtain ⟨g, rfl⟩ : ∃ k, g = k + 1 := ⟨g - 1, by omega⟩
    obtain ⟨hl, c1, m9, hb, hk⟩ := h
    have e : p = len := by omega
    subst e
    refine ⟨p, N, Nat.le_refl _, Nat.le_refl _, GT.refl N, h10, ?_, ?_⟩
    · rw [show f_X7_next_5 (f + 1) (nI p) M = _ from Eq.trans (by unfold f_X7_next_5; exact rfl) rfl, c1, if_pos (nI_le (by omega) (by omega))]
    · rw [show f_X12_next_0 (g + 1) N = _ from Eq.trans (by unfold f_X12_next_0; exact rfl) rfl, h10, bA_out m9 hl, bnd_some, if_neg (by first | decide | simp), h10, bA_out m9 hl, bnd_some, if_neg (by first | decide | simp)]
      rfl
  | succ m ih =>
    intro p f g N hp hf hg h h10
    obtain ⟨f, rfl⟩ : ∃ k, f = k + 1 := ⟨f - 1, by omega⟩
    obtain ⟨g, rfl⟩ : ∃ k, g = k + 1 := ⟨g - 1, by omega⟩
    have h' := h
    obtain ⟨hl, c1, m9, hb, hk⟩ := h'
    have ec : (nI p).toNatClampNeg = p := nI_clamp (by omega)
    have cs : f_X7_next_5 (f + 1) (nI p) M = if M.1 (22, 0, 0) p = 32 ∨ M.1 (22, 0, 0) p = 10 then f_X7_next_5 f (nI (p + 1)) M else f_X7_next_41 (nI p) M := by
      rw [show f_X7_next_5 (f + 1) (nI p) M = _ from Eq.trans (by unfold f_X7_next_5; exact rfl) rfl, c1, if_neg (nI_ge (by omega) (by omega)), if_neg (nbad (by omega) (by first | decide | simp))]
      by_cases q1 : M.1 (22, 0, 0) p = 32
      · rw [if_pos (by rw [ec]; exact q1), if_pos (Or.inl q1)]
        unfold f_X7_next_35
        dsimp only [nm]
        rw [nI_1]
      · rw [if_neg (by rw [ec]; exact q1), if_neg (nbad (by omega) (by first | decide | simp))]
        by_cases q2 : M.1 (22, 0, 0) p = 10
        · rw [if_pos (by rw [ec]; exact q2), if_pos (Or.inr q2)]
          unfold f_X7_next_35
          dsimp only [nm]
          rw [nI_1]
        · rw [if_neg (by rw [ec]; exact q2), if_neg (fun z => z.elim q1 q2)]
    have ms : f_X12_next_0 (g + 1) N = if N.1 (30, 0, 0) p = 32 ∨ N.1 (30, 0, 0) p = 10 then f_X12_next_0 g (uI N (10, 0, 0) 10 (nI (p + 1))) else nxB N := by
      rw [show f_X12_next_0 (g + 1) N = _ from Eq.trans (by unfold f_X12_next_0; exact rfl) rfl, h10, bA_in m9 hl (by omega), bnd_some]
      by_cases q1 : N.1 (30, 0, 0) p = 32
      · rw [if_pos q1, if_pos (Or.inl q1)]
        unfold f_X12_next_26
        dsimp only [nm]
        rw [h10, nI_1]
      · rw [if_neg q1, h10, bA_in m9 hl (by omega), bnd_some]
        by_cases q2 : N.1 (30, 0, 0) p = 10
        · rw [if_pos q2, if_pos (Or.inr q2)]
          unfold f_X12_next_26
          dsimp only [nm]
          rw [h10, nI_1]
        · rw [if_neg q2, if_neg (fun z => z.elim q1 q2)]
          rfl
    have hbp := hb p (by omega)
    have e32 : M.1 (22, 0, 0) p = 32 ↔ N.1 (30, 0, 0) p = 32 := hbp.eqc (c := 32) (by first | decide | simp)
    have e10 : M.1 (22, 0, 0) p = 10 ↔ N.1 (30, 0, 0) p = 10 := hbp.eqc (c := 10) (by first | decide | simp)
    by_cases q : N.1 (30, 0, 0) p = 32 ∨ N.1 (30, 0, 0) p = 10
    · have gN : GT N (uI N (10, 0, 0) 10 (nI (p + 1))) := GT.u (by first | decide | simp) (by first | decide | simp)
      obtain ⟨p', N', r1, r2, r3, r4, r5, r6⟩ := ih (p + 1) f g (uI N (10, 0, 0) 10 (nI (p + 1))) (by omega) (by omega) (by omega) (h.of (FT.refl M) gN) uI_at
      exact ⟨p', N', by omega, r2, gN.trans r3, r4, by rw [cs, if_pos (q.imp e32.mpr e10.mpr)]; exact r5, by rw [ms, if_pos q]; exact r6⟩
    · exact ⟨p, N, Nat.le_refl _, by omega, GT.refl N, h10, by rw [cs, if_neg (fun z => q (z.imp e32.mp e10.mp))], by rw [ms, if_neg q]⟩
theorem nm_ {α β : Type} {x : α} {k : α → β} : nm x k = k x := Eq.trans rfl rfl
theorem nx_tok {len p : Nat} {M N : Mem} (h : Sta len M N) (h10 : N.1 (10, 0, 0) 10 = nI p) (hp : p ≤ len) : ∃ M' N' p' k w, f_X7_next_41 (nI p) M = some ((), M') ∧ nxB N = some ((), N') ∧ FT M M' ∧ GT N N' ∧ Tok len p p' k w M' N' ∧ p ≤ p' ∧ (k = 0 ∨ p < p') := by
  have h' := h
  obtain ⟨hl, c1, m9, hb, hk⟩ := h'
  have gA : GT N (uI (uI N (10, 0, 0) 12 (nI p)) (10, 0, 0) 15 (-1)) := (GT.u (by first | decide | simp) (by first | decide | simp)).trans (GT.u (by first | decide | simp) (by first | decide | simp))
  have fA : FT M (uI (uI M (6, 0, 0) 4 (nI p)) (6, 0, 0) 7 (nI 25)) := (FT.u (by first | decide | simp)).trans (FT.u (by first | decide | simp))
  have hA := h.of fA gA
  have a12 : (uI (uI N (10, 0, 0) 12 (nI p)) (10, 0, 0) 15 (-1)).1 (10, 0, 0) 12 = nI p := by rw [uIr]; exact uI_at
  have a10 : (uI (uI N (10, 0, 0) 12 (nI p)) (10, 0, 0) 15 (-1)).1 (10, 0, 0) 10 = nI p := by rw [uIr, uIr]; exact h10
  have a15 : (uI (uI N (10, 0, 0) 12 (nI p)) (10, 0, 0) 15 (-1)).1 (10, 0, 0) 15 = -1 := uI_at
  have b4 : (uI (uI M (6, 0, 0) 4 (nI p)) (6, 0, 0) 7 (nI 25)).1 (6, 0, 0) 4 = nI p := by rw [uIr]; exact uI_at
  have b7 : (uI (uI M (6, 0, 0) 4 (nI p)) (6, 0, 0) 7 (nI 25)).1 (6, 0, 0) 7 = nI 25 := uI_at
  have ec : (nI p).toNatClampNeg = p := nI_clamp (by omega)
  unfold f_X7_next_41 nxB
  dsimp only [nm]
  rw [h10]
  generalize (uI (uI N (10, 0, 0) 12 (nI p)) (10, 0, 0) 15 (-1)) = X at *
  generalize (uI (uI M (6, 0, 0) 4 (nI p)) (6, 0, 0) 7 (nI 25)) = Y at *
  have hA' := hA
  obtain ⟨_, d1, n9, db, dk⟩ := hA'
  rw [d1, a10]
  by_cases hlt : p < len
  · rw [if_pos (Int32.not_le.mp (nI_ge hlt (by omega))), if_neg (nbad (by omega) (by first | decide | simp)), bA_in n9 hl hlt, bnd_some, if_pos (db p (by omega)).nn, a10]
    have fB : FT Y (uI Y (6, 0, 0) 6 (Y.1 (22, 0, 0) p)) := FT.u (by first | decide | simp)
    have e6 : (uI Y (6, 0, 0) 6 (Y.1 (22, 0, 0) (nI p).toNatClampNeg)).1 (6, 0, 0) 6 = Y.1 (22, 0, 0) p := by rw [ec]; exact uI_at
    rw [e6, ec]
    have hB := hA.of fB (GT.refl X)
    have z4 : (uI Y (6, 0, 0) 6 (Y.1 (22, 0, 0) p)).1 (6, 0, 0) 4 = nI p := by rw [uIr]; exact b4
    have z7 : (uI Y (6, 0, 0) 6 (Y.1 (22, 0, 0) p)).1 (6, 0, 0) 7 = nI 25 := by rw [uIr]; exact b7
    have z6 : (uI Y (6, 0, 0) 6 (Y.1 (22, 0, 0) p)).1 (6, 0, 0) 6 = Y.1 (22, 0, 0) p := uI_at
    have fZ := fA.trans fB
    have hbp := db p (by omega)
    generalize (uI Y (6, 0, 0) 6 (Y.1 (22, 0, 0) p)) = Z at *
    have rr : ∀ k lo hi mx, f_X7_readRun k lo hi mx Z = f_X7_readRun_16 fuelN k lo hi mx (nI p) (uI (uL Z (6, 0, 0) 3 0) (6, 0, 0) 6 0) := fun k lo hi mx => by
      unfold f_X7_readRun
      dsimp only [nm]
      rw [uIr, show (uL Z (6, 0, 0) 3 0).1 (6, 0, 0) 4 = nI p from z4]
    have fR : FT Z (uI (uL Z (6, 0, 0) 3 0) (6, 0, 0) 6 0) := FT.ul.trans (FT.u (by first | decide | simp))
    have r4 : (uI (uL Z (6, 0, 0) 3 0) (6, 0, 0) 6 0).1 (6, 0, 0) 4 = nI p := by rw [uIr]; exact z4
    have r7 : (uI (uL Z (6, 0, 0) 3 0) (6, 0, 0) 6 0).1 (6, 0, 0) 7 = nI 25 := by rw [uIr]; exact z7
    rcases hbp.let with ⟨d, hd, w1, w2⟩ | ⟨w1, w2⟩
    · have wr : 97 ≤ X.1 (30, 0, 0) p ∧ X.1 (30, 0, 0) p ≤ 122 := by rw [w2]; exact ⟨nI_le (a := 97) (by omega) (by omega), nI_le (b := 122) (by omega) (by first | decide | simp)⟩
      have hS : Sta len (uI (uL Z (6, 0, 0) 3 0) (6, 0, 0) 6 0) (uI X (10, 0, 0) 11 1) := hB.of fR (GT.u (by first | decide | simp) (by first | decide | simp))
      obtain ⟨M', N', q1, q2, q3, q4, q5, q6, q7, e, q8, q9, q10, q11, q12, q13⟩ := word_run (len := len) (s := p) (len - p) p fuelN fuelN 0 _ (uI X (10, 0, 0) 11 1) (by omega) (by unfold fuelN; omega) (by unfold fuelN; omega) hS r4 (by rw [uIr]; exact a12) (by rw [uIr]; exact a10) uI_at (Nat.le_refl p) (fun _ => uL_at)
      have pe : p < e := q9 hlt (by rw [uI_no (by simp)]; exact wr)
      rw [if_neg (by rw [w1]; exact Int32.not_lt.mpr (nI_le (a := 97) (by omega) (by omega))), if_neg (by rw [w1]; exact Int32.not_lt.mpr (nI_le (b := 122) (by omega) (by first | decide | simp))), rr, q1, bnd_some, isL1 n9 hl hlt wr, bnd_some, if_neg (show ¬ ((1 : Int32) = 0) by decide)]
      have sw : f_X12_scanWord X = some ((), N') := by
        unfold f_X12_scanWord
        exact q2
      rw [sw, bnd_some]
      rw [uIr] at q13
      rcases q13 with ⟨k1, k2, k3⟩ | ⟨k1, k2⟩
      · have kw := kw_same (M'.2.1 (6, 0, 0) 3)
        rw [if_pos k1]
        unfold f_X10_of
        have ol := of_loop (y := M'.2.1 (6, 0, 0) 3) (M := M') 26 0 fuelN rfl (by unfold fuelN; decide)
        rw [show nI 0 = (0 : Int32) from rfl] at ol
        rw [ol, bnd_some]
        unfold f_X7_next_133
        dsimp only [nm]
        exact ⟨_, N', e, 1, fnd (M'.2.1 (6, 0, 0) 3) 26 0, rfl, rfl, ((fZ.trans fR).trans q3).trans (FT.u (by first | decide | simp)), (gA.trans (GT.u (by first | decide | simp) (by first | decide | simp))).trans q4, ⟨hp, q10, by decide, kw.1, by rw [uIr]; exact q6, q7, by rw [uIr]; exact q11, q12, by rw [uIr]; exact k1, k2, uI_at, fun q => absurd rfl q, fun _ => by rw [k3, a15]; exact kw.2, fun q => absurd q (by first | decide | simp), fun q => absurd q (by first | decide | simp)⟩, q8, Or.inr pe⟩
      · rw [if_neg (by rw [k1]; decide)]
        unfold f_X7_next_133
        dsimp only [nm]
        exact ⟨_, N', e, 4, 25, rfl, rfl, ((fZ.trans fR).trans q3).trans (FT.u (by first | decide | simp)), (gA.trans (GT.u (by first | decide | simp) (by first | decide | simp))).trans q4, ⟨hp, q10, by decide, by decide, by rw [uIr]; exact q6, q7, by rw [uIr]; exact q11, q12, by rw [uIr]; exact k1, k2, uI_at, fun _ => rfl, fun q => absurd q (by first | decide | simp), fun q => absurd q (by first | decide | simp), fun q => absurd q (by first | decide | simp)⟩, q8, Or.inr pe⟩
    · have g139 : ∀ R : Option (Unit × Mem), (if Y.1 (22, 0, 0) p < 97 then f_X7_next_139 (nI p) Z else if 122 < Y.1 (22, 0, 0) p then f_X7_next_139 (nI p) Z else R) = f_X7_next_139 (nI p) Z := fun R => by
        by_cases y1 : Y.1 (22, 0, 0) p < 97
        · rw [if_pos y1]
        · rw [if_neg y1, if_pos (w1.resolve_left y1)]
      rw [g139, isL0 n9 hl (by omega) (fun _ => w2), bnd_some, if_pos rfl, a10]
      unfold f_X7_next_139
      rw [z6]
      rcases hbp.dig with ⟨d, hd, v1, v2⟩ | ⟨v1, v2⟩
      · have vr : 48 ≤ X.1 (30, 0, 0) p ∧ X.1 (30, 0, 0) p ≤ 57 := by rw [v2]; exact ⟨nI_le (a := 48) (by omega) (by omega), nI_le (b := 57) (by omega) (by first | decide | simp)⟩
        have hS : Sta len (uI (uL Z (6, 0, 0) 3 0) (6, 0, 0) 6 0) (uI (uI X (10, 0, 0) 11 2) (10, 0, 0) 13 0) := hB.of fR ((GT.u (by first | decide | simp) (by first | decide | simp)).trans (GT.u (by first | decide | simp) (by first | decide | simp)))
        obtain ⟨M', N', q1, q2, q3, q4, q5, q6, q7, q7b, e, q8, q9, q10, q11, q12, q13⟩ := num_run (len := len) (s := p) (len - p) p fuelN fuelN _ (uI (uI X (10, 0, 0) 11 2) (10, 0, 0) 13 0) (by omega) (by unfold fuelN; omega) (by unfold fuelN; omega) hS r4 (by rw [uIr, uIr]; exact a12) (by rw [uIr, uIr]; exact a10) (by rw [uIr]; exact uI_at) (Nat.le_refl p) (fun _ => ⟨0, by rw [Nat.sub_self]; decide, uI_at, uI_at⟩)
        have pe : p < e := q9 hlt (by rw [uI_no (by simp), uI_no (by simp)]; exact vr)
        rw [if_neg (by rw [v1]; exact Int32.not_lt.mpr (nI_le (a := 48) (by omega) (by omega))), if_neg (by rw [v1]; exact Int32.not_lt.mpr (nI_le (b := 57) (by omega) (by first | decide | simp))), rr, q1, bnd_some, isD1 n9 hl hlt vr, bnd_some, if_neg (by first | decide | simp)]
        have sn : f_X12_scanNumber X = some ((), N') := by
          unfold f_X12_scanNumber
          exact q2
        rw [sn, bnd_some]
        rcases q13 with ⟨k1, k2, a, ha, k3, k4⟩ | ⟨k1, k2⟩
        · exact ⟨M', N', e, 2, 25, rfl, rfl, (fZ.trans fR).trans q3, (gA.trans ((GT.u (by first | decide | simp) (by first | decide | simp)).trans (GT.u (by first | decide | simp) (by first | decide | simp)))).trans q4, ⟨hp, q10, by decide, by decide, q6, q7, q11, q12, k1, k2, q5.trans r7, fun _ => rfl, fun q => absurd q (by first | decide | simp), fun _ => ⟨a, ha, k3, k4⟩, fun q => absurd q (by first | decide | simp)⟩, q8, Or.inr pe⟩
        · exact ⟨M', N', e, 4, 25, rfl, rfl, (fZ.trans fR).trans q3, (gA.trans ((GT.u (by first | decide | simp) (by first | decide | simp)).trans (GT.u (by first | decide | simp) (by first | decide | simp)))).trans q4, ⟨hp, q10, by decide, by decide, q6, q7, q11, q12, k1, k2, q5.trans r7, fun _ => rfl, fun q => absurd q (by first | decide | simp), fun q => absurd q (by first | decide | simp), fun q => absurd q (by first | decide | simp)⟩, q8, Or.inr pe⟩
      · have g170 : ∀ R : Option (Unit × Mem), (if Y.1 (22, 0, 0) p < 48 then f_X7_next_170 (nI p) Z else if 57 < Y.1 (22, 0, 0) p then f_X7_next_170 (nI p) Z else R) = f_X7_next_170 (nI p) Z := fun R => by
          by_cases y1 : Y.1 (22, 0, 0) p < 48
          · rw [if_pos y1]
          · rw [if_neg y1, if_pos (v1.resolve_left y1)]
        rw [g170, isD0 n9 hl (by omega) (fun _ => v2), bnd_some, if_pos rfl, uIr, a10, bA_in (N := uI X (10, 0, 0) 11 3) (by rw [uIr]; exact n9) hl hlt, bnd_some, uIr, uIr, a10, uI_no (by simp), nI_1]
        unfold f_X7_next_170
        dsimp only [nm]
        rw [nI_1]
        refine ⟨_, _, p + 1, 3, 25, rfl, rfl, fZ.trans ((FT.u (by first | decide | simp)).trans (FT.u (by first | decide | simp))), gA.trans ((GT.u (by first | decide | simp) (by first | decide | simp)).trans ((GT.u (by first | decide | simp) (by first | decide | simp)).trans (GT.u (by first | decide | simp) (by first | decide | simp)))), ⟨hp, hlt, by decide, by decide, by rw [uIr, uIr]; exact z4, by rw [uIr, uIr, uIr]; exact a12, uI_at, uI_at, by rw [uIr]; exact uI_at, by rw [uIr, uIr]; exact uI_at, by rw [uIr, uIr]; exact z7, fun _ => rfl, fun q => absurd q (by first | decide | simp), fun q => absurd q (by first | decide | simp), fun _ c hc => ?_⟩, by omega, Or.inr (by omega)⟩
        rw [uIr, uIr, z6, uIr, uI_at]
        rcases hc with rfl | rfl
        · exact hbp.eqc (c := 45) (by first | decide | simp)
        · exact hbp.eqc (c := 59) (by first | decide | simp)
  · have e : p = len := by omega
    subst e
    rw [if_neg (Int32.not_lt.mpr (nI_le (by omega) (by omega))), bA_out n9 hl, bnd_some, if_neg (by first | decide | simp)]
    refine ⟨uI (uI Y (6, 0, 0) 2 (nI p)) (6, 0, 0) 5 0, uI X (10, 0, 0) 11 0, p, 0, 25, rfl, rfl, fA.trans ((FT.u (by first | decide | simp)).trans (FT.u (by first | decide | simp))), gA.trans (GT.u (by first | decide | simp) (by first | decide | simp)), ⟨hp, hp, by decide, by decide, by rw [uIr, uIr]; exact b4, by rw [uIr]; exact a12, by rw [uIr]; exact uI_at, by rw [uIr]; exact a10, uI_at, uI_at, by rw [uIr, uIr]; exact b7, fun _ => rfl, fun q => absurd q (by first | decide | simp), fun q => absurd q (by first | decide | simp), fun q => absurd q (by first | decide | simp)⟩, Nat.le_refl p, Or.inl rfl⟩
theorem nx_both {len p : Nat} {M N : Mem} (h : Sta len M N) (h2 : M.1 (6, 0, 0) 2 = nI p) (h10 : N.1 (10, 0, 0) 10 = nI p) (hp : p ≤ len) : ∃ M' N' s p' k w, f_X7_next M = some ((), M') ∧ f_X12_next N = some ((), N') ∧ FT M M' ∧ GT N N' ∧ Tok len s p' k w M' N' ∧ p ≤ p' ∧ (k = 0 ∨ p < p') := by
  have hl := h.1
  obtain ⟨s, X, r1, r2, r3, r4, r5, r6⟩ := sk_loop (M := M) (len - p) p fuelN fuelN N (by omega) (by unfold fuelN; omega) (by unfold fuelN; omega) h h10
  obtain ⟨M', N', p', k, w, q1, q2, q3, q4, q5, q6, q7⟩ := nx_tok (h.of (FT.refl M) r3) r4 r2
  refine ⟨M', N', s, p', k, w, ?_, ?_, q3, r3.trans q4, q5, by omega, q7.imp id (fun z => by omega)⟩
  · unfold f_X7_next
    dsimp only [nm]
    rw [h2, r5, q1]
  · unfold f_X12_next
    rw [r6, q2]
