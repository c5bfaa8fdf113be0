/-- after a failure the word is noted and no more -/
theorem ps50_f {w : Nat} {N : Mem} (hw : w < 25) (h : ¬ N.1 (10, 0, 0) 16 = 0) : ∃ N', f_X12_parseStatement_50 (kmap w) N = some ((), N') ∧ FN N N' := by
  obtain ⟨n1, n2⟩ := km_kn w hw
  have f : FN N (uI N (36, 0, 0) (kn w) 1) := FN.u (Or.inr (Or.inr (Or.inr (Or.inl rfl)))) (by simp)
  refine ⟨_, ?_, f⟩
  rw [ps50_eq, n1, if_neg (nbad n2 (by first | decide | simp)), nI_clamp (by omega), b11]
  dsimp only [nm]
  rw [ok0 (f.z h), bnd_some, if_pos rfl]
/-- a statement that may stand but once: C is what the class reads behind its word -/
theorem ST_once {len p w : Nat} {M N : Mem} {L V : LM} {c : Option (Int32 × Mem)} {C : Mem → Option (Int32 × Mem)} (h : PT len p 1 w M N L V) (hw : w ≤ 10) (hf : fw w = true)
    (hc1 : ∀ M', f_X4_takeFirstWord M = some (1, M') → c = C M') (hc0 : ∀ M', f_X4_takeFirstWord M = some (0, M') → c = some (0, M'))
    (hB : ∀ p' k' w' M' N', PT len p' k' w' M' N' L V → ∃ M'' N'', f_X12_parseBehind (kmap w) N' = some ((), N'') ∧ FC M' M'' ∧ FM N' N'' ∧ BodyO len p' (C M') M'' N'') : ∃ M' N', f_X12_parseStatement N = some ((), N') ∧ FC M M' ∧ FM N N' ∧ StmO len p c M' N' := by
  obtain ⟨n1, n2⟩ := km_kn w (by omega)
  have et := tfw h hf
  have ep := ps_w h hw
  by_cases z : N.1 (36, 0, 0) (kn w) = 0
  · rw [if_pos z] at et
    rw [if_pos (Or.inl z)] at ep
    obtain ⟨hP, f1, f2⟩ := h.m3 hf
    obtain ⟨M1, N1, p1, k1, w1, a1, a2, a3, a4, a5, a6, a7⟩ := nx_ts hP.1
    rw [a1, bnd_some] at et
    obtain ⟨M2, N2, b1, b2, b3, b4⟩ := hB p1 k1 w1 M1 N1 (B_step hP a3.s a4.s a5)
    obtain ⟨M3, N3, d1, d2, d3, d4⟩ := SG (b4.le a6)
    rw [← hc1 M1 et] at d4
    refine ⟨M3, N3, ?_, ((f1.trans a3.c).trans b2).trans d2, ((f2.trans a4.m).trans b3).trans d3, d4⟩
    rw [ep, ps50_eq, if_neg (show ¬ bad (kmap w) 25 by rw [n1]; exact nbad n2 (by first | decide | simp)), show (kmap w).toNatClampNeg = kn w by rw [n1]; exact nI_clamp (by omega), b11]
    dsimp only [nm]
    rw [ok1 hP.1.2.2, bnd_some, if_neg (by first | decide | simp), a2, bnd_some, b1, bnd_some, d1]
  · rw [if_neg z] at et
    rw [if_neg (fun t => t.elim z (fun y => by rw [hf] at y; cases y))] at ep
    obtain ⟨M1, N1, a1, a2, a3, a4, a5⟩ := fail2 (x := 3) h.1 (by first | decide | simp)
    rw [cfail] at a1
    obtain ⟨N2, b1, b2⟩ := ps50_f (w := w) (by omega) a5.2.2
    refine ⟨M1, N2, by rw [ep, a2, bnd_some, b1], a3.2, a4.2.trans b2.1, Or.inr ⟨Or.inl (hc0 M1 ?_), a5.n b2⟩⟩
    rw [et]
    simpa using a1
/-- a statement that may stand many times -/
theorem ST_many {len p w : Nat} {M N : Mem} {L V : LM} {c : Option (Int32 × Mem)} {C : Mem → Option (Int32 × Mem)} (h : PT len p 1 w M N L V) (hw : w ≤ 10) (hf : fw w = false)
    (hc : c = bnd (f_X7_next M) (fun _ M2 => C M2))
    (hB : ∀ p' k' w' M' N', PT len p' k' w' M' N' L V → ∃ M'' N'', f_X12_parseBehind (kmap w) N' = some ((), N'') ∧ FC M' M'' ∧ FM N' N'' ∧ BodyO len p' (C M') M'' N'') : ∃ M' N', f_X12_parseStatement N = some ((), N') ∧ FC M M' ∧ FM N N' ∧ StmO len p c M' N' := by
  obtain ⟨n1, n2⟩ := km_kn w (by omega)
  have ep := ps_w h hw
  rw [if_pos (Or.inr hf)] at ep
  obtain ⟨hP, f2⟩ := h.m36 (a := w) (by omega) hf
  obtain ⟨M1, N1, p1, k1, w1, a1, a2, a3, a4, a5, a6, a7⟩ := nx_ts hP.1
  obtain ⟨M2, N2, b1, b2, b3, b4⟩ := hB p1 k1 w1 M1 N1 (B_step hP a3.s a4.s a5)
  obtain ⟨M3, N3, d1, d2, d3, d4⟩ := SG (b4.le a6)
  have ec : c = C M1 := by rw [hc, a1, bnd_some]
  rw [← ec] at d4
  refine ⟨M3, N3, ?_, (a3.c.trans b2).trans d2, ((f2.trans a4.m).trans b3).trans d3, d4⟩
  rw [ep, ps50_eq, if_neg (show ¬ bad (kmap w) 25 by rw [n1]; exact nbad n2 (by first | decide | simp)), show (kmap w).toNatClampNeg = kn w by rw [n1]; exact nI_clamp (by omega), b11]
  dsimp only [nm]
  rw [ok1 hP.1.2.2, bnd_some, if_neg (by first | decide | simp), a2, bnd_some, b1, bnd_some, d1]
