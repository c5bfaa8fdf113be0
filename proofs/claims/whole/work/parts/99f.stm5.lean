/-! ===== auto, continuous; what is no statement; all statements ===== -/
theorem uI_comm {M : Mem} {o q : Oid} {k f : Nat} {x y : Int32} (h : ¬ (o = q ∧ k = f)) : uI (uI M o k x) q f y = uI (uI M q f y) o k x := by
  unfold uI
  refine Prod.ext (funext fun a => funext fun i => ?_) rfl
  dsimp only
  by_cases h1 : a = q ∧ i = f
  · rw [if_pos h1, if_neg (fun z => h ⟨z.1.symm.trans h1.1, z.2.symm.trans h1.2⟩), if_pos h1]
  · rw [if_neg h1]
    by_cases h2 : a = o ∧ i = k
    · rw [if_pos h2, if_pos h2]
    · rw [if_neg h2, if_neg h2, if_neg h1]
theorem tfw2 {len p w : Nat} {M N : Mem} {L : LM} (hT : TS len p 1 w M N) (hK : MS M N L) (hf : fw w = true) : f_X4_takeFirstWord M = if N.1 (36, 0, 0) (kn w) = 0 then bnd (f_X7_next (uI M (3, 0, 0) 4 ((M.1 (3, 0, 0) 4) ||| (wBit.getD w 0)))) (fun _ M5 => some (1, M5)) else some (0, uI (uI M (3, 0, 0) 8 3) (3, 0, 0) 9 (M.1 (6, 0, 0) 4)) := by
  obtain ⟨q1, q2, q3, q4⟩ := hT.w
  have hb := hK.1.wb (w := w) q1
  unfold f_X4_takeFirstWord
  rw [q2, wck_n q1, wck_n q1]
  by_cases z : N.1 (36, 0, 0) (kn w) = 0
  · rw [if_pos (hb.mpr (fun t => t.2 z)), if_pos z]
    rfl
  · rw [if_neg (fun t => (hb.mp t) ⟨hf, z⟩), if_neg z, cfail, bnd_some, if_neg (by first | decide | simp)]
/-- a word that sets a flag, on the class's side ahead of its word -/
theorem ST_set {len p w f i : Nat} {M N : Mem} {L V : LM} (h : PT len p 1 w M N L V) (hw : w ≤ 10) (hf : fw w = true) (hi : i < 52) (e : cS i = (2, f, 0)) (hb : stb (2, f, 0) = true) (hS : St (wI L (2, f, 0) 1))
    (hB : ∀ N', f_X12_parseBehind (kmap w) N' = some ((), uI N' (31, 0, 0) (52 + i) 1)) : ∃ M' N', f_X12_parseStatement N = some ((), N') ∧ FC M M' ∧ FM N N' ∧ StmO len p (f_X4_takeFirstWord (uI M (2, 2, 0) f 1)) M' N' := by
  obtain ⟨n1, n2⟩ := km_kn w (by omega)
  have cU : ∀ X, LC X (uI X (2, 2, 0) f 1) := fun X => LC.u rfl (fun q => absurd q.1 (by first | decide | simp))
  have hL8 : ∀ j, (wI L (2, f, 0) 1).1 (8, 0, j) = L.1 (8, 0, j) := fun j => by rw [rdw, if_neg (by simp)]
  have et := tfw2 (h.1.l (cU M) (LN.refl N)) (h.2.2.2.2.l (cU M) (LN.refl N) hL8) hf
  have ep := ps_w h hw
  by_cases z : N.1 (36, 0, 0) (kn w) = 0
  · rw [if_pos z] at et
    rw [if_pos (Or.inl z)] at ep
    obtain ⟨hP, f1, f2⟩ := h.m3 hf
    have e30 : uI (uI M (2, 2, 0) f 1) (3, 0, 0) 4 (((uI M (2, 2, 0) f 1).1 (3, 0, 0) 4) ||| (wBit.getD w 0)) = uI (uI M (3, 0, 0) 4 ((M.1 (3, 0, 0) 4) ||| (wBit.getD w 0))) (2, 2, 0) f 1 := by
      rw [(cU M).2.1]
      exact uI_comm (fun q => absurd (congrArg Prod.fst q.1) (by first | decide | simp))
    rw [e30] at et
    have f0 := cU (uI M (3, 0, 0) 4 ((M.1 (3, 0, 0) 4) ||| (wBit.getD w 0)))
    have hP2 := hP.1.l f0 (LN.refl _)
    obtain ⟨M1, N1, p1, k1, w1, a1, a2, a3, a4, a5, a6, a7⟩ := nx_ts hP2
    rw [a1, bnd_some] at et
    have g0 : LN N1 (uI N1 (31, 0, 0) (52 + i) 1) := LN.S (by omega)
    have hC1 : hasC 2 M1 (wI L (2, f, 0) 1) := (hP.2.1.u rfl).s a3.s
    have hM1 : hasM 4 52 (uI N1 (31, 0, 0) (52 + i) 1) (wI V (2, f, 0) 1) := by
      rw [← e]
      exact (hP.2.2.1.s a4.s).uS hi
    have hK1 : MS M1 (uI N1 (31, 0, 0) (52 + i) 1) (wI L (2, f, 0) 1) := (((hP.2.2.2.2.l f0 (LN.refl _) hL8).s a3.s a4.s).l (LC.refl _) g0 (fun _ => rfl))
    have hPT : PT len p1 k1 w1 M1 (uI N1 (31, 0, 0) (52 + i) 1) (wI L (2, f, 0) 1) (wI V (2, f, 0) 1) := ⟨a5.l (LC.refl _) g0, hC1, hM1, hP.2.2.2.1.w hb hS, hK1⟩
    have b4 : BodyO len p1 (some (1, M1)) M1 (uI N1 (31, 0, 0) (52 + i) 1) := Or.inl ⟨rfl, p1, k1, w1, _, _, hPT, Nat.le_refl _⟩
    obtain ⟨M3, N3, d1, d2, d3, d4⟩ := SG (b4.le a6)
    rw [← et] at d4
    refine ⟨M3, N3, ?_, ((f1.trans f0.2.2).trans a3.c).trans d2, ((f2.trans a4.m).trans g0.2.2).trans d3, d4⟩
    rw [ep, ps50_eq, if_neg (show ¬ bad (kmap w) 25 by rw [n1]; exact nbad n2 (by first | decide | simp)), show (kmap w).toNatClampNeg = kn w by rw [n1]; exact nI_clamp (by omega), b11]
    dsimp only [nm]
    rw [ok1 hP.1.2.2, bnd_some, if_neg (by first | decide | simp), a2, bnd_some, hB, bnd_some, d1]
  · rw [if_neg z] at et
    rw [if_neg (fun t => t.elim z (fun y => by rw [hf] at y; cases y))] at ep
    have hT2 := h.1.l (cU M) (LN.refl N)
    obtain ⟨M1, N1, a1, a2, a3, a4, a5⟩ := fail2 (x := 3) hT2 (by first | decide | simp)
    rw [cfail] at a1
    obtain ⟨N2, b1, b2⟩ := ps50_f (w := w) (by omega) a5.2.2
    refine ⟨M1, N2, by rw [ep, a2, bnd_some, b1], (cU M).2.2.trans a3.2, a4.2.trans b2.1, Or.inr ⟨Or.inl ?_, a5.n b2⟩⟩
    rw [et]
    exact a1
theorem ST4 {len p : Nat} {M N : Mem} {L V : LM} (h : PT len p 1 4 M N L V) : ∃ M' N', f_X12_parseStatement N = some ((), N') ∧ FC M M' ∧ FM N N' ∧ StmO len p (f_X4_readStatement M) M' N' := by
  obtain ⟨q1, q2, q3, q4⟩ := h.1.w
  obtain ⟨M', N', a1, a2, a3, a4⟩ := ST_set (f := 9) (i := 6) h (by first | decide | simp) rfl (by first | decide | simp) rfl rfl (h.2.2.2.1.2.1.q (by first | decide | simp) (by first | decide | simp) (by first | decide | simp) (by simp) (by simp) (by simp) (by simp) (fun _ => Or.inr rfl) (by simp) (by simp) (by simp) (by simp) (by simp) (by simp) (by simp)) (fun N' => by
    unfold f_X12_parseBehind
    rw [show kmap 4 = (9 : Int32) by decide]
    simp only [show ¬ ((9 : Int32) = 0) by decide, show ¬ ((9 : Int32) = 6) by decide, show ¬ ((9 : Int32) = 7) by decide, show ¬ ((9 : Int32) = 8) by decide, if_false, if_true]
    rw [drf, bnd_some, if_neg (by first | decide | simp)]
    rfl)
  refine ⟨M', N', a1, a2, a3, ?_⟩
  unfold f_X4_readStatement
  rw [q2, wck_n q1, if_neg (by first | decide | simp), if_neg (by first | decide | simp), if_neg (by first | decide | simp), if_neg (by first | decide | simp), if_neg (by first | decide | simp), if_neg (by first | decide | simp), if_pos (by first | decide | simp)]
  exact a4.chk
theorem ST5 {len p : Nat} {M N : Mem} {L V : LM} (h : PT len p 1 5 M N L V) : ∃ M' N', f_X12_parseStatement N = some ((), N') ∧ FC M M' ∧ FM N N' ∧ StmO len p (f_X4_readStatement M) M' N' := by
  obtain ⟨q1, q2, q3, q4⟩ := h.1.w
  obtain ⟨M', N', a1, a2, a3, a4⟩ := ST_set (f := 10) (i := 7) h (by first | decide | simp) rfl (by first | decide | simp) rfl rfl (h.2.2.2.1.2.1.q (by first | decide | simp) (by first | decide | simp) (by first | decide | simp) (by simp) (by simp) (by simp) (by simp) (fun _ => Or.inr rfl) (by simp) (by simp) (by simp) (by simp) (by simp) (by simp) (by simp)) (fun N' => by
    unfold f_X12_parseBehind
    rw [show kmap 5 = (10 : Int32) by decide]
    simp only [show ¬ ((10 : Int32) = 0) by decide, show ¬ ((10 : Int32) = 6) by decide, show ¬ ((10 : Int32) = 7) by decide, show ¬ ((10 : Int32) = 8) by decide, show ¬ ((10 : Int32) = 9) by decide, if_false, if_true]
    rw [drf, bnd_some, if_neg (by first | decide | simp)]
    rfl)
  refine ⟨M', N', a1, a2, a3, ?_⟩
  unfold f_X4_readStatement
  rw [q2, wck_n q1, if_neg (by first | decide | simp), if_neg (by first | decide | simp), if_neg (by first | decide | simp), if_neg (by first | decide | simp), if_neg (by first | decide | simp), if_neg (by first | decide | simp), if_neg (by first | decide | simp), if_pos (by first | decide | simp)]
  exact a4.chk
theorem sw_hi : ∀ w, w < 26 → 10 < w → ∀ k, k < 12 → 0 < k → ¬ wSw.getD w 0 = nI k := by decide +kernel
theorem ST_bad {len p k w : Nat} {M N : Mem} (h : TS len p k w M N) (hk : k ≠ 1 ∨ 10 < w) : ∃ M' N', f_X12_parseStatement N = some ((), N') ∧ FC M M' ∧ FM N N' ∧ StmO len p (f_X4_readStatement M) M' N' := by
  obtain ⟨q1, q2, q3, q4⟩ := h.w
  obtain ⟨k1, k2, k3⟩ := h.k
  obtain ⟨M', N', f1, f2, f3, f4, f5⟩ := fail2 (x := 1) h (by first | decide | simp)
  have hw : 10 < w := by
    by_cases z : k = 1
    · exact hk.resolve_left (fun q => q z)
    · have := q3 z; omega
  refine ⟨M', N', ?_, f3.2, f4.2, Or.inr ⟨Or.inl ?_, f5⟩⟩
  · unfold f_X12_parseStatement
    rw [k2]
    by_cases z : k = 1
    · subst z
      rw [if_pos (show nI 1 = (1 : Int32) from rfl), q4 rfl, isSt q1, if_neg (by omega), bnd_some, if_pos rfl, f2, bnd_some]
    · rw [if_neg (fun y : nI k = 1 => z (nIi (b := 1) y (by omega) (by first | decide | simp))), f2, bnd_some]
  · have sk := sw_hi w q1 hw
    have s1 : ¬ wSw.getD w 0 = 1 := sk 1 (by first | decide | simp) (by first | decide | simp)
    have s2 : ¬ wSw.getD w 0 = 2 := sk 2 (by first | decide | simp) (by first | decide | simp)
    have s3 : ¬ wSw.getD w 0 = 3 := sk 3 (by first | decide | simp) (by first | decide | simp)
    have s4 : ¬ wSw.getD w 0 = 4 := sk 4 (by first | decide | simp) (by first | decide | simp)
    have s5 : ¬ wSw.getD w 0 = 5 := sk 5 (by first | decide | simp) (by first | decide | simp)
    have s6 : ¬ wSw.getD w 0 = 6 := sk 6 (by first | decide | simp) (by first | decide | simp)
    have s7 : ¬ wSw.getD w 0 = 7 := sk 7 (by first | decide | simp) (by first | decide | simp)
    have s8 : ¬ wSw.getD w 0 = 8 := sk 8 (by first | decide | simp) (by first | decide | simp)
    have s9 : ¬ wSw.getD w 0 = 9 := sk 9 (by first | decide | simp) (by first | decide | simp)
    have s10 : ¬ wSw.getD w 0 = 10 := sk 10 (by first | decide | simp) (by first | decide | simp)
    have s11 : ¬ wSw.getD w 0 = 11 := sk 11 (by first | decide | simp) (by first | decide | simp)
    unfold f_X4_readStatement
    rw [q2, wck_n q1, if_neg s1, if_neg s2, if_neg s3, if_neg s4, if_neg s5, if_neg s6, if_neg s7, if_neg s8, if_neg s9, if_neg s10, if_neg s11, f1, bnd_some, if_neg (by first | decide | simp)]
theorem B_stm {len p k w : Nat} {M N : Mem} {L V : LM} (h : PT len p k w M N L V) : ∃ M' N', f_X12_parseStatement N = some ((), N') ∧ FC M M' ∧ FM N N' ∧ StmO len p (f_X4_readStatement M) M' N' := by
  by_cases hk : k = 1
  · subst hk
    by_cases hw : 10 < w
    · exact ST_bad h.1 (Or.inr hw)
    · rcases (show w = 0 ∨ w = 1 ∨ w = 2 ∨ w = 3 ∨ w = 4 ∨ w = 5 ∨ w = 6 ∨ w = 7 ∨ w = 8 ∨ w = 9 ∨ w = 10 by omega) with rfl | rfl | rfl | rfl | rfl | rfl | rfl | rfl | rfl | rfl | rfl
      · exact ST0 h
      · exact ST1 h
      · exact ST2 h
      · exact ST3 h
      · exact ST4 h
      · exact ST5 h
      · exact ST6 h
      · exact ST7 h
      · exact ST8 h
      · exact ST9 h
      · exact ST10 h
  · exact ST_bad h.1 (Or.inl hk)
