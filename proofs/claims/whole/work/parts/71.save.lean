/-! ===== save and restore ===== -/
def Fq (M M' : Mem) : Prop := (∀ o k, stk o k = true → o.1 ≠ 23 → o.1 ≠ 34 → M'.1 o k = M.1 o k) ∧ (∀ o k, stl o = true → M'.2.1 o k = M.2.1 o k)
theorem cv_no {x a : Nat} (h : cvK x = true) (ha : cvK a = false) : x ≠ a := fun q => by rw [q, ha] at h; cases h
theorem Fq.stat {M M' : Mem} (h : Fq M M') (s : Stat M) : Stat M' := by
  obtain ⟨⟨n, n1, n2, n3⟩, s2, s3, s4, s5, s6, s7⟩ := s
  refine ⟨⟨n, n1, by rw [h.1 _ _ rfl (by simp) (by simp)]; exact n2, by rw [h.1 _ _ rfl (by simp) (by simp)]; exact n3⟩, fun i hi => by rw [h.1 _ _ rfl (by simp) (by simp), h.1 _ _ rfl (by simp) (by simp)]; exact s2 i hi, by rw [h.1 _ _ rfl (by simp) (by simp), h.1 _ _ rfl (by simp) (by simp)]; exact s3, by rw [h.1 _ _ rfl (by simp) (by simp), h.1 _ _ rfl (by simp) (by simp)]; exact s4, fun x hx => ?_, fun x hx => ?_, fun i hi => by rw [h.2 _ _ rfl]; exact s7 i hi⟩
  · rw [h.1 _ _ (stk_cv (c := 0) (vld_cv hx)) (show x.1 ≠ 23 from cv_no (vld_cv hx) rfl) (show x.1 ≠ 34 from cv_no (vld_cv hx) rfl)]; exact s5 x hx
  · rw [h.2 (x.1, 0, x.2.2) _ (by unfold stl; rw [vldL_cv hx]; simp)]; exact s6 x hx
theorem Fr.q {M M' : Mem} (h : Fr M M') : Fq M M' := ⟨fun o k q _ _ => h.1 o k q, h.2⟩
theorem Fq.trans {M M' M'' : Mem} (h : Fq M M') (k : Fq M' M'') : Fq M M'' := ⟨fun o i q q1 q2 => (k.1 o i q q1 q2).trans (h.1 o i q q1 q2), fun o i q => (k.2 o i q).trans (h.2 o i q)⟩
theorem Fq.s23 {M : Mem} {k : Nat} {x : Int32} : Fq M (uI M (23, 0, 0) k x) := ⟨fun _ _ _ h _ => uI_no h, fun _ _ _ => rfl⟩
theorem Fq.s34 {M : Mem} {k : Nat} {x : Int32} : Fq M (uI M (34, 0, 0) k x) := ⟨fun _ _ _ _ h => uI_no h, fun _ _ _ => rfl⟩
theorem i32_l {x : Int32} (h : x < 2) : x ≤ 1 := by
  rw [Int32.lt_iff_toInt_lt] at h
  rw [Int32.le_iff_toInt_le]
  have e1 : (2 : Int32).toInt = 2 := by decide
  have e2 : (1 : Int32).toInt = 1 := by decide
  omega
theorem rq_s1 {x : Int32} {M : Mem} (h : 0 ≤ x ∧ x ≤ 1) : f_X11_requireSlot x M = some (.inl (), M) := by
  obtain ⟨j, hj, rfl⟩ := rng (n := 1) (by first | decide | simp) h
  unfold f_X11_requireSlot
  rcases (show j = 0 ∨ j = 1 by omega) with rfl | rfl
  · rw [if_neg (by first | decide | simp), if_pos (by first | decide | simp)]
  · rw [if_neg (by first | decide | simp), if_pos (by first | decide | simp)]
theorem rq_s0 {x : Int32} {M : Mem} (h : ¬ (0 ≤ x ∧ x ≤ 1)) : f_X11_requireSlot x M = some (.inr 1, M) := by
  unfold f_X11_requireSlot
  by_cases h1 : x < 0
  · rw [if_pos h1]
  · rw [if_neg h1, if_neg (fun q => h ⟨Int32.not_lt.mp h1, i32_l q⟩)]
/-- what a call's beginning needs of the memory alone -/
theorem fzM0 {N : Mem} {V : LM} (h : hasM 0 0 N V) : f_X12_fails 0 0 0 N = some (0, uI N (10, 0, 0) 0 0) := by
  have q := fz0 (N := N) (V := V)
  rw [putM_uI (o := (10, 0, 0)) (by first | decide | simp) (by first | decide | simp), show putM 0 0 N V = N from h] at q
  exact q
theorem itsM0 {N : Mem} {V : LM} (h : hasM 0 0 N V) (h7 : N.1 (10, 0, 0) 7 = nI 0) : f_X12_its 0 N = some (V.1 (2, 15, 0), N) := by
  have q := its_0 (σ := 0) (N := N) (V := V) h7 (by first | decide | simp)
  rw [show putM 0 0 N V = N from h] at q
  exact q
theorem a1k {k : Nat} (hk : k ≤ 1) : (1 : Int32) + nI k = nI (1 + k) := by
  rcases (show k = 0 ∨ k = 1 by omega) with rfl | rfl <;> decide
theorem M_cbs {a b : Nat} {M : Mem} {V : LM} (ha : a < 5) (hb : b < 5) (hab : a ≠ b) (h : hasM a 0 M V) : f_X12_copyBlock (nI a) (nI b) M = some ((), putM b 0 M V) := by
  rw [M_cb ha hb hab, cb_has h]
theorem putM_no {β σ k : Nat} {o : Oid} {M : Mem} {V : LM} (h1 : o.1 ≠ 31) (h2 : o.1 ≠ 32) : (putM β σ M V).1 o k = M.1 o k := by
  unfold putM
  dsimp only
  rw [if_neg (fun q => h2 (by rw [q.1])), if_neg (fun q => h1 (by rw [q.1]))]
theorem putM_noL {β σ k : Nat} {o : Oid} {M : Mem} {V : LM} (h1 : o.1 ≠ 33) : (putM β σ M V).2.1 o k = M.2.1 o k := by
  unfold putM
  dsimp only
  rw [if_neg (fun q => h1 (by rw [q.1]))]
theorem h7u0 {N : Mem} {z : Int32} : (uI N (10, 0, 0) 0 z).1 (10, 0, 0) 7 = N.1 (10, 0, 0) 7 := by
  unfold uI
  dsimp only
  rw [if_neg (fun q => absurd q.2 (by first | decide | simp))]
theorem A_save {B t : Nat} {M : Mem} {L V : LM} (h : InX B M t L V) (y : Int32) : Ans (cd1 1) (f_X11_save y M) (f_X12_save y) M B := by
  have hE := h.2.2.2.1.1
  by_cases hy : 0 ≤ y ∧ y ≤ 1
  · obtain ⟨k, hk, rfl⟩ := rng (n := 1) (by first | decide | simp) hy
    obtain ⟨hB, hC, hM, hR, r1, r2, r3, r4, r5⟩ := h
    obtain ⟨M1, e1, c1⟩ := cp_X3 (a := 3 + k) (c := 1) (M := M) (by omega) (hR.bzc hC)
    obtain ⟨L1, V1, g1, g2, g3, g4, g5, g6⟩ := hR.copy hC c1 (fun j hj => r4 _ (by omega) j hj)
    have hm1 : MkC L1 := g3.2.1.2.2.2.2.2.2.2.2.2.2.2.2.2.1
    subst g2
    refine Or.inr ⟨L.1 (2, 15, 0), uI (putC (3 + k) M L1) (23, 0, 0) k 1, ?_, fun w => ?_⟩
    · unfold f_X11_save
      have e1' : f_X3_copyFrom (3 + Int32.toNatClampNeg (nI k)) 1 M = some ((), putC (3 + k) M L1) := by rw [nI_clamp (by omega)]; exact e1
      rw [rq_s1 hy, bndX_l, if_neg (nbad (by omega) (by first | decide | simp)), e1', bnd_some, if_neg (nbad (by omega) (by first | decide | simp)), nI_clamp (by omega), show ((1 : Int32) &&& 1) = 1 by decide]
      dsimp only [nm]
      rw [show (uI (putC (3 + k) M L1) (23, 0, 0) k 1).1 (2, 1, 0) 15 = L.1 (2, 15, 0) from by rw [uI_no (by simp)]; exact (hC.c (c := 1) (d := 3 + k) (by omega)).I rfl]
    · have hC1 : hasC 1 (uL (uI (putC (3 + k) M L1) (23, 0, 0) k 1) (40, 0, 0) 0 w) L := ((hC.c (by omega)).ui (by simp [cvK])).ul (by simp [cvK])
      have hCk : hasC (3 + k) (uL (uI (putC (3 + k) M L1) (23, 0, 0) k 1) (40, 0, 0) 0 w) L1 := (g1.ui (by simp [cvK])).ul (by simp [cvK])
      have hM1 : hasM 0 0 (uL (uI (putC (3 + k) M L1) (23, 0, 0) k 1) (40, 0, 0) 0 w) V := (hM.c.ui (by first | decide | simp) (by first | decide | simp)).ul (by first | decide | simp)
      have h7 : (uL (uI (putC (3 + k) M L1) (23, 0, 0) k 1) (40, 0, 0) 0 w).1 (10, 0, 0) 7 = 0 := by
        show (uI (putC (3 + k) M L1) (23, 0, 0) k 1).1 (10, 0, 0) 7 = 0
        rw [uI_no (by simp), putC_no rfl]; exact r1
      have e34 : (uL (uI (putC (3 + k) M L1) (23, 0, 0) k 1) (40, 0, 0) 0 w).1 (34, 0, 0) (1 - k) = M.1 (34, 0, 0) (1 - k) := by
        show (uI (putC (3 + k) M L1) (23, 0, 0) k 1).1 (34, 0, 0) (1 - k) = _
        rw [uI_no (by simp), putC_no rfl]
      have e23 : (uL (uI (putC (3 + k) M L1) (23, 0, 0) k 1) (40, 0, 0) 0 w).1 (23, 0, 0) (1 - k) = M.1 (23, 0, 0) (1 - k) := by
        show (uI (putC (3 + k) M L1) (23, 0, 0) k 1).1 (23, 0, 0) (1 - k) = _
        unfold uI
        dsimp only
        rw [if_neg (fun q => by have := q.2; omega), putC_no rfl]
      have e23k : (uL (uI (putC (3 + k) M L1) (23, 0, 0) k 1) (40, 0, 0) 0 w).1 (23, 0, 0) k = 1 := uI_at
      have hsl : ∀ X, hasC (3 + (1 - k)) M X → hasC (3 + (1 - k)) (uL (uI (putC (3 + k) M L1) (23, 0, 0) k 1) (40, 0, 0) 0 w) X := fun X hX => ((hX.c (by omega)).ui (by simp [cvK])).ul (by simp [cvK])
      have hsm : ∀ X, hasM (1 + (1 - k)) 0 M X → hasM (1 + (1 - k)) 0 (uL (uI (putC (3 + k) M L1) (23, 0, 0) k 1) (40, 0, 0) 0 w) X := fun X hX => (hX.c.ui (by first | decide | simp) (by first | decide | simp)).ul (by first | decide | simp)
      have hmk : Msk (uL (uI (putC (3 + k) M L1) (23, 0, 0) k 1) (40, 0, 0) 0 w) := by
        intro d hd j hj
        show (uI (putC (3 + k) M L1) (23, 0, 0) k 1).1 (4, d, j) 1 = _
        rw [uI_no (by simp)]
        by_cases z : d = 3 + k
        · rw [z, g1.I rfl]; exact hm1 j hj
        · show (if cvK 4 = true ∧ d = 3 + k then L1.1 (4, 1, j) else M.1 (4, d, j) 1) = _
          rw [if_neg (fun q => z q.2)]
          exact r4 d hd j hj
      have hst : Stat (uL (uI (putC (3 + k) M L1) (23, 0, 0) k 1) (40, 0, 0) 0 w) := (((Fr.c (by omega)).q.trans Fq.s23).trans (Fr.ul rfl).q).stat r5
      have hsV : ∀ X, hasM (1 + (1 - k)) 0 M X → ∀ i, i < 52 → V.1 (cS i) = X.1 (cS i) := fun X hX i hi => by rw [← hM.S hi, hX.S hi]
      have e40 : (uL (uI (putC (3 + k) M L1) (23, 0, 0) k 1) (40, 0, 0) 0 w).2.1 (40, 0, 0) 0 = w := ul40
      generalize (uL (uI (putC (3 + k) M L1) (23, 0, 0) k 1) (40, 0, 0) 0 w) = N at *
      have hM2 : hasM 0 0 (uI (uI N (10, 0, 0) 0 0) (34, 0, 0) k 1) V := (hM1.ui (by first | decide | simp) (by first | decide | simp)).ui (by first | decide | simp) (by first | decide | simp)
      have hM3 : hasM 0 0 (putM (1 + k) 0 (uI (uI N (10, 0, 0) 0 0) (34, 0, 0) k 1) V) V := hM2.m (by omega) (fun _ _ => rfl)
      have eP : putM (1 + k) 0 (uI (uI N (10, 0, 0) 0 0) (34, 0, 0) k 1) V = putM (1 + k) 0 (uI (uI N (10, 0, 0) 0 0) (34, 0, 0) k 1) V1 := (putM_congr g4 g5 g6).symm
      have f7 : (putM (1 + k) 0 (uI (uI N (10, 0, 0) 0 0) (34, 0, 0) k 1) V).1 (10, 0, 0) 7 = 0 := by
        rw [putM_no (by simp) (by simp), uI_no (by simp), h7u0]
        exact h7
      have f34 : (putM (1 + k) 0 (uI (uI N (10, 0, 0) 0 0) (34, 0, 0) k 1) V).1 (34, 0, 0) k = 1 := by
        rw [putM_no (by simp) (by simp)]; exact uI_at
      have f34b : (putM (1 + k) 0 (uI (uI N (10, 0, 0) 0 0) (34, 0, 0) k 1) V).1 (34, 0, 0) (1 - k) = M.1 (34, 0, 0) (1 - k) := by
        rw [putM_no (by simp) (by simp), (show (uI (uI N (10, 0, 0) 0 0) (34, 0, 0) k 1).1 (34, 0, 0) (1 - k) = (uI N (10, 0, 0) 0 0).1 (34, 0, 0) (1 - k) from if_neg (fun q => by have := q.2; omega)), uI_no (by simp)]
        exact e34
      have f23 : ∀ i, (putM (1 + k) 0 (uI (uI N (10, 0, 0) 0 0) (34, 0, 0) k 1) V).1 (23, 0, 0) i = N.1 (23, 0, 0) i := fun i => by
        rw [putM_no (by simp) (by simp), uI_no (by simp), uI_no (by simp)]
      have hCf : ∀ c X, hasC c N X → hasC c (putM (1 + k) 0 (uI (uI N (10, 0, 0) 0 0) (34, 0, 0) k 1) V) X := fun c X hX => ((hX.ui (by simp [cvK])).ui (by simp [cvK])).m
      have hsk : Slot k B (putM (1 + k) 0 (uI (uI N (10, 0, 0) 0 0) (34, 0, 0) k 1) V) := ⟨by rw [f34, f23, e23k], by rw [f23, e23k]; exact Or.inr rfl, fun _ => ⟨t, L1, V1, hB, hCf _ _ hCk, by rw [eP]; exact hasM.new, g3⟩⟩
      have hso : Slot (1 - k) B M → Slot (1 - k) B (putM (1 + k) 0 (uI (uI N (10, 0, 0) 0 0) (34, 0, 0) k 1) V) := by
        rintro ⟨q1, q2, q3⟩
        refine ⟨by rw [f34b, f23, e23]; exact q1, by rw [f23, e23]; exact q2, fun q => ?_⟩
        rw [f23, e23] at q
        obtain ⟨t', L', V', w1, w2, w3, w4⟩ := q3 q
        exact ⟨t', L', V', w1, hCf _ _ (hsl _ w2), (((hsm _ w3).ui (by first | decide | simp) (by first | decide | simp)).ui (by first | decide | simp) (by first | decide | simp)).m (by omega) (hsV _ w3), w4⟩
      refine ⟨putM (1 + k) 0 (uI (uI N (10, 0, 0) 0 0) (34, 0, 0) k 1) V, ?_, ?_, ?_, ⟨t, L, V, hB, hCf _ _ hC1, hM3, hR, f7, ?_, ?_, ?_, ?_⟩⟩
      · unfold f_X12_save f_X12_save_15
        rw [iR1 hy, bnd_some, if_neg (by first | decide | simp), fzM0 hM1, bnd_some, if_pos (by first | decide | simp), if_neg (nbad (by omega) (by first | decide | simp)), nI_clamp (by omega), show ((1 : Int32) &&& 1) = 1 by decide]
        dsimp only [nm]
        have qc : f_X12_copyBlock 0 (nI (1 + k)) (uI (uI N (10, 0, 0) 0 0) (34, 0, 0) k 1) = _ := M_cbs (a := 0) (by first | decide | simp) (by omega) (by omega) hM2
        rw [a1k hk, qc, bnd_some, itsM0 hM3 f7, bnd_some, hE.1 (2, 15, 0) rfl]
      · rw [putM_no (by simp) (by simp), uI_no (by simp)]; exact uI_at
      · rw [putM_noL (by simp)]; exact e40
      · rcases (show k = 0 ∨ k = 1 by omega) with rfl | rfl
        · exact hsk
        · exact hso r2
      · rcases (show k = 0 ∨ k = 1 by omega) with rfl | rfl
        · exact hso r3
        · exact hsk
      · intro d hd j hj
        rw [putM_no (by simp) (by simp), uI_no (by simp), uI_no (by simp)]
        exact hmk d hd j hj
      · exact (((Fr.ui rfl).q.trans Fq.s34).trans Fr.m.q).stat hst
  · refine Ans.thr (e := 1) (b := 0) h (Nat.le_refl B) ?_ (by first | decide | simp) (fun N h7 => ?_)
    · unfold f_X11_save
      rw [rq_s0 hy, bndX_r]
    · unfold f_X12_save f_X12_save_15
      rw [iR0 hy, bnd_some, if_pos rfl, fz1, bnd_some, if_neg (by first | decide | simp)]
      rfl
theorem fzM2 {N : Mem} {V : LM} (h : hasM 0 0 N V) : f_X12_fails 0 1 0 N = some (1, uI N (10, 0, 0) 0 2) := by
  have q := fz2 (N := N) (V := V) (c := 0)
  rw [putM_uI (o := (10, 0, 0)) (by first | decide | simp) (by first | decide | simp), show putM 0 0 N V = N from h] at q
  exact q
theorem A_restore {B t : Nat} {M : Mem} {L V : LM} (h : InX B M t L V) (y : Int32) : Ans (cd2 1 0) (f_X11_restore y M) (f_X12_restore y) M B := by
  have hE := h.2.2.2.1.1
  by_cases hy : 0 ≤ y ∧ y ≤ 1
  · obtain ⟨k, hk, rfl⟩ := rng (n := 1) (by first | decide | simp) hy
    have hs : Slot k B M := by
      rcases (show k = 0 ∨ k = 1 by omega) with rfl | rfl
      · exact h.2.2.2.2.2.1
      · exact h.2.2.2.2.2.2.1
    have hI := h
    obtain ⟨hB, hC, hM, hR, r1, r2, r3, r4, r5⟩ := h
    obtain ⟨q1, q2, q3⟩ := hs
    by_cases z : M.1 (23, 0, 0) k = 0
    · refine Or.inl ⟨0, 0, ?_, by decide, ?_, ⟨t, L, V, hI⟩⟩
      · unfold f_X11_restore
        rw [rq_s1 hy, bndX_l, if_neg (nbad (by omega) (by first | decide | simp)), if_pos (by rw [nI_clamp (by omega)]; exact z)]
      · unfold f_X12_restore f_X12_restore_17
        rw [iR1 hy, bnd_some, if_neg (by first | decide | simp), if_neg (by first | decide | simp), if_neg (nbad (by omega) (by first | decide | simp)), nI_clamp (by omega), if_pos (by rw [q1]; exact z)]
        unfold f_X12_restore_35
        rw [fzM2 hM, bnd_some, if_neg (by first | decide | simp)]
        rfl
    · obtain ⟨t', L', V', w1, w2, w3, w4⟩ := q3 z
      obtain ⟨M1, e1, c1⟩ := cp_X3 (a := 1) (c := 3 + k) (M := M) (by omega) (w4.bzc w2)
      obtain ⟨L1, V1, g1, g2, g3, g4, g5, g6⟩ := w4.copy w2 c1 (fun j hj => r4 _ (by first | decide | simp) j hj)
      subst g2
      have sV : ∀ i, i < 52 → V1.1 (cS i) = V.1 (cS i) := fun i hi => by rw [g5 i hi, ← w3.S hi, hM.S hi]
      refine Or.inr ⟨L1.1 (2, 15, 0), putC 1 M L1, ?_, fun w => ?_⟩
      · unfold f_X11_restore
        have e1' : f_X3_copyFrom 1 (3 + Int32.toNatClampNeg (nI k)) M = some ((), putC 1 M L1) := by rw [nI_clamp (by omega)]; exact e1
        rw [rq_s1 hy, bndX_l, if_neg (nbad (by omega) (by first | decide | simp)), if_neg (by rw [nI_clamp (by omega)]; exact z), if_neg (nbad (by omega) (by first | decide | simp)), e1', bnd_some, show (putC 1 M L1).1 (2, 1, 0) 15 = L1.1 (2, 15, 0) from g1.I rfl]
      · have hs := (hI.stepS g3 (Nat.le_refl B) w1 sV w).ui0 0
        have eC : putM 0 0 (uI (uL (putC 1 M L1) (40, 0, 0) 0 w) (10, 0, 0) 0 0) V' = uI (putM 0 0 (uL (putC 1 M L1) (40, 0, 0) 0 w) V1) (10, 0, 0) 0 0 := by
          rw [putM_uI (o := (10, 0, 0)) (by first | decide | simp) (by first | decide | simp), putM_congr g4 g5 g6]
        have hM1 : hasM 0 0 (uL (putC 1 M L1) (40, 0, 0) 0 w) V := hM.c.ul (by first | decide | simp)
        have hMk : hasM (1 + k) 0 (uI (uL (putC 1 M L1) (40, 0, 0) 0 w) (10, 0, 0) 0 0) V' := (w3.c.ul (by first | decide | simp)).ui (by first | decide | simp) (by first | decide | simp)
        refine ⟨_, ?_, uI_at, ?_, ⟨t', L1, V1, hs⟩⟩
        · unfold f_X12_restore f_X12_restore_17
          rw [iR1 hy, bnd_some, if_neg (by first | decide | simp), if_neg (by first | decide | simp), if_neg (nbad (by omega) (by first | decide | simp)), nI_clamp (by omega), if_neg (by
            show ¬ (putC 1 M L1).1 (34, 0, 0) k = 0
            rw [putC_no rfl, q1]; exact z)]
          unfold f_X12_restore_34 f_X12_restore_35
          have qc : f_X12_copyBlock (nI (1 + k)) 0 (uI (uL (putC 1 M L1) (40, 0, 0) 0 w) (10, 0, 0) 0 0) = _ := M_cbs (b := 0) (by omega) (by first | decide | simp) (by omega) hMk
          rw [fzM0 hM1, bnd_some, if_pos (by first | decide | simp), a1k hk, qc, bnd_some, eC, itsM0 hs.2.2.1 hs.2.2.2.2.1, bnd_some, g3.1.1 (2, 15, 0) rfl]
        · show (putM 0 0 (uL (putC 1 M L1) (40, 0, 0) 0 w) V1).2.1 (40, 0, 0) 0 = w
          rw [putM_noL (by simp)]; exact ul40
  · refine Ans.thr (e := 1) (b := 0) h (Nat.le_refl B) ?_ (by first | decide | simp) (fun N h7 => ?_)
    · unfold f_X11_restore
      rw [rq_s0 hy, bndX_r]
    · unfold f_X12_restore f_X12_restore_17
      rw [iR0 hy, bnd_some, if_pos rfl, if_pos rfl]
      unfold f_X12_restore_34 f_X12_restore_35
      rw [fz1, bnd_some, if_neg (by first | decide | simp)]
      rfl
