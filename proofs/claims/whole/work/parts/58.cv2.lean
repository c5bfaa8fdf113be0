/-! ===== a conversion's cycle, second half ===== -/
theorem stc5 {b c : Nat} (h : stc (5, b, c) = true) : b < 10 := by
  have h2 : (Nat.beq b 1 || Nat.beq b 2) = true := h
  rcases (Bool.or_eq_true _ _).mp h2 with q | q
  · have := Nat.eq_of_beq_eq_true q; omega
  · have := Nat.eq_of_beq_eq_true q; omega
theorem m_cv2_nx {s c p z k : Nat} {W : LM} : m_cv2 s c p z k W = if (nx W).1 (1, 2, 0) ≤ 0 then m_cv3 s c p z k (nx W) else nx W := by
  unfold m_cv2 nx
  rw [rdw, if_pos rfl]
theorem m_cv2_eq {s c p z k : Nat} {V : LM} : m_cv2 s c p z k (m_cv1 c V) = if (m_cv1b c V).1 (1, 2, 0) ≤ 0 then m_cv3 s c p z k (m_cv1b c V) else m_cv1b c V := m_cv2_nx
theorem shl_o : ∀ o, o < 5 → (1 : Int32) <<< (nI o &&& 31) = nI (2 ^ o) := by decide +kernel
theorem z_cv2_rdV {s : Nat} {L : LM} {a : Cl} (h3 : a.1 ≠ 1) (h4 : a.1 = 5 → a.2.1 < 10 ∨ a.2.2 ≠ s) : (z_cv2 s L).1 a = L.1 a := by
  unfold z_cv2
  have k5 : ∀ f, 10 ≤ f → a ≠ (5, f, s) := by
    intro f hf q
    subst q
    rcases h4 rfl with q | q
    · exact absurd q (by simpa using hf)
    · exact q rfl
  simp only [rdw]
  rw [if_neg (k5 11 (by first | decide | simp)), if_neg (k5 10 (by first | decide | simp)), if_neg (fun q => h3 (congrArg Prod.fst q)), if_neg (fun q => h3 (congrArg Prod.fst q))]
/-- the result isn't finished yet -/
theorem R.cv2 {t u s kk o : Nat} {L V : LM} (h : R t u L V) (hs : s < 2) (ho : L.1 (2, 12, 0) = nI o) (ho4 : o ≤ 4) (hk : L.1 (5, 10, s) = nI kk) (hlt : kk + 1 < 2 ^ o) : R t u (z_cv2 s L) (z_cv2 s V) := by
  have hF := h.r0.cvf hs
  have no : ∀ {a : Cl}, a.1 ≠ 5 → (a.1 = 5 → a.2.1 < 10 ∨ a.2.2 ≠ s) := fun h q => absurd q h
  have r1 : ∀ a : Cl, (a.1 = 5 → a.2.1 < 10 ∨ a.2.2 ≠ s) → ∀ W : LM, W.1 a = (z_forget s W).1 a := by
    intro a ha W
    unfold z_forget
    have k5 : ∀ f, 10 ≤ f → a ≠ (5, f, s) := by
      intro f hf q
      subst q
      rcases ha rfl with q | q
      · exact absurd q (by simpa using hf)
      · exact q rfl
    rw [rdw, if_neg (k5 11 (by first | decide | simp)), rdw, if_neg (k5 10 (by first | decide | simp))]
  have h00 : R00 t (z_cv2 s L) (z_cv2 s V) := by
    have q := hF.r00
    refine R00.k5 (L := z_forget s (z_cv2 s L)) (V := z_forget s (z_cv2 s V)) q (h.1.cv2 s) ?_ (fun a ha => r1 a (no ha) _) (fun a ha => r1 a (no ha) _) (fun j => r1 _ (fun _ => Or.inl (by simp)) _) (Ow0 (by unfold z_cv2; simp only [rdw, rdl, rdw2, rdl1, Prod.mk.injEq, Nat.reduceEqDiff, and_self, and_true, true_and, and_false, false_and, ite_true, ite_false, ↓reduceIte]))
    intro x hx
    exact r1 x (fun q => Or.inl (by obtain ⟨a, b, c⟩ := x; cases q; exact stc5 hx)) _
  have si : ∀ i, i ≠ s → Sq i (z_forget s (z_cv2 s L)) (z_forget s (z_cv2 s V)) → Sq i (z_cv2 s L) (z_cv2 s V) := fun i hi hq => hq.of (r1 _ (fun _ => Or.inr hi) _) (r1 _ (fun _ => Or.inr hi) _) (r1 _ (fun _ => Or.inr hi) _) (r1 _ (fun _ => Or.inr hi) _) (r1 _ (no (by first | decide | simp)) _) (r1 _ (fun _ => Or.inr hi) _) (r1 _ (fun _ => Or.inr hi) _)
  have sj : Sq s (z_forget s (z_cv2 s L)) (z_forget s (z_cv2 s V)) → Sq s (z_cv2 s L) (z_cv2 s V) := by
    rintro ⟨p, n, o', k, a1, a2, a3, a4, a5, a6, a7, a8, a9, a10, a11⟩
    have e : ∀ f, f < 10 → ∀ W : LM, (z_forget s W).1 (5, f, s) = W.1 (5, f, s) := fun f hf W => (r1 _ (fun _ => Or.inl hf) W).symm
    rw [e _ (by first | decide | simp)] at a1 a2 a5
    rw [e _ (by first | decide | simp), e _ (by first | decide | simp), e _ (by first | decide | simp)] at a6
    rw [e _ (by first | decide | simp)] at a7
    refine ⟨p, n, o, kk + 1, a1, a2, a3, a4, a5, a6, a7, ?_, ho4, ?_, hlt⟩
    · rw [z_cv2_rdV (by first | decide | simp) (no (by first | decide | simp))]; exact ho
    · unfold z_cv2
      simp only [rdw, rdl, rdw2, rdl1, Prod.mk.injEq, Nat.reduceEqDiff, and_self, and_true, true_and, and_false, false_and, ite_true, ite_false, ↓reduceIte]
      rw [hk, nI_1]
  have hL : Lt u (z_cv2 s L) (z_cv2 s V) := h.lt.of (z_cv2_rdV (by first | decide | simp) (fun _ => Or.inl (by first | decide | simp))) (z_cv2_rdV (by first | decide | simp) (fun _ => Or.inl (by first | decide | simp))) (z_cv2_rdV (by first | decide | simp) (fun _ => Or.inl (by first | decide | simp))) (fun i => z_cv2_rdV (by simp) (no (by simp)))
  rcases (show s = 0 ∨ s = 1 by omega) with rfl | rfl
  · exact (h00.mk0 (sj hF.2.2.2.1) (si 1 (by first | decide | simp) hF.2.2.2.2.1)).mk hL
  · exact (h00.mk0 (si 0 (by first | decide | simp) hF.2.2.2.1) (sj hF.2.2.2.2.1)).mk hL
theorem R.lkc {t u : Nat} {L V : LM} (h : R t u L V) : LkC V := by
  intro w hw
  rw [h.1.1 _ rfl, h.1.1 _ rfl, h.1.1 _ rfl]
  refine ⟨(h.2.1.2.2.2.2.2.2.2.2.2.2.2.1 w hw).2, ?_⟩
  rcases h.2.2.2.2.2.1 w hw with q | q
  · exact Or.inl q.1
  · exact Or.inr q.1
/-- the result is finished -/
theorem R.finc {t s e p z o k : Nat} {L V : LM} (h : R t t L V) (ht : t + 1 < 2 ^ 31) (hs : s < 2) (hb : L.1 (5, 3, s) = 1) (hp : L.1 (5, 4, s) = nI p) (hpc : p < capE s) (hz : L.1 (4, 5, 0) = nI z) (ho : L.1 (4, 4, 0) = nI o) (hk : L.1 (4, 2, 0) = nI k) (h1 : o < 16) (h2 : z ≤ k) (h3 : k ≤ 16) (h4 : 1 ≤ k) (hC : RgC 0 z o L V) : R t (t + 1) (n_cv4 s (n_fin s e p o z k (z_cv2 s L))) (m_fin s e p z k (z_cv2 s V)) := by
  have hF := h.r0.cvf hs
  have no : ∀ {a : Cl}, a.1 ≠ 5 → (a.1 = 5 → a.2.1 < 10 ∨ a.2.2 ≠ s) := fun h q => absurd q h
  have rd : ∀ a : Cl, a.1 ≠ 1 → (a.1 = 5 → a.2.1 < 10 ∨ a.2.2 ≠ s) → ∀ W : LM, (z_cv2 s W).1 a = W.1 a := fun a h3 h4 W => z_cv2_rdV h3 h4
  have hc := capE8 (j := s)
  obtain ⟨L4, V4, e1, e2, d1, d2, d3, d4, d5, d6⟩ := S_fin7 (e := e) (p := p) hs (h.1.cv2 s) hF (by rw [rd _ (by first | decide | simp) (no (by first | decide | simp))]; exact hz) (by rw [rd _ (by first | decide | simp) (no (by first | decide | simp))]; exact ho) (by rw [rd _ (by first | decide | simp) (no (by first | decide | simp))]; exact hk) h1 h2 h3 h4 (hC.of (fun i => rd _ (by simp) (no (by simp)) _) (fun i => rd _ (by simp) (no (by simp)) _)) (fun q => by subst q; exact hpc)
  have z0 : (z_cv2 s L).1 (1, 0, 0) = 0 := by unfold z_cv2; simp only [rdw, rdl, rdw2, rdl1, Prod.mk.injEq, Nat.reduceEqDiff, and_self, and_true, true_and, and_false, false_and, ite_true, ite_false, ↓reduceIte]
  obtain ⟨n, n1, n2, n3, f1, f2, f3, f4, f5⟩ := S_end hs d1 (p := p) (by rw [d3 _ _ (by first | decide | simp), rd _ (by simp) (fun _ => Or.inl (by simp))]; exact hp) (by omega) (by rw [d3 _ _ (by first | decide | simp), rd _ (by simp) (fun _ => Or.inl (by simp))]; exact hb) (by rw [d4, z0])
  rw [e1, e2]
  refine f1.mk ?_
  have g1 : (n_cv4 s (n_fin8 s L4)).1 (5, 1, 1) = L.1 (5, 1, 1) := by rw [f4 _ rfl, d3 _ _ (by first | decide | simp), rd _ (by first | decide | simp) (fun _ => Or.inl (by first | decide | simp))]
  obtain ⟨r, p', n', a1, a2, a3, a4, a5, a6, a7, a8, a9⟩ := h.lt
  have rc : (z_cv2 s L).1 (5, 8, 1) = L.1 (5, 8, 1) := rd _ (by first | decide | simp) (fun _ => Or.inl (by first | decide | simp)) _
  have rv : ∀ i, (z_cv2 s V).1 (22, i, 0) = V.1 (22, i, 0) := fun i => rd _ (by simp) (no (by simp)) _
  rcases (show s = 0 ∨ s = 1 by omega) with rfl | rfl
  · refine ⟨r, p', n', ?_, by omega, ht, ?_, by rw [g1]; exact a5, a6, a7, a8, fun i hi => ?_⟩
    · rw [f2, d5, if_neg (by first | decide | simp), rc]; exact a1
    · rw [f5, if_neg (by first | decide | simp), d3 _ _ (by first | decide | simp), rd _ (by first | decide | simp) (fun _ => Or.inl (by first | decide | simp))]; exact a4
    · rw [f3, d6, if_neg (fun q => absurd q.1 (by first | decide | simp)), rv]; exact a9 i hi
  · have ep : p' = p := nIi (a4.symm.trans hp) a7 (by omega)
    subst ep
    have en : n' = n := nIi (by rw [← a5, ← n1, d3 _ _ (by first | decide | simp), rd _ (by first | decide | simp) (fun _ => Or.inl (by first | decide | simp))]) (by omega) (by omega)
    subst en
    refine ⟨r + 1, if p' + 1 < n' then p' + 1 else 0, n', ?_, by omega, ht, by rw [f5, if_pos rfl], by rw [g1]; exact a5, a6, by split <;> omega, fun q => ?_, fun i hi => ?_⟩
    · rw [f2, d5, if_pos rfl, rc, a1, nI_1]
    · have := a8 (by omega)
      rw [if_pos (by omega)]; omega
    · rw [f3, d6, rv, a9 i hi]
      by_cases q : i = p'
      · rw [if_pos ⟨rfl, q⟩]
        by_cases q2 : r < n'
        · have := a8 q2; rw [if_pos (by omega)]
        · rw [if_pos (by omega)]
      · rw [if_neg (fun z => q z.2)]
        by_cases q2 : i < r
        · rw [if_pos q2, if_pos (by omega)]
        · rw [if_neg q2, if_neg]
          intro q3
          have := a8 (by omega)
          omega
theorem S_cv {t : Nat} {L V : LM} (h : R t t L V) (ho : ¬ L.1 (1, 0, 0) = 0) (ht : t + 1 < 2 ^ 31) : ∃ L' V', g_X3_advanceConversion L = some ((), L') ∧ (∀ β N, N.1 (10, 0, 0) 7 = nI β → β < 5 → f_X12_convert (putM β 0 N V) = some ((), putM β 0 N V')) ∧ R t (t + 1) L' V' ∧ Sto L L' := by
  have hE := h.1
  rcases h.2.2.1.2.1 with q | ⟨s, hs, hi, hb⟩
  · exact absurd q ho
  obtain ⟨⟨e, he, hee⟩, _⟩ := h.2.2.1.2.2.1 ho
  obtain ⟨p, n, o2, kk, s1, s2, s3, s4, s5, s6, s7, s8, s9, s10, s11⟩ := h.seq hs
  obtain ⟨q, q1, q2, q3, q5, q4⟩ := s6 hb
  have hc := capE8 (j := s)
  obtain ⟨z, o, k, z1, z2, z3, z4, z5, z6, z7, z8⟩ := h.2.2.2.2.2.2.2.1
  have r16 : rk 0 = 16 := rfl
  obtain ⟨per, p1, p2, p3⟩ := h.2.1.2.2.2.2.2.2.2.2.2.2.2.2.1 e he
  have hmk : MkC L := h.2.1.2.2.2.2.2.2.2.2.2.2.2.2.2.1
  have hp4 : s = 1 → p < 4 := fun q => by subst q; have : capE 1 = 4 := rfl; omega
  refine ⟨n_cv2 s e p o z k (n_cv1 e L), m_cv2 s e p z k (m_cv1 e V), ?_, fun β N hbb hβ => ?_, ?_, (Stc.refl L).cv s e p o z k, Ov.cv (Kv.refl L) s e p o z k⟩
  · exact N_cv hs hi hee he hmk z2 z1 z3 (by omega) z5 (by omega) z7 s1 (by omega) (by rw [p3]; exact nI_nle p1 (by omega))
  · exact M_cv hbb hβ hs (by rw [hE.1 _ rfl]; exact hi) (by rw [hE.1 _ rfl]; exact hee) he h.lkc (by rw [hE.1 _ rfl]; exact z1) (by rw [hE.1 _ rfl]; exact z3) z7 (by omega) z5 (by rw [hE.1 _ rfl]; exact s1) hp4 (by rw [hE.1 _ rfl, p3]; exact nI_ne0 p1 (by omega))
  · have h1 := h.cv1 (c := e) ho
    have rl : ∀ a : Cl, a.1 ≠ 1 → (n_cv1 e L).1 a = L.1 a := fun a ha => cv1_l (Or.inl ha)
    have rv : ∀ a : Cl, a.1 ≠ 1 → (m_cv1b e V).1 a = V.1 a := fun a ha => cv1_v (Or.inl ha)
    rw [m_cv2_eq]
    unfold n_cv2
    rw [h1.1.1 (1, 2, 0) rfl]
    split
    · unfold n_cv3 m_cv3
      have c10 : ∀ W : LM, (z_cv2 s W).1 (5, 10, s) = W.1 (5, 10, s) + 1 := fun W => by unfold z_cv2; simp only [rdw, rdl, rdw2, rdl1, Prod.mk.injEq, Nat.reduceEqDiff, and_self, and_true, true_and, and_false, false_and, ite_true, ite_false, ↓reduceIte]
      have c12 : ∀ W : LM, (z_cv2 s W).1 (2, 12, 0) = W.1 (2, 12, 0) := fun W => z_cv2_rdV (by first | decide | simp) (fun q => absurd q (by first | decide | simp))
      rw [c10, c10, c12, c12, h1.1.1 (5, 10, s) rfl, h1.1.1 (2, 12, 0) rfl, rl _ (by simp), rl _ (by first | decide | simp), s10, s8, nI_1, shl_o o2 (by omega)]
      have p16 : 2 ^ o2 ≤ 2 ^ 4 := Nat.pow_le_pow_right (by first | decide | simp) s9
      by_cases hl : kk + 1 < 2 ^ o2
      · rw [if_pos (nI_lt hl (by omega)), if_neg (fun q => by have := nIi q (by omega) (by omega); omega)]
        have := h1.cv2 hs (kk := kk) (o := o2) (by rw [rl _ (by first | decide | simp)]; exact s8) s9 (by rw [rl _ (by simp)]; exact s10) hl
        exact this.r0.mk (this.lt.up (by omega) ht)
      · have ek : kk + 1 = 2 ^ o2 := by omega
        rw [if_neg (nI_nlt (by omega) (by omega)), if_pos (by rw [ek])]
        exact h1.finc ht hs (by rw [rl _ (by simp)]; exact hb) (by rw [rl _ (by simp)]; exact s1) (by omega) (by rw [rl _ (by first | decide | simp)]; exact z1) (by rw [rl _ (by first | decide | simp)]; exact z2) (by rw [rl _ (by first | decide | simp)]; exact z3) (by omega) z5 (by omega) z7 (z8.of (fun i => rl _ (by simp)) (fun i => rv _ (by simp)))
    · exact h1.r0.mk (h1.lt.up (by omega) ht)
