/-! ===== timers, the start of a conversion ===== -/
def pcT (L : LM) : Option (Unit × LM) := if L.1 (1, 0, 0) = 0 then bng (g_X3_startConversion L) (fun r1 L2 => g_X3_passCycle_49 L2) else g_X3_passCycle_49 L
theorem S_timers {t u : Nat} (ht : t < 2 ^ 30) : ∀ (m i n n' : Nat) (L V : LM), i + m = 4 → m < n → m < n' → R t u L V → ∃ L' V', g_X3_passCycle_2 n (nI i) L = pcT L' ∧ (∀ β N, N.1 (10, 0, 0) 7 = nI β → β < 5 → f_X12_fireTimers_2 n' (nI i) (putM β 0 N V) = some ((), putM β 0 N V')) ∧ R t u L' V' ∧ Stk L L' := by
  intro m
  induction m with
  | zero =>
    intro i n n' L V hi hn hn' h
    obtain ⟨n, rfl⟩ : ∃ k, n = k + 1 := ⟨n - 1, by omega⟩
    obtain ⟨n', rfl⟩ : ∃ k, n' = k + 1 := ⟨n' - 1, by omega⟩
    have h4 : (4 : Int32) ≤ nI i := by rw [show i = 4 by omega]; decide
    refine ⟨L, V, ?_, fun β N hb hβ => ?_, h, Stk.refl L⟩
    · unfold g_X3_passCycle_2
      rw [if_pos h4]
      rfl
    · unfold f_X12_fireTimers_2
      rw [if_pos h4]
  | succ m ih =>
    intro i n n' L V hi hn hn' h
    obtain ⟨n, rfl⟩ : ∃ k, n = k + 1 := ⟨n - 1, by omega⟩
    obtain ⟨n', rfl⟩ : ∃ k, n' = k + 1 := ⟨n' - 1, by omega⟩
    have hE := h.1
    have h4 : ¬ (4 : Int32) ≤ nI i := nI_ge (b := 4) (by omega) (by first | decide | simp)
    obtain ⟨_, ⟨p, hp, hp2⟩, ⟨f, hf, hf2⟩⟩ := h.2.1.2.2.2.2.2.2.2.2.2.2.1 i (by omega)
    have hcy : L.1 (2, 15, 0) = nI t := h.2.2.1.1
    have v1 : V.1 (7, 1, i) = nI p := by rw [hE.1 _ rfl, hp2]
    have v2 : V.1 (7, 2, i) = nI f := by rw [hE.1 _ rfl, hf2]
    have v3 : V.1 (2, 15, 0) = nI t := by rw [hE.1 _ rfl, hcy]
    -- both sides ask the same
    have mstep : ∀ β N, N.1 (10, 0, 0) 7 = nI β → β < 5 → f_X12_fireTimers_2 (n' + 1) (nI i) (putM β 0 N V) = (if n_due i L then bnd (f_X12_fires (nI i) (putM β 0 N V)) (fun r M => f_X12_fireTimers_2 n' (nI (i + 1)) M) else f_X12_fireTimers_2 n' (nI (i + 1)) (putM β 0 N V)) := by
      intro β N hb hβ
      rw [show f_X12_fireTimers_2 (n' + 1) (nI i) (putM β 0 N V) = _ from Eq.trans (by unfold f_X12_fireTimers_2; exact rfl) rfl]
      rw [if_neg h4, if_neg (of_eq_false (nbv_34 (by omega))), setv_34 (by omega)]
      unfold f_X12_fireTimers_53
      dsimp only [nm]
      rw [its_0 hb hβ, bnd_some, if_neg (of_eq_false (nbv_38 (by omega))), setv_38 (by omega), v1, v2, v3, nI_1]
      unfold n_due
      rw [hp2, hf2, hcy]
      by_cases c1 : nI p ≤ 0
      · rw [if_pos c1, if_neg (fun q => q.1 c1)]
      · rw [if_neg c1]
        by_cases c2 : t < f
        · rw [if_pos (pk_sneg (by omega) c2), if_neg (fun q => q.2.1 (nI_lt c2 (by omega)))]
        · rw [if_neg (c := nI t - nI f < 0) (by rw [pk_sub (by omega)]; exact nI_pos (by omega)), if_neg (c := nI p = 0) (fun q => c1 (by rw [q]; decide))]
          by_cases c3 : nI t - nI f - (nI t - nI f) / nI p * nI p = 0
          · rw [if_pos c3, if_pos ⟨c1, nI_nlt (by omega) (by omega), c3⟩]
          · rw [if_neg c3, if_neg (fun q => c3 q.2.2)]
    have cstep : g_X3_passCycle_2 (n + 1) (nI i) L = (if n_due i L then bng (g_X3_fireTrigger (nI i) L) (fun r L2 => g_X3_passCycle_2 n (nI (i + 1)) L2) else g_X3_passCycle_2 n (nI (i + 1)) L) := by
      rw [show g_X3_passCycle_2 (n + 1) (nI i) L = _ from Eq.trans (by unfold g_X3_passCycle_2; exact rfl) rfl]
      unfold g_X3_passCycle_29
      dsimp only [nm]
      rw [if_neg h4, if_neg (nbad (by omega) (by first | decide | simp)), nI_clamp (by omega), nI_1]
      unfold g_X8_isDue g_X8_isDue_33 n_due
      by_cases h1 : L.1 (7, 1, i) ≤ 0
      · rw [if_pos h1, if_neg (fun q => q.1 h1), bng_some, if_pos rfl]
      · rw [if_neg h1]
        by_cases h2 : L.1 (2, 15, 0) < L.1 (7, 2, i)
        · rw [if_pos h2, if_neg (fun q => q.2.1 h2), bng_some, if_pos rfl]
        · rw [if_neg h2, if_neg (c := L.1 (7, 1, i) = 0) (fun q => h1 (by rw [q]; exact Int32.le_refl 0))]
          by_cases h3 : (L.1 (2, 15, 0) - L.1 (7, 2, i)) - (L.1 (2, 15, 0) - L.1 (7, 2, i)) / L.1 (7, 1, i) * L.1 (7, 1, i) = 0
          · rw [if_pos h3, if_pos ⟨h1, h2, h3⟩, bng_some, if_neg (by first | decide | simp)]
          · rw [if_neg h3, if_neg (fun q => h3 q.2.2), bng_some, if_pos rfl]
    by_cases hd : n_due i L
    · obtain ⟨r, L1, V1, f1, f2, _, f4, f5⟩ := S_fire h (i := i) (by omega)
      obtain ⟨L', V', g1, g2, g3, g4⟩ := ih (i + 1) n n' L1 V1 (by omega) (by omega) (by omega) f4
      refine ⟨L', V', ?_, fun β N hb hβ => ?_, g3, f5.trans g4⟩
      · rw [cstep, if_pos hd, f1, bng_some, g1]
      · rw [mstep β N hb hβ, if_pos hd, f2 β N hb hβ, bnd_some, g2 β N hb hβ]
    · obtain ⟨L', V', g1, g2, g3, g4⟩ := ih (i + 1) n n' L V (by omega) (by omega) (by omega) h
      refine ⟨L', V', ?_, fun β N hb hβ => ?_, g3, g4⟩
      · rw [cstep, if_neg hd, g1]
      · rw [mstep β N hb hβ, if_neg hd, g2 β N hb hβ]
theorem R.seq {t u j : Nat} {L V : LM} (h : R t u L V) (hj : j < 2) : Sq j L V := by
  rcases (show j = 0 ∨ j = 1 by omega) with rfl | rfl
  · exact h.2.2.2.1
  · exact h.2.2.2.2.1
theorem R.stc {t u s e : Nat} {L V : LM} (h : R t u L V) (hs : s < 2) (h0 : L.1 (1, 0, 0) = 0) (hb : L.1 (5, 3, s) = 1) (he : e < 8) : R t u (n_stc s e L) (z_stc s e V) := by
  obtain ⟨hE, hS, ⟨c1, c2, c3, c4⟩, hs0, hs1, hw, hlt, hr0, hr1⟩ := h
  have rl : ∀ a : Cl, a.1 ≠ 1 → (n_stc s e L).1 a = L.1 a := fun a ha => by unfold n_stc; rw [w1 ha, w1 ha, w1 ha]
  have rv : ∀ a : Cl, a.1 ≠ 1 → (z_stc s e V).1 a = V.1 a := fun a ha => by unfold z_stc; rw [w1 ha, w1 ha, w1 ha, w1 ha]
  have k8 : ∀ a : Cl, a.1 = 8 → a.1 ≠ 1 := fun a ha => by rw [ha]; decide
  have z0 : (n_stc s e L).1 (1, 0, 0) = nI (s + 1) := by unfold n_stc; simp only [rdw, rdl, rdw2, rdl1, Prod.mk.injEq, Nat.reduceEqDiff, and_self, and_true, true_and, and_false, false_and, ite_true, ite_false, ↓reduceIte]
  have z1 : (n_stc s e L).1 (1, 1, 0) = nI e := by unfold n_stc; simp only [rdw, rdl, rdw2, rdl1, Prod.mk.injEq, Nat.reduceEqDiff, and_self, and_true, true_and, and_false, false_and, ite_true, ite_false, ↓reduceIte]
  have z2 : (n_stc s e L).1 (1, 2, 0) = L.1 (0, 0, e) + 12 := by unfold n_stc; simp only [rdw, rdl, rdw2, rdl1, Prod.mk.injEq, Nat.reduceEqDiff, and_self, and_true, true_and, and_false, false_and, ite_true, ite_false, ↓reduceIte]
  have z3 : (z_stc s e V).1 (1, 6, 0) = L.1 (0, 0, e) := by unfold z_stc; simp only [rdw, rdl, rdw2, rdl1, Prod.mk.injEq, Nat.reduceEqDiff, and_self, and_true, true_and, and_false, false_and, ite_true, ite_false, ↓reduceIte]; exact hE.1 _ rfl
  refine ⟨?_, hS.of ((Stc.refl L).stc s e), ⟨?_, ?_, fun _ => ⟨⟨e, he, z1⟩, ?_⟩, ?_⟩, ?_, ?_, hw.of (fun a ha => rl a (k8 a ha)) (fun a ha => rv a (k8 a ha)), ?_, ?_, ?_⟩
  · unfold n_stc z_stc
    rw [hE.1 (0, 0, e) rfl]
    exact (((hE.w rfl).w rfl).r rfl).w rfl
  · rw [rl _ (by first | decide | simp)]; exact c1
  · exact Or.inr ⟨s, hs, z0, by rw [rl _ (by simp)]; exact hb⟩
  · rw [z2, z3]; simp
  · rw [rl _ (by first | decide | simp), rl _ (by first | decide | simp), rv _ (by first | decide | simp)]; exact c4
  · exact hs0.of (rl _ (by first | decide | simp)) (rl _ (by first | decide | simp)) (rl _ (by first | decide | simp)) (rl _ (by first | decide | simp)) (rl _ (by first | decide | simp)) (rl _ (by first | decide | simp)) (rv _ (by first | decide | simp))
  · exact hs1.of (rl _ (by first | decide | simp)) (rl _ (by first | decide | simp)) (rl _ (by first | decide | simp)) (rl _ (by first | decide | simp)) (rl _ (by first | decide | simp)) (rl _ (by first | decide | simp)) (rv _ (by first | decide | simp))
  · exact hlt.of (rl _ (by first | decide | simp)) (rl _ (by first | decide | simp)) (rl _ (by first | decide | simp)) (fun i => rv _ (by simp))
  · exact hr0.of (rl _ (by first | decide | simp)) (rl _ (by first | decide | simp)) (rl _ (by first | decide | simp)) (fun i => rl _ (by simp)) (fun i => rv _ (by simp))
  · exact hr1.of (rl _ (by first | decide | simp)) (rl _ (by first | decide | simp)) (rl _ (by first | decide | simp)) (fun i => rl _ (by simp)) (fun i => rv _ (by simp))
/-- the next channel of a busy sequence -/
theorem R.next {t u s : Nat} {L V : LM} (h : R t u L V) (hs : s < 2) (hb : ¬ L.1 (5, 3, s) = 0) : ∃ p e, p < capE s ∧ L.1 (5, 4, s) = nI p ∧ e < 8 ∧ L.1 (20, p, s) = nI e := by
  obtain ⟨p, n, o, k, s1, s2, s3, s4, s5, s6, _⟩ := h.seq hs
  have hb1 : L.1 (5, 3, s) = 1 := s5.elim (fun q => absurd q hb) id
  obtain ⟨q, q1, q2, q3, q4⟩ := s6 hb1
  obtain ⟨e, e1, e2⟩ := h.2.1.2.1 s p hs (by omega)
  exact ⟨p, e, by omega, s1, e1, e2⟩
theorem S_stc {t u : Nat} {L V : LM} (h : R t u L V) (h0 : L.1 (1, 0, 0) = 0) : ∃ L' V', g_X3_startConversion L = some ((), L') ∧ (∀ β N, N.1 (10, 0, 0) 7 = nI β → β < 5 → f_X12_startConversion (putM β 0 N V) = some ((), putM β 0 N V')) ∧ R t u L' V' ∧ Stk L L' := by
  have hE := h.1
  have hb1 : bz (L.1 (5, 3, 1)) := by obtain ⟨p, n, o, k, s1, s2, s3, s4, s5, _⟩ := h.2.2.2.2.1; exact s5
  have hb0 : bz (L.1 (5, 3, 0)) := by obtain ⟨p, n, o, k, s1, s2, s3, s4, s5, _⟩ := h.2.2.2.1; exact s5
  have e3 : ∀ s, V.1 (5, 3, s) = L.1 (5, 3, s) := fun s => hE.1 _ rfl
  have e4 : ∀ s, V.1 (5, 4, s) = L.1 (5, 4, s) := fun s => hE.1 _ rfl
  have e20 : ∀ s p, V.1 (20, p, s) = L.1 (20, p, s) := fun s p => hE.1 _ rfl
  have mf := fun β N hb hβ => M_stc (β := β) (N := N) (V := V) hb hβ (by rw [hE.1 _ rfl]; exact h0) (by rw [e3]; exact hb1) (fun s hs hn => by
    rw [e3] at hn
    obtain ⟨p, e, a1, a2, a3, a4⟩ := h.next hs hn
    exact ⟨p, e, a1, by rw [e4]; exact a2, a3, by rw [e20]; exact a4⟩)
  simp only [e3, e4, e20] at mf
  have go : ∀ s, s < 2 → ¬ L.1 (5, 3, s) = 0 → R t u (n_stc s (L.1 (20, (L.1 (5, 4, s)).toNatClampNeg, s)).toNatClampNeg L) (z_stc s (L.1 (20, (L.1 (5, 4, s)).toNatClampNeg, s)).toNatClampNeg V) := by
    intro s hs hn
    obtain ⟨p, e, a1, a2, a3, a4⟩ := h.next hs hn
    have h8 := capE8 (j := s)
    rw [a2, nI_clamp (show p < 2 ^ 31 by omega), a4, nI_clamp (show e < 2 ^ 31 by omega)]
    refine h.stc hs h0 ?_ a3
    rcases (show s = 0 ∨ s = 1 by omega) with rfl | rfl
    · exact hb0.elim (fun q => absurd q hn) id
    · exact hb1.elim (fun q => absurd q hn) id
  refine ⟨_, _, N_stc (fun s hs hn => h.next hs hn), mf, ?_, by split; (split; exact Stk.refl L; exact ⟨(Stc.refl L).stc _ _, (Kv.refl L).stc _ _⟩); exact ⟨(Stc.refl L).stc _ _, (Kv.refl L).stc _ _⟩⟩
  by_cases h1 : L.1 (5, 3, 1) = 0
  · rw [if_pos h1, if_pos h1]
    by_cases h2 : L.1 (5, 3, 0) = 0
    · rw [if_pos h2, if_pos h2]; exact h
    · rw [if_neg h2, if_neg h2]; exact go 0 (by first | decide | simp) h2
  · rw [if_neg h1, if_neg h1]; exact go 1 (by first | decide | simp) h1
theorem S_stcN {t u : Nat} {L V : LM} (h : R t u L V) (h0 : ¬ L.1 (1, 0, 0) = 0) : ∀ β N, N.1 (10, 0, 0) 7 = nI β → β < 5 → f_X12_startConversion (putM β 0 N V) = some ((), putM β 0 N V) := by
  intro β N hb hβ
  have e : ¬ V.1 (1, 0, 0) = 0 := by rw [h.1.1 _ rfl]; exact h0
  unfold f_X12_startConversion f_X12_startConversion_18
  simp only [seq_1_0, seq_1_1, seq_1_2, seq_1_3, seq_1_4, seq_1_5, seq_1_6, seq_1_7, seq_1_8, itsseq_0 hb hβ (s := 1) (ltb rfl), putsseq_0 hb hβ (s := 1) (ltb rfl), addsseq_0 hb hβ (s := 1) (ltb rfl), itsseq_1 hb hβ (s := 1) (ltb rfl), putsseq_1 hb hβ (s := 1) (ltb rfl), addsseq_1 hb hβ (s := 1) (ltb rfl), itsseq_2 hb hβ (s := 1) (ltb rfl), putsseq_2 hb hβ (s := 1) (ltb rfl), addsseq_2 hb hβ (s := 1) (ltb rfl), itsseq_3 hb hβ (s := 1) (ltb rfl), putsseq_3 hb hβ (s := 1) (ltb rfl), addsseq_3 hb hβ (s := 1) (ltb rfl), itsseq_4 hb hβ (s := 1) (ltb rfl), putsseq_4 hb hβ (s := 1) (ltb rfl), addsseq_4 hb hβ (s := 1) (ltb rfl), itsseq_5 hb hβ (s := 1) (ltb rfl), putsseq_5 hb hβ (s := 1) (ltb rfl), addsseq_5 hb hβ (s := 1) (ltb rfl), itsseq_6 hb hβ (s := 1) (ltb rfl), putsseq_6 hb hβ (s := 1) (ltb rfl), addsseq_6 hb hβ (s := 1) (ltb rfl), itsseq_7 hb hβ (s := 1) (ltb rfl), putsseq_7 hb hβ (s := 1) (ltb rfl), addsseq_7 hb hβ (s := 1) (ltb rfl), itsseq_8 hb hβ (s := 1) (ltb rfl), putsseq_8 hb hβ (s := 1) (ltb rfl), addsseq_8 hb hβ (s := 1) (ltb rfl), its_0 hb hβ, puts_0 hb hβ, adds_0 hb hβ, its_1 hb hβ, puts_1 hb hβ, adds_1 hb hβ, its_2 hb hβ, puts_2 hb hβ, adds_2 hb hβ, its_3 hb hβ, puts_3 hb hβ, adds_3 hb hβ, its_4 hb hβ, puts_4 hb hβ, adds_4 hb hβ, its_5 hb hβ, puts_5 hb hβ, adds_5 hb hβ, its_6 hb hβ, puts_6 hb hβ, adds_6 hb hβ, its_7 hb hβ, puts_7 hb hβ, adds_7 hb hβ, its_8 hb hβ, puts_8 hb hβ, adds_8 hb hβ, its_9 hb hβ, puts_9 hb hβ, adds_9 hb hβ, its_10 hb hβ, puts_10 hb hβ, adds_10 hb hβ, its_11 hb hβ, puts_11 hb hβ, adds_11 hb hβ, its_12 hb hβ, puts_12 hb hβ, adds_12 hb hβ, its_13 hb hβ, puts_13 hb hβ, adds_13 hb hβ, its_155 hb hβ, bnd_some, nm, e, if_false]
  split <;> rfl
