/-! ===== triggers keep the relation ===== -/
theorem R.of {t u : Nat} {L V L' V' : LM} (h : R t u L V) (E : Eqq L' V') (S : Stc L L') (hl : ∀ a : Cl, a.1 ≠ 7 → a.1 ≠ 0 → L'.1 a = L.1 a) (hv : ∀ a : Cl, a.1 ≠ 7 → a.1 ≠ 0 → V'.1 a = V.1 a) : R t u L' V' := by
  obtain ⟨_, hS, ⟨c1, c2, c3, c4⟩, hs0, hs1, hw, hlt, hr0, hr1⟩ := h
  have k8 : ∀ a : Cl, a.1 = 8 → a.1 ≠ 7 ∧ a.1 ≠ 0 := fun a ha => by rw [ha]; decide
  refine ⟨E, hS.of S, ⟨?_, ?_, ?_, ?_⟩, ?_, ?_, hw.of (fun a ha => hl a (k8 a ha).1 (k8 a ha).2) (fun a ha => hv a (k8 a ha).1 (k8 a ha).2), hlt.of (hl _ (by first | decide | simp) (by first | decide | simp)) (hl _ (by first | decide | simp) (by first | decide | simp)) (hl _ (by first | decide | simp) (by first | decide | simp)) (fun i => hv _ (by simp) (by simp)), ?_, ?_⟩
  · rw [hl _ (by first | decide | simp) (by first | decide | simp)]; exact c1
  · unfold Ow
    rw [hl _ (by first | decide | simp) (by first | decide | simp)]
    rcases c2 with c2 | ⟨s, h1, h2, h3⟩
    · exact Or.inl c2
    · exact Or.inr ⟨s, h1, h2, by rw [hl _ (by simp) (by simp)]; exact h3⟩
  · rw [hl _ (by first | decide | simp) (by first | decide | simp), hl _ (by first | decide | simp) (by first | decide | simp), hl _ (by first | decide | simp) (by first | decide | simp), hv _ (by first | decide | simp) (by first | decide | simp)]; exact c3
  · rw [hl _ (by first | decide | simp) (by first | decide | simp), hl _ (by first | decide | simp) (by first | decide | simp), hv _ (by first | decide | simp) (by first | decide | simp)]; exact c4
  · exact hs0.of (hl _ (by first | decide | simp) (by first | decide | simp)) (hl _ (by first | decide | simp) (by first | decide | simp)) (hl _ (by first | decide | simp) (by first | decide | simp)) (hl _ (by first | decide | simp) (by first | decide | simp)) (hl _ (by first | decide | simp) (by first | decide | simp)) (hl _ (by first | decide | simp) (by first | decide | simp)) (hv _ (by first | decide | simp) (by first | decide | simp))
  · exact hs1.of (hl _ (by first | decide | simp) (by first | decide | simp)) (hl _ (by first | decide | simp) (by first | decide | simp)) (hl _ (by first | decide | simp) (by first | decide | simp)) (hl _ (by first | decide | simp) (by first | decide | simp)) (hl _ (by first | decide | simp) (by first | decide | simp)) (hl _ (by first | decide | simp) (by first | decide | simp)) (hv _ (by first | decide | simp) (by first | decide | simp))
  · exact hr0.of (hl _ (by first | decide | simp) (by first | decide | simp)) (hl _ (by first | decide | simp) (by first | decide | simp)) (hl _ (by first | decide | simp) (by first | decide | simp)) (fun i => hl _ (by simp) (by simp)) (fun i => hv _ (by simp) (by simp))
  · exact hr1.of (hl _ (by first | decide | simp) (by first | decide | simp)) (hl _ (by first | decide | simp) (by first | decide | simp)) (hl _ (by first | decide | simp) (by first | decide | simp)) (fun i => hl _ (by simp) (by simp)) (fun i => hv _ (by simp) (by simp))
theorem w7 {V : LM} {f j : Nat} {x : Int32} {a : Cl} (h : a.1 ≠ 7) : (wI V (7, f, j) x).1 a = V.1 a := by
  rw [rdw, if_neg (fun q => h (congrArg Prod.fst q))]
theorem R.fd {t u i : Nat} {L V : LM} (h : R t u L V) : R t u (z_fd i L) (z_fd i V) := h.of (h.1.fd i) ((Stc.refl L).fd i) (fun a h1 _ => w7 h1) (fun a h1 _ => w7 h1)
theorem R.ms {t u i : Nat} {L V : LM} (h : R t u L V) : R t u (z_ms i L) (z_ms i V) := h.of (h.1.ms i) ((Stc.refl L).ms i) (fun a h1 _ => w7 h1) (fun a h1 _ => w7 h1)
theorem w5 {V : LM} {f j : Nat} {x : Int32} {a : Cl} (h : a.1 ≠ 5) : (wI V (5, f, j) x).1 a = V.1 a := by
  rw [rdw, if_neg (fun q => h (congrArg Prod.fst q))]
theorem w1 {V : LM} {f j : Nat} {x : Int32} {a : Cl} (h : a.1 ≠ 1) : (wI V (1, f, j) x).1 a = V.1 a := by
  rw [rdw, if_neg (fun q => h (congrArg Prod.fst q))]
theorem R.forget {t u : Nat} {L V : LM} (h : R t u L V) : R t u (z_forget 0 L) (z_forget 0 V) := by
  have h' := h
  obtain ⟨hE, hS, hc, ⟨p, n, o, k, s1, s2, s3, s4, s5, s6, s7, s8, s9, s10, s11⟩, hs1, hw, hlt, hr0, hr1⟩ := h
  have rl : ∀ a : Cl, a.1 ≠ 5 → (z_forget 0 L).1 a = L.1 a := fun a ha => z_forget_rd (Or.inl ha)
  have rv : ∀ a : Cl, a.1 ≠ 5 → (z_forget 0 V).1 a = V.1 a := fun a ha => z_forget_rd (Or.inl ha)
  have k8 : ∀ a : Cl, a.1 = 8 → a.1 ≠ 5 := fun a ha => by rw [ha]; decide
  have r5 : ∀ f, f < 10 → (z_forget 0 L).1 (5, f, 0) = L.1 (5, f, 0) := fun f hf => z_forget_rd (Or.inr hf)
  refine ⟨hE.forget 0, hS.of ((Stc.refl L).forget 0), ?_, ?_, ?_, hw.of (fun a ha => rl a (k8 a ha)) (fun a ha => rv a (k8 a ha)), ?_, ?_, ?_⟩
  · unfold Cv Ow z_forget
    simp only [rdw, rdl, rdw2, rdl1, Prod.mk.injEq, Nat.reduceEqDiff, and_self, and_true, true_and, and_false, false_and, ite_true, ite_false, ↓reduceIte]
    exact hc
  · refine ⟨p, n, o, 0, ?_, ?_, s3, s4, ?_, ?_, ?_, ?_, s9, ?_, Nat.two_pow_pos o⟩
    · rw [r5 _ (by first | decide | simp)]; exact s1
    · rw [r5 _ (by first | decide | simp)]; exact s2
    · rw [r5 _ (by first | decide | simp)]; exact s5
    · rw [r5 _ (by first | decide | simp), r5 _ (by first | decide | simp), z_forget_rd (L := V) (Or.inr (by first | decide | simp))]; exact s6
    · rw [r5 _ (by first | decide | simp)]; exact s7
    · rw [rl _ (by first | decide | simp)]; exact s8
    · unfold z_forget; simp only [rdw, rdl, rdw2, rdl1, Prod.mk.injEq, Nat.reduceEqDiff, and_self, and_true, true_and, and_false, false_and, ite_true, ite_false, ↓reduceIte]; rfl
  · refine hs1.of ?_ ?_ ?_ ?_ ?_ ?_ ?_ <;> (unfold z_forget; simp only [rdw, rdl, rdw2, rdl1, Prod.mk.injEq, Nat.reduceEqDiff, and_self, and_true, true_and, and_false, false_and, ite_true, ite_false, ↓reduceIte])
  · refine hlt.of ?_ ?_ ?_ (fun i => ?_) <;> (unfold z_forget; simp only [rdw, rdl, rdw2, rdl1, Prod.mk.injEq, Nat.reduceEqDiff, and_self, and_true, true_and, and_false, false_and, ite_true, ite_false, ↓reduceIte])
  · exact hr0.of (rl _ (by first | decide | simp)) (rl _ (by first | decide | simp)) (rl _ (by first | decide | simp)) (fun i => rl _ (by simp)) (fun i => rv _ (by simp))
  · exact hr1.of (rl _ (by first | decide | simp)) (rl _ (by first | decide | simp)) (rl _ (by first | decide | simp)) (fun i => rl _ (by simp)) (fun i => rv _ (by simp))
theorem R.b {t u : Nat} {L V : LM} (h : R t u L V) : R t u (z_b L) (z_b V) := by
  obtain ⟨hE, hS, ⟨c1, c2, c3, c4⟩, hs0, hs1, hw, hlt, hr0, hr1⟩ := h
  have rl : ∀ a : Cl, a.1 ≠ 1 → (z_b L).1 a = L.1 a := fun a ha => by unfold z_b; rw [w1 ha, w1 ha]
  have rv : ∀ a : Cl, a.1 ≠ 1 → (z_b V).1 a = V.1 a := fun a ha => by unfold z_b; rw [w1 ha, w1 ha]
  have k8 : ∀ a : Cl, a.1 = 8 → a.1 ≠ 1 := fun a ha => by rw [ha]; decide
  have z : (z_b L).1 (1, 0, 0) = 0 := by unfold z_b; simp only [rdw, rdl, rdw2, rdl1, Prod.mk.injEq, Nat.reduceEqDiff, and_self, and_true, true_and, and_false, false_and, ite_true, ite_false, ↓reduceIte]
  refine ⟨hE.b, hS.of ((Stc.refl L).b), ⟨?_, Or.inl z, fun q => absurd z q, ?_⟩, ?_, ?_, hw.of (fun a ha => rl a (k8 a ha)) (fun a ha => rv a (k8 a ha)), ?_, ?_, ?_⟩
  · rw [rl _ (by first | decide | simp)]; exact c1
  · rw [rl _ (by first | decide | simp), rl _ (by first | decide | simp), rv _ (by first | decide | simp)]; exact c4
  · exact hs0.of (rl _ (by first | decide | simp)) (rl _ (by first | decide | simp)) (rl _ (by first | decide | simp)) (rl _ (by first | decide | simp)) (rl _ (by first | decide | simp)) (rl _ (by first | decide | simp)) (rv _ (by first | decide | simp))
  · exact hs1.of (rl _ (by first | decide | simp)) (rl _ (by first | decide | simp)) (rl _ (by first | decide | simp)) (rl _ (by first | decide | simp)) (rl _ (by first | decide | simp)) (rl _ (by first | decide | simp)) (rv _ (by first | decide | simp))
  · exact hlt.of (rl _ (by first | decide | simp)) (rl _ (by first | decide | simp)) (rl _ (by first | decide | simp)) (fun i => rv _ (by simp))
  · exact hr0.of (rl _ (by first | decide | simp)) (rl _ (by first | decide | simp)) (rl _ (by first | decide | simp)) (fun i => rl _ (by simp)) (fun i => rv _ (by simp))
  · exact hr1.of (rl _ (by first | decide | simp)) (rl _ (by first | decide | simp)) (rl _ (by first | decide | simp)) (fun i => rl _ (by simp)) (fun i => rv _ (by simp))
theorem R.brk {t u : Nat} {L V : LM} (h : R t u L V) (k : Int32) : R t u (z_brk k L) (z_brk k V) := by
  unfold z_brk
  rw [h.1.1 (1, 0, 0) rfl]
  split
  · split
    · exact h.b.forget
    · exact h.b
  · exact h
theorem R.busy {t u j n : Nat} {x : Int32} {L V : LM} (h : R t u L V) (hj : j < 2) (hn : L.1 (5, 1, j) = nI n) (h0 : 0 < n) (hn8 : n ≤ 8) (hb : L.1 (5, 3, j) = 0) : R t u (n_bp j (z_busy j x L)) (m_bp j (z_busy j x V)) := by
  obtain ⟨hE, hS, hc, hs0, hs1, hw, hlt, hr0, hr1⟩ := h
  have hsj : Sq j L V := by
    rcases (show j = 0 ∨ j = 1 by omega) with rfl | rfl
    · exact hs0
    · exact hs1
  obtain ⟨p, n', o, k, s1, s2, s3, s4, s5, s6, s7, s8, s9, s10, s11⟩ := hsj
  have h8 := capE8 (j := j)
  have en2 : n = n' := by
    rw [s2] at hn
    exact (nIi hn (by omega) (by omega)).symm
  subst en2
  have hp : p < n := by omega
  obtain ⟨q, q1, q2, q3, q5, q4⟩ := pe_left (hE.busy j x) (hS.of ((Stc.refl L).busy j x)) hj (p := p) (n := n) (by unfold z_busy; simp only [rdw, rdl, rdw2, rdl1, Prod.mk.injEq, Nat.reduceEqDiff, and_self, and_true, true_and, and_false, false_and, ite_true, ite_false, ↓reduceIte]; exact s1) (by unfold z_busy; simp only [rdw, rdl, rdw2, rdl1, Prod.mk.injEq, Nat.reduceEqDiff, and_self, and_true, true_and, and_false, false_and, ite_true, ite_false, ↓reduceIte]; exact s2) hp (by omega)
  have rl : ∀ a : Cl, a.1 ≠ 5 → (n_bp j (z_busy j x L)).1 a = L.1 a := fun a ha => by unfold n_bp z_busy; rw [w5 ha, w5 ha, w5 ha, w5 ha]
  have rv : ∀ a : Cl, a.1 ≠ 5 → (m_bp j (z_busy j x V)).1 a = V.1 a := fun a ha => by unfold m_bp z_busy; rw [w5 ha, w5 ha, w5 ha, w5 ha]
  have k8 : ∀ a : Cl, a.1 = 8 → a.1 ≠ 5 := fun a ha => by rw [ha]; decide
  have rl5 : ∀ i f, (f < 3 ∨ f = 4 ∨ 7 < f ∨ i ≠ j) → (n_bp j (z_busy j x L)).1 (5, f, i) = L.1 (5, f, i) := by
    intro i f hf
    unfold n_bp z_busy
    simp only [rdw, Prod.mk.injEq]
    rw [if_neg (by omega), if_neg (by omega), if_neg (by omega), if_neg (by omega)]
  have rv5 : ∀ i f, i ≠ j → (m_bp j (z_busy j x V)).1 (5, f, i) = V.1 (5, f, i) := by
    intro i f hf
    unfold m_bp z_busy
    simp only [rdw, Prod.mk.injEq]
    rw [if_neg (by omega), if_neg (by omega), if_neg (by omega), if_neg (by omega)]
  have b1 : (n_bp j (z_busy j x L)).1 (5, 3, j) = 1 := by unfold n_bp z_busy; simp only [rdw, rdl, rdw2, rdl1, Prod.mk.injEq, Nat.reduceEqDiff, and_self, and_true, true_and, and_false, false_and, ite_true, ite_false, ↓reduceIte]
  have b2 : (n_bp j (z_busy j x L)).1 (5, 5, j) = nI q := by unfold n_bp; rw [rdw, if_pos rfl, q1]
  have b3 : (m_bp j (z_busy j x V)).1 (5, 5, j) = nI (q - p) := by unfold m_bp; rw [rdw, if_pos rfl, q4]
  have sj : Sq j (n_bp j (z_busy j x L)) (m_bp j (z_busy j x V)) := by
    refine ⟨p, n, o, k, ?_, ?_, s3, s4, Or.inr b1, fun _ => ⟨q, b2, q2, q3, q5, b3⟩, fun _ q => ?_, ?_, s9, ?_, s11⟩
    · rw [rl5 _ _ (by omega)]; exact s1
    · rw [rl5 _ _ (by omega)]; exact s2
    · rw [b1] at q; exact absurd q (by first | decide | simp)
    · rw [rl _ (by first | decide | simp)]; exact s8
    · rw [rl5 _ _ (by omega)]; exact s10
  have si : ∀ i, i ≠ j → Sq i L V → Sq i (n_bp j (z_busy j x L)) (m_bp j (z_busy j x V)) := fun i hi hs => hs.of (rl5 _ _ (by omega)) (rl5 _ _ (by omega)) (rl5 _ _ (by omega)) (rl5 _ _ (by omega)) (rl _ (by first | decide | simp)) (rl5 _ _ (by omega)) (rv5 _ _ hi)
  refine ⟨((hE.busy j x).l rfl).r rfl, hS.of (((Stc.refl L).busy j x).bp j), ⟨?_, ?_, ?_, ?_⟩, ?_, ?_, hw.of (fun a ha => rl a (k8 a ha)) (fun a ha => rv a (k8 a ha)), ?_, ?_, ?_⟩
  · rw [rl _ (by first | decide | simp)]; exact hc.1
  · unfold Ow
    rw [rl _ (by first | decide | simp)]
    rcases hc.2.1 with c2 | ⟨s, h1, h2, h3⟩
    · exact Or.inl c2
    · refine Or.inr ⟨s, h1, h2, ?_⟩
      by_cases hsj : s = j
      · rw [hsj]; exact b1
      · rw [rl5 _ _ (by omega)]; exact h3
  · rw [rl _ (by first | decide | simp), rl _ (by first | decide | simp), rl _ (by first | decide | simp), rv _ (by first | decide | simp)]; exact hc.2.2.1
  · rw [rl5 _ _ (by omega), rl5 _ _ (by omega), rv _ (by first | decide | simp)]; exact hc.2.2.2
  · rcases (show j = 0 ∨ j = 1 by omega) with rfl | rfl
    · exact sj
    · exact si 0 (by first | decide | simp) hs0
  · rcases (show j = 0 ∨ j = 1 by omega) with rfl | rfl
    · exact si 1 (by first | decide | simp) hs1
    · exact sj
  · exact hlt.of (rl5 _ _ (by omega)) (rl5 _ _ (by omega)) (rl5 _ _ (by omega)) (fun i => rv _ (by simp))
  · exact hr0.of (rl _ (by first | decide | simp)) (rl _ (by first | decide | simp)) (rl _ (by first | decide | simp)) (fun i => rl _ (by simp)) (fun i => rv _ (by simp))
  · exact hr1.of (rl _ (by first | decide | simp)) (rl _ (by first | decide | simp)) (rl _ (by first | decide | simp)) (fun i => rl _ (by simp)) (fun i => rv _ (by simp))
theorem R.start {t u j n : Nat} {x : Int32} {L V : LM} (h : R t u L V) (hj : j < 2) (hn : L.1 (5, 1, j) = nI n) (h0 : 0 < n) (hn8 : n ≤ 8) (hb : L.1 (5, 3, j) = 0) : R t u (n_start j x L) (m_start j x V) := by
  have h1 := h.busy (x := x) hj hn h0 hn8 hb
  unfold n_start m_start
  rw [h.1.1 (2, 11, 0) rfl]
  split
  · exact h1.brk _
  · exact h1
theorem M_fire {β : Nat} {N : Mem} {V : LM} (hb : N.1 (10, 0, 0) 7 = nI β) (hβ : β < 5) {t : Nat} (ht : t < 4) (hT : V.1 (7, 0, t) = 0 ∨ V.1 (7, 0, t) = 1 ∨ V.1 (7, 0, t) = 2) (hB : ∀ j, j < 2 → bz (V.1 (5, 3, j))) : f_X12_fires (nI t) (putM β 0 N V) = (if V.1 (7, 0, t) = 0 ∨ (V.1 (5, 1, (V.1 (7, 0, t)).toNatClampNeg - 1) = 0 ∨ ¬ V.1 (5, 3, (V.1 (7, 0, t)).toNatClampNeg - 1) = 0) then some (0, putM β 0 N (z_ms t (z_fd t V))) else some (1, putM β 0 N (m_start ((V.1 (7, 0, t)).toNatClampNeg - 1) (nI t) (z_fd t V)))) := by
  have r : ∀ a : Cl, a.1 ≠ 7 ∨ a.2.1 ≠ 3 → (z_fd t V).1 a = V.1 a := fun a ha => by
    unfold z_fd
    rw [rdw, if_neg (fun q => by subst q; rcases ha with h | h <;> exact h rfl)]
  have k47 : f_X12_fires_47 (nI t) (putM β 0 N (z_fd t V)) = some (0, putM β 0 N (z_ms t (z_fd t V))) := by
    unfold f_X12_fires_47
    simp only [trig_0, trig_1, itstrig_0 hb hβ ht, putstrig_0 hb hβ ht, addstrig_0 hb hβ ht, itstrig_1 hb hβ ht, putstrig_1 hb hβ ht, addstrig_1 hb hβ ht, bnd_some, nm]
    rfl
  unfold f_X12_fires
  simp only [trig_0, trig_1, itstrig_0 hb hβ ht, putstrig_0 hb hβ ht, addstrig_0 hb hβ ht, itstrig_1 hb hβ ht, putstrig_1 hb hβ ht, addstrig_1 hb hβ ht, bnd_some, nm, setv_30 ht, nbv_30 ht, if_false]
  have e : wI V (7, 3, t) (V.1 (7, 3, t) + 1) = z_fd t V := rfl
  rw [e, k47, r (7, 0, t) (Or.inr (by simp))]
  have two : ∀ s, s < 2 → V.1 (7, 0, t) = nI (s + 1) → (if nI s < 0 then some ((0 : Int32), putM β 0 N (z_ms t (z_fd t V))) else bnd (f_X12_entries (nI s) (putM β 0 N (z_fd t V))) fun r8 M9 => if r8 = 0 then f_X12_fires_47 (nI t) M9 else bnd (f_X12_seq (nI s) 0 M9) fun r11 M12 => bnd (f_X12_its r11 M12) fun r14 M15 => if r14 = 1 then f_X12_fires_47 (nI t) M15 else bnd (f_X12_startSequence (nI s) (nI t) M15) fun r17 M18 => some (1, M18)) = (if nI (s + 1) = 0 ∨ (V.1 (5, 1, s) = 0 ∨ ¬ V.1 (5, 3, s) = 0) then some (0, putM β 0 N (z_ms t (z_fd t V))) else some (1, putM β 0 N (m_start s (nI t) (z_fd t V)))) := by
    intro s hs hv
    have h0 : ¬ nI (s + 1) = 0 := nI_ne0 (by omega) (by omega)
    rw [if_neg (nI_pos (by omega)), entries_ hs, bnd_some, r (5, 1, s) (Or.inl (by simp)), k47]
    by_cases h1 : V.1 (5, 1, s) = 0
    · rw [if_pos h1, if_pos (Or.inr (Or.inl h1))]
    · rw [if_neg h1, seq_0, bnd_some, itsseq_0 hb hβ hs, bnd_some, r (5, 3, s) (Or.inl (by simp)), k47, M_start hb hβ hs, bnd_some]
      by_cases h2 : V.1 (5, 3, s) = 0
      · rw [if_neg (show ¬ V.1 (5, 3, s) = 1 by rw [h2]; decide), if_neg (by rintro (q | q | q); exact h0 q; exact h1 q; exact q h2)]
      · rw [if_pos ((hB s hs).resolve_left h2), if_pos (Or.inr (Or.inr h2))]
  rcases hT with hT | hT | hT
  · rw [hT, if_pos (by first | decide | simp), if_pos (Or.inl rfl)]
  · have h := two 0 (by first | decide | simp) hT
    rw [hT, show (1 : Int32) - 1 = nI 0 by decide, h, show (nI (0 + 1)) = (1 : Int32) from rfl, show (1 : Int32).toNatClampNeg - 1 = 0 by decide]
  · have h := two 1 (by first | decide | simp) hT
    rw [hT, show (2 : Int32) - 1 = nI 1 by decide, h, show (nI (1 + 1)) = (2 : Int32) from rfl, show (2 : Int32).toNatClampNeg - 1 = 1 by decide]
theorem S_fire {t u i : Nat} {L V : LM} (h : R t u L V) (hi : i < 4) : ∃ r L' V', g_X3_fireTrigger (nI i) L = some (r, L') ∧ (∀ β N, N.1 (10, 0, 0) 7 = nI β → β < 5 → f_X12_fires (nI i) (putM β 0 N V) = some (r, putM β 0 N V')) ∧ bz r ∧ R t u L' V' ∧ Stk L L' := by
  have hE := h.1
  have hS := h.2.1
  obtain ⟨hT, _⟩ := hS.2.2.2.2.2.2.2.2.2.2.1 i hi
  have hb0 : bz (L.1 (5, 3, 0)) := by obtain ⟨p, n, o, k, s1, s2, s3, s4, s5, _⟩ := h.2.2.2.1; exact s5
  have hb1 : bz (L.1 (5, 3, 1)) := by obtain ⟨p, n, o, k, s1, s2, s3, s4, s5, _⟩ := h.2.2.2.2.1; exact s5
  have hB : ∀ j, j < 2 → bz (V.1 (5, 3, j)) := by
    intro j hj
    rw [hE.1 _ rfl]
    rcases (show j = 0 ∨ j = 1 by omega) with rfl | rfl
    · exact hb0
    · exact hb1
  have eT : V.1 (7, 0, i) = L.1 (7, 0, i) := hE.1 _ rfl
  have mf := fun β N hb hβ => M_fire (β := β) (N := N) (V := V) hb hβ hi (by rw [eT]; exact hT) hB
  rw [N_fire hi hT]
  rw [eT] at mf
  by_cases h0 : L.1 (7, 0, i) = 0
  · rw [if_pos (Or.inl h0)]
    refine ⟨_, _, _, rfl, fun β N hb hβ => ?_, Or.inl rfl, (h.fd (i := i)).ms (i := i), ((Stc.refl L).fd i).ms i, ((Kv.refl L).fd i).ms i⟩
    rw [mf β N hb hβ, if_pos (Or.inl h0)]
  · have hj : (L.1 (7, 0, i)).toNatClampNeg - 1 < 2 := by
      rcases hT with q | q | q <;> rw [q] <;> decide
    generalize (L.1 (7, 0, i)).toNatClampNeg - 1 = j at mf hj ⊢
    obtain ⟨n, hn, hn2⟩ := hS.1 j hj
    have h8 := capE8 (j := j)
    have e1 : V.1 (5, 1, j) = nI n := by rw [hE.1 _ rfl, hn2]
    have e3 : V.1 (5, 3, j) = L.1 (5, 3, j) := hE.1 _ rfl
    rw [e1, e3] at mf
    rw [hn2]
    by_cases h1 : n = 0 ∨ ¬ L.1 (5, 3, j) = 0
    · have c1 : nI n ≤ 0 ∨ ¬ L.1 (5, 3, j) = 0 := h1.elim (fun q => Or.inl (by rw [q]; decide)) Or.inr
      have c2 : nI n = 0 ∨ ¬ L.1 (5, 3, j) = 0 := h1.elim (fun q => Or.inl (by rw [q]; rfl)) Or.inr
      rw [if_pos (Or.inr c1)]
      refine ⟨_, _, _, rfl, fun β N hb hβ => ?_, Or.inl rfl, (h.fd (i := i)).ms (i := i), ((Stc.refl L).fd i).ms i, ((Kv.refl L).fd i).ms i⟩
      rw [mf β N hb hβ, if_pos (Or.inr c2)]
    · have hn0 : 0 < n := by omega
      have hb : L.1 (5, 3, j) = 0 := Decidable.not_not.mp (fun q => h1 (Or.inr q))
      rw [if_neg (by rintro (q | q | q); exact h0 q; exact nI_nle hn0 (by omega) q; exact q hb)]
      refine ⟨_, _, _, rfl, fun β N hb' hβ => ?_, Or.inr rfl, (h.fd (i := i)).start hj (n := n) (by unfold z_fd; simp only [rdw, rdl, rdw2, rdl1, Prod.mk.injEq, Nat.reduceEqDiff, and_self, and_true, true_and, and_false, false_and, ite_true, ite_false, ↓reduceIte]; exact hn2) hn0 (by omega) (by unfold z_fd; simp only [rdw, rdl, rdw2, rdl1, Prod.mk.injEq, Nat.reduceEqDiff, and_self, and_true, true_and, and_false, false_and, ite_true, ite_false, ↓reduceIte]; exact hb), ((Stc.refl L).fd i).start j _, ((Kv.refl L).fd i).start j _⟩
      rw [mf β N hb' hβ, if_neg (by rintro (q | q | q); exact h0 q; exact nI_ne0 hn0 (by omega) q; exact q hb)]
