/-! ===== the relation without the injected results' part ===== -/
def R0 (t : Nat) (L V : LM) : Prop := Eqq L V ∧ St L ∧ Cv t L V ∧ Sq 0 L V ∧ Sq 1 L V ∧ Wn L V ∧ Rg 0 L V ∧ Rg 1 L V
theorem R.r0 {t u : Nat} {L V : LM} (h : R t u L V) : R0 t L V := ⟨h.1, h.2.1, h.2.2.1, h.2.2.2.1, h.2.2.2.2.1, h.2.2.2.2.2.1, h.2.2.2.2.2.2.2.1, h.2.2.2.2.2.2.2.2⟩
theorem R.lt {t u : Nat} {L V : LM} (h : R t u L V) : Lt u L V := h.2.2.2.2.2.2.1
theorem R0.mk {t u : Nat} {L V : LM} (h : R0 t L V) (l : Lt u L V) : R t u L V := ⟨h.1, h.2.1, h.2.2.1, h.2.2.2.1, h.2.2.2.2.1, h.2.2.2.2.2.1, l, h.2.2.2.2.2.2.1, h.2.2.2.2.2.2.2⟩
theorem R0.of {t : Nat} {L V L' V' : LM} (h : R0 t L V) (E : Eqq L' V') (S : Stc L L') (hl : ∀ a : Cl, a.1 ≠ 7 → a.1 ≠ 0 → (a.1 = 5 → a.2.1 ≠ 9 ∧ a.2.1 ≠ 11 ∧ a.2.1 ≠ 6 ∧ a.2.1 ≠ 7) → L'.1 a = L.1 a) (hv : ∀ a : Cl, a.1 ≠ 7 → a.1 ≠ 0 → (a.1 = 5 → a.2.1 ≠ 9 ∧ a.2.1 ≠ 11 ∧ a.2.1 ≠ 6 ∧ a.2.1 ≠ 7) → V'.1 a = V.1 a) : R0 t L' V' := by
  obtain ⟨_, hS, ⟨c1, c2, c3, c4⟩, hs0, hs1, hw, hr0, hr1⟩ := h
  have k8 : ∀ a : Cl, a.1 = 8 → a.1 ≠ 7 ∧ a.1 ≠ 0 ∧ a.1 ≠ 5 := fun a ha => by rw [ha]; decide
  have no : ∀ {a : Cl}, a.1 ≠ 5 → (a.1 = 5 → a.2.1 ≠ 9 ∧ a.2.1 ≠ 11 ∧ a.2.1 ≠ 6 ∧ a.2.1 ≠ 7) := fun h q => absurd q h
  refine ⟨E, hS.of S, ⟨?_, ?_, ?_, ?_⟩, ?_, ?_, hw.of (fun a ha => hl a (k8 a ha).1 (k8 a ha).2.1 (no (k8 a ha).2.2)) (fun a ha => hv a (k8 a ha).1 (k8 a ha).2.1 (no (k8 a ha).2.2)), ?_, ?_⟩
  · rw [hl _ (by first | decide | simp) (by first | decide | simp) (no (by first | decide | simp))]; exact c1
  · unfold Ow
    rw [hl _ (by first | decide | simp) (by first | decide | simp) (no (by first | decide | simp))]
    rcases c2 with c2 | ⟨s, h1, h2, h3⟩
    · exact Or.inl c2
    · exact Or.inr ⟨s, h1, h2, by rw [hl _ (by simp) (by simp) (fun _ => by simp)]; exact h3⟩
  · rw [hl _ (by first | decide | simp) (by first | decide | simp) (no (by first | decide | simp)), hl _ (by first | decide | simp) (by first | decide | simp) (no (by first | decide | simp)), hl _ (by first | decide | simp) (by first | decide | simp) (no (by first | decide | simp)), hv _ (by first | decide | simp) (by first | decide | simp) (no (by first | decide | simp))]; exact c3
  · rw [hl _ (by first | decide | simp) (by first | decide | simp) (fun _ => (by first | decide | simp)), hl _ (by first | decide | simp) (by first | decide | simp) (fun _ => (by first | decide | simp)), hv _ (by first | decide | simp) (by first | decide | simp) (no (by first | decide | simp))]; exact c4
  · exact hs0.of (hl _ (by first | decide | simp) (by first | decide | simp) (fun _ => (by first | decide | simp))) (hl _ (by first | decide | simp) (by first | decide | simp) (fun _ => (by first | decide | simp))) (hl _ (by first | decide | simp) (by first | decide | simp) (fun _ => (by first | decide | simp))) (hl _ (by first | decide | simp) (by first | decide | simp) (fun _ => (by first | decide | simp))) (hl _ (by first | decide | simp) (by first | decide | simp) (no (by first | decide | simp))) (hl _ (by first | decide | simp) (by first | decide | simp) (fun _ => (by first | decide | simp))) (hv _ (by first | decide | simp) (by first | decide | simp) (fun _ => (by first | decide | simp)))
  · exact hs1.of (hl _ (by first | decide | simp) (by first | decide | simp) (fun _ => (by first | decide | simp))) (hl _ (by first | decide | simp) (by first | decide | simp) (fun _ => (by first | decide | simp))) (hl _ (by first | decide | simp) (by first | decide | simp) (fun _ => (by first | decide | simp))) (hl _ (by first | decide | simp) (by first | decide | simp) (fun _ => (by first | decide | simp))) (hl _ (by first | decide | simp) (by first | decide | simp) (no (by first | decide | simp))) (hl _ (by first | decide | simp) (by first | decide | simp) (fun _ => (by first | decide | simp))) (hv _ (by first | decide | simp) (by first | decide | simp) (fun _ => (by first | decide | simp)))
  · exact hr0.of (hl _ (by first | decide | simp) (by first | decide | simp) (no (by first | decide | simp))) (hl _ (by first | decide | simp) (by first | decide | simp) (no (by first | decide | simp))) (hl _ (by first | decide | simp) (by first | decide | simp) (no (by first | decide | simp))) (fun i => hl _ (by simp) (by simp) (no (by simp))) (fun i => hv _ (by simp) (by simp) (no (by simp)))
  · exact hr1.of (hl _ (by first | decide | simp) (by first | decide | simp) (no (by first | decide | simp))) (hl _ (by first | decide | simp) (by first | decide | simp) (no (by first | decide | simp))) (hl _ (by first | decide | simp) (by first | decide | simp) (no (by first | decide | simp))) (fun i => hl _ (by simp) (by simp) (no (by simp))) (fun i => hv _ (by simp) (by simp) (no (by simp)))
theorem R0.add {t c : Nat} {x : Int32} {L V : LM} (h : R0 t L V) : R0 t (z_add c x L) (z_add c x V) :=
  h.of (h.1.add c x) ((Stc.refl L).add c x) (fun a _ h0 _ => z_add_rd h0) (fun a _ h0 _ => z_add_rd h0)
theorem Wn.look {w : Nat} {c t y x : Int32} {L V : LM} (h : Wn L V) (E : Eqq L V) : Wn (z_look w c t y x L) (z_look w c t y x V) := by
  have e : z_cnt w x V = z_cnt w x L := by
    unfold z_cnt
    rw [E.1 (8, 1, w) rfl, E.1 (8, 2, w) rfl, E.1 (8, 5, w) rfl]
  intro v hv
  have hh := h v hv
  by_cases hw : v = w
  · subst hw
    unfold z_look
    rw [E.1 (8, 4, v) rfl, E.1 (8, 3, v) rfl, E.1 (8, 6, v) rfl, e]
    split
    · exact hh
    · split
      · simp only [rdw, rdl, rdw2, rdl1, Prod.mk.injEq, Nat.reduceEqDiff, and_self, and_true, true_and, and_false, false_and, ite_true, ite_false, ↓reduceIte]
        exact hh
      · simp only [rdw, rdl, rdw2, rdl1, Prod.mk.injEq, Nat.reduceEqDiff, and_self, and_true, true_and, and_false, false_and, ite_true, ite_false, ↓reduceIte]
        exact Or.inr trivial
  · rw [z_look_rd (Or.inr (Or.inl hw)), z_look_rd (Or.inr (Or.inl hw)), z_look_rd (Or.inr (Or.inl hw)), z_look_rd (Or.inr (Or.inl hw)), z_look_rd (Or.inr (Or.inl hw)), z_look_rd (Or.inr (Or.inl hw)), z_look_rd (Or.inr (Or.inl hw))]
    exact hh
theorem R0.look {t w : Nat} {c g y x : Int32} {L V : LM} (h : R0 t L V) : R0 t (z_look w c g y x L) (z_look w c g y x V) := by
  obtain ⟨hE, hS, ⟨c1, c2, c3, c4⟩, hs0, hs1, hw, hr0, hr1⟩ := h
  have rl : ∀ a : Cl, a.1 ≠ 8 → (z_look w c g y x L).1 a = L.1 a := fun a ha => z_look_rd (Or.inl ha)
  have rv : ∀ a : Cl, a.1 ≠ 8 → (z_look w c g y x V).1 a = V.1 a := fun a ha => z_look_rd (Or.inl ha)
  refine ⟨hE.look w c g y x, hS.of ((Stc.refl L).look w c g y x), ⟨?_, ?_, ?_, ?_⟩, ?_, ?_, hw.look hE, ?_, ?_⟩
  · rw [rl _ (by first | decide | simp)]; exact c1
  · unfold Ow
    rw [rl _ (by first | decide | simp)]
    rcases c2 with c2 | ⟨s, h1, h2, h3⟩
    · exact Or.inl c2
    · exact Or.inr ⟨s, h1, h2, by rw [rl _ (by simp)]; exact h3⟩
  · rw [rl _ (by first | decide | simp), rl _ (by first | decide | simp), rl _ (by first | decide | simp), rv _ (by first | decide | simp)]; exact c3
  · rw [rl _ (by first | decide | simp), rl _ (by first | decide | simp), rv _ (by first | decide | simp)]; exact c4
  · exact hs0.of (rl _ (by first | decide | simp)) (rl _ (by first | decide | simp)) (rl _ (by first | decide | simp)) (rl _ (by first | decide | simp)) (rl _ (by first | decide | simp)) (rl _ (by first | decide | simp)) (rv _ (by first | decide | simp))
  · exact hs1.of (rl _ (by first | decide | simp)) (rl _ (by first | decide | simp)) (rl _ (by first | decide | simp)) (rl _ (by first | decide | simp)) (rl _ (by first | decide | simp)) (rl _ (by first | decide | simp)) (rv _ (by first | decide | simp))
  · exact hr0.of (rl _ (by first | decide | simp)) (rl _ (by first | decide | simp)) (rl _ (by first | decide | simp)) (fun i => rl _ (by simp)) (fun i => rv _ (by simp))
  · exact hr1.of (rl _ (by first | decide | simp)) (rl _ (by first | decide | simp)) (rl _ (by first | decide | simp)) (fun i => rl _ (by simp)) (fun i => rv _ (by simp))
theorem R0.looks {t : Nat} {c g y x : Int32} {L V : LM} (h : R0 t L V) : R0 t (z_looks c g y x L) (z_looks c g y x V) := ((h.look (w := 0)).look (w := 1)).look (w := 2)
/-- a conversion is finished, and its result's conversions forgotten -/
theorem R0.cvf {t s : Nat} {L V : LM} (h : R0 t L V) (hs : s < 2) : R0 t (z_forget s (z_cv2 s L)) (z_forget s (z_cv2 s V)) := by
  have hsq : Sq s L V := by
    rcases (show s = 0 ∨ s = 1 by omega) with rfl | rfl
    · exact h.2.2.2.1
    · exact h.2.2.2.2.1
  obtain ⟨hE, hS, ⟨c1, c2, c3, c4⟩, hs0, hs1, hw, hr0, hr1⟩ := h
  have rl : ∀ a : Cl, a.1 ≠ 1 → (a.1 = 5 → a.2.1 < 10 ∨ a.2.2 ≠ s) → ∀ W : LM, (z_forget s (z_cv2 s W)).1 a = W.1 a := by
    intro a ha hb W
    unfold z_forget z_cv2
    have k5 : ∀ f, 10 ≤ f → a ≠ (5, f, s) := by
      intro f hf q
      subst q
      rcases hb rfl with q | q
      · exact absurd q (by simpa using hf)
      · exact q rfl
    simp only [rdw]
    rw [if_neg (k5 11 (by first | decide | simp)), if_neg (k5 10 (by first | decide | simp)), if_neg (k5 11 (by first | decide | simp)), if_neg (k5 10 (by first | decide | simp)), if_neg (fun q => ha (congrArg Prod.fst q)), if_neg (fun q => ha (congrArg Prod.fst q))]
  have k8 : ∀ a : Cl, a.1 = 8 → a.1 ≠ 1 ∧ (a.1 = 5 → a.2.1 < 10 ∨ a.2.2 ≠ s) := fun a ha => by rw [ha]; exact ⟨by decide, fun q => absurd q (by first | decide | simp)⟩
  have no : ∀ {a : Cl}, a.1 ≠ 5 → (a.1 = 5 → a.2.1 < 10 ∨ a.2.2 ≠ s) := fun h q => absurd q h
  have z0 : (z_forget s (z_cv2 s L)).1 (1, 0, 0) = 0 := by unfold z_forget z_cv2; simp only [rdw, rdl, rdw2, rdl1, Prod.mk.injEq, Nat.reduceEqDiff, and_self, and_true, true_and, and_false, false_and, ite_true, ite_false, ↓reduceIte]
  have z10 : (z_forget s (z_cv2 s L)).1 (5, 10, s) = 0 := by unfold z_forget; simp only [rdw, rdl, rdw2, rdl1, Prod.mk.injEq, Nat.reduceEqDiff, and_self, and_true, true_and, and_false, false_and, ite_true, ite_false, ↓reduceIte]
  have sj : Sq s (z_forget s (z_cv2 s L)) (z_forget s (z_cv2 s V)) := by
    obtain ⟨p, n, o, k, s1, s2, s3, s4, s5, s6, s7, s8, s9, s10, s11⟩ := hsq
    refine ⟨p, n, o, 0, ?_, ?_, s3, s4, ?_, ?_, ?_, ?_, s9, z10, Nat.two_pow_pos o⟩
    · rw [rl _ (by simp) (fun _ => Or.inl (by simp))]; exact s1
    · rw [rl _ (by simp) (fun _ => Or.inl (by simp))]; exact s2
    · rw [rl _ (by simp) (fun _ => Or.inl (by simp))]; exact s5
    · rw [rl _ (by simp) (fun _ => Or.inl (by simp)), rl _ (by simp) (fun _ => Or.inl (by simp)), rl _ (by simp) (fun _ => Or.inl (by simp))]; exact s6
    · rw [rl _ (by simp) (fun _ => Or.inl (by simp))]; exact s7
    · rw [rl _ (by first | decide | simp) (no (by first | decide | simp))]; exact s8
  have si : ∀ i, i ≠ s → Sq i L V → Sq i (z_forget s (z_cv2 s L)) (z_forget s (z_cv2 s V)) := fun i hi hq => hq.of (rl _ (by simp) (fun _ => Or.inr hi) _) (rl _ (by simp) (fun _ => Or.inr hi) _) (rl _ (by simp) (fun _ => Or.inr hi) _) (rl _ (by simp) (fun _ => Or.inr hi) _) (rl _ (by first | decide | simp) (no (by first | decide | simp)) _) (rl _ (by simp) (fun _ => Or.inr hi) _) (rl _ (by simp) (fun _ => Or.inr hi) _)
  refine ⟨(hE.cv2 s).forget s, hS.of (((Stc.refl L).cv2 s).forget s), ⟨?_, Or.inl z0, fun q => absurd z0 q, ?_⟩, ?_, ?_, hw.of (fun a ha => rl a (k8 a ha).1 (k8 a ha).2 _) (fun a ha => rl a (k8 a ha).1 (k8 a ha).2 _), ?_, ?_⟩
  · rw [rl _ (by first | decide | simp) (no (by first | decide | simp))]; exact c1
  · rw [rl (5, 8, 0) (by first | decide | simp) (fun _ => Or.inl (by first | decide | simp)), rl (5, 8, 1) (by first | decide | simp) (fun _ => Or.inl (by first | decide | simp)), rl (2, 17, 0) (by first | decide | simp) (no (by first | decide | simp))]; exact c4
  · rcases (show s = 0 ∨ s = 1 by omega) with rfl | rfl
    · exact sj
    · exact si 0 (by first | decide | simp) hs0
  · rcases (show s = 0 ∨ s = 1 by omega) with rfl | rfl
    · exact si 1 (by first | decide | simp) hs1
    · exact sj
  · exact hr0.of (rl _ (by first | decide | simp) (no (by first | decide | simp)) _) (rl _ (by first | decide | simp) (no (by first | decide | simp)) _) (rl _ (by first | decide | simp) (no (by first | decide | simp)) _) (fun i => rl _ (by simp) (no (by simp)) _) (fun i => rl _ (by simp) (no (by simp)) _)
  · exact hr1.of (rl _ (by first | decide | simp) (no (by first | decide | simp)) _) (rl _ (by first | decide | simp) (no (by first | decide | simp)) _) (rl _ (by first | decide | simp) (no (by first | decide | simp)) _) (fun i => rl _ (by simp) (no (by simp)) _) (fun i => rl _ (by simp) (no (by simp)) _)
/-- one result more -/
theorem R0.mid {t s : Nat} {L V : LM} (h : R0 t L V) (hs : s < 2) : R0 t (n_mid s L) (wI (n_mid s V) (2, 17, 0) (V.1 (2, 17, 0) + 1)) := by
  obtain ⟨hE, hS, ⟨c1, c2, c3, c4⟩, hs0, hs1, hw, hr0, hr1⟩ := h
  have rl : ∀ a : Cl, (a.1 ≠ 5 ∨ a.2.1 ≠ 8) → (n_mid s L).1 a = L.1 a := fun a ha => n_mid_rd ha
  have rv : ∀ a : Cl, (a.1 ≠ 5 ∨ a.2.1 ≠ 8) → (a.1 ≠ 2 ∨ a.2.1 ≠ 17) → (wI (n_mid s V) (2, 17, 0) (V.1 (2, 17, 0) + 1)).1 a = V.1 a := by
    intro a ha hb
    rw [rdw, if_neg (fun q => by subst q; rcases hb with h | h <;> exact h rfl), n_mid_rd ha]
  have k8 : ∀ a : Cl, a.1 = 8 → a.1 ≠ 5 ∧ a.1 ≠ 2 := fun a ha => by rw [ha]; decide
  refine ⟨?_, hS.of ((Stc.refl L).mid s), ⟨?_, ?_, ?_, ?_⟩, ?_, ?_, hw.of (fun a ha => rl a (Or.inl (k8 a ha).1)) (fun a ha => rv a (Or.inl (k8 a ha).1) (Or.inl (k8 a ha).2)), ?_, ?_⟩
  · refine Eqq.r ?_ rfl
    unfold n_mid
    rw [hE.1 (5, 8, s) rfl, hE.1 (2, 15, 0) rfl, hE.1 (5, 7, s) rfl, hE.2]
    exact (hE.w rfl).wl rfl
  · rw [rl _ (Or.inl (by first | decide | simp))]; exact c1
  · unfold Ow
    rw [rl _ (Or.inl (by first | decide | simp))]
    rcases c2 with c2 | ⟨s, h1, h2, h3⟩
    · exact Or.inl c2
    · exact Or.inr ⟨s, h1, h2, by rw [rl _ (Or.inr (by simp))]; exact h3⟩
  · rw [rl _ (Or.inl (by first | decide | simp)), rl _ (Or.inl (by first | decide | simp)), rl _ (Or.inl (by first | decide | simp)), rv _ (Or.inl (by first | decide | simp)) (Or.inl (by first | decide | simp))]; exact c3
  · have e : (wI (n_mid s V) (2, 17, 0) (V.1 (2, 17, 0) + 1)).1 (2, 17, 0) = V.1 (2, 17, 0) + 1 := by rw [rdw, if_pos rfl]
    rw [e, c4]
    unfold n_mid
    rcases (show s = 0 ∨ s = 1 by omega) with rfl | rfl
    · simp only [rdw, rdl, rdw2, rdl1, Prod.mk.injEq, Nat.reduceEqDiff, and_self, and_true, true_and, and_false, false_and, ite_true, ite_false, ↓reduceIte]
      rw [Int32.add_assoc, Int32.add_assoc, Int32.add_comm 1]
    · simp only [rdw, rdl, rdw2, rdl1, Prod.mk.injEq, Nat.reduceEqDiff, and_self, and_true, true_and, and_false, false_and, ite_true, ite_false, ↓reduceIte]
      rw [Int32.add_assoc]
  · exact hs0.of (rl _ (Or.inr (by first | decide | simp))) (rl _ (Or.inr (by first | decide | simp))) (rl _ (Or.inr (by first | decide | simp))) (rl _ (Or.inr (by first | decide | simp))) (rl _ (Or.inl (by first | decide | simp))) (rl _ (Or.inr (by first | decide | simp))) (rv _ (Or.inr (by first | decide | simp)) (Or.inl (by first | decide | simp)))
  · exact hs1.of (rl _ (Or.inr (by first | decide | simp))) (rl _ (Or.inr (by first | decide | simp))) (rl _ (Or.inr (by first | decide | simp))) (rl _ (Or.inr (by first | decide | simp))) (rl _ (Or.inl (by first | decide | simp))) (rl _ (Or.inr (by first | decide | simp))) (rv _ (Or.inr (by first | decide | simp)) (Or.inl (by first | decide | simp)))
  · exact hr0.of (rl _ (Or.inl (by first | decide | simp))) (rl _ (Or.inl (by first | decide | simp))) (rl _ (Or.inl (by first | decide | simp))) (fun i => rl _ (Or.inl (by simp))) (fun i => rv _ (Or.inl (by simp)) (Or.inl (by simp)))
  · exact hr1.of (rl _ (Or.inl (by first | decide | simp))) (rl _ (Or.inl (by first | decide | simp))) (rl _ (Or.inl (by first | decide | simp))) (fun i => rl _ (Or.inl (by simp))) (fun i => rv _ (Or.inl (by simp)) (Or.inl (by simp)))
