/-! ===== a conversion's cycle keeps the relation ===== -/
theorem R.k1 {t u : Nat} {L V L' V' : LM} (h : R t u L V) (E : Eqq L' V') (S : Stc L L') (l : ∀ a : Cl, a.1 ≠ 1 → L'.1 a = L.1 a) (v : ∀ a : Cl, a.1 ≠ 1 → V'.1 a = V.1 a) (o : Ow L') (k : ¬ L'.1 (1, 0, 0) = 0 → (∃ e, e < 8 ∧ L'.1 (1, 1, 0) = nI e) ∧ V'.1 (1, 6, 0) = L'.1 (1, 2, 0) - 12) : R t u L' V' := by
  obtain ⟨_, hS, ⟨c1, c2, c3, c4⟩, hs0, hs1, hw, hlt, hr0, hr1⟩ := h
  have k8 : ∀ a : Cl, a.1 = 8 → a.1 ≠ 1 := fun a ha => by rw [ha]; decide
  refine ⟨E, hS.of S, ⟨?_, o, k, ?_⟩, ?_, ?_, hw.of (fun a ha => l a (k8 a ha)) (fun a ha => v a (k8 a ha)), ?_, ?_, ?_⟩
  · rw [l _ (by first | decide | simp)]; exact c1
  · rw [l _ (by first | decide | simp), l _ (by first | decide | simp), v _ (by first | decide | simp)]; exact c4
  · exact hs0.of (l _ (by first | decide | simp)) (l _ (by first | decide | simp)) (l _ (by first | decide | simp)) (l _ (by first | decide | simp)) (l _ (by first | decide | simp)) (l _ (by first | decide | simp)) (v _ (by first | decide | simp))
  · exact hs1.of (l _ (by first | decide | simp)) (l _ (by first | decide | simp)) (l _ (by first | decide | simp)) (l _ (by first | decide | simp)) (l _ (by first | decide | simp)) (l _ (by first | decide | simp)) (v _ (by first | decide | simp))
  · exact hlt.of (l _ (by first | decide | simp)) (l _ (by first | decide | simp)) (l _ (by first | decide | simp)) (fun i => v _ (by simp))
  · exact hr0.of (l _ (by first | decide | simp)) (l _ (by first | decide | simp)) (l _ (by first | decide | simp)) (fun i => l _ (by simp)) (fun i => v _ (by simp))
  · exact hr1.of (l _ (by first | decide | simp)) (l _ (by first | decide | simp)) (l _ (by first | decide | simp)) (fun i => l _ (by simp)) (fun i => v _ (by simp))
theorem t12 {x : Int32} : (x - 12 + -1 = 0) ↔ (x - 1 = 12) := by
  constructor
  · intro h
    rw [← sub1] at h
    have e : x = 0 + 1 + 12 := by rw [← h, Int32.sub_add_cancel, Int32.sub_add_cancel]
    rw [e]; decide
  · intro h
    have e : x = 12 + 1 := by rw [← h, Int32.sub_add_cancel]
    rw [e]; decide
theorem t13 {x : Int32} : x - 12 + -1 = x - 1 - 12 := by
  simp only [Int32.sub_eq_add_neg, Int32.add_assoc]
  rfl
theorem cv1_l2 {c : Nat} {L : LM} : (n_cv1 c L).1 (1, 2, 0) = L.1 (1, 2, 0) - 1 := by
  unfold n_cv1
  split
  · rw [rdw, if_neg (by first | decide | simp), rdw, if_pos rfl]
  · rw [rdw, if_pos rfl]
theorem cv1_l {c : Nat} {L : LM} {a : Cl} (h : a.1 ≠ 1 ∨ a.2.1 < 2) : (n_cv1 c L).1 a = L.1 a := by
  have key : ∀ f, 2 ≤ f → a ≠ (1, f, 0) := by
    intro f hf q
    subst q
    rcases h with h | h
    · exact h rfl
    · exact absurd h (by simpa using hf)
  unfold n_cv1
  split
  · rw [rdw, if_neg (key 3 (by first | decide | simp)), rdw, if_neg (key 2 (by first | decide | simp))]
  · rw [rdw, if_neg (key 2 (by first | decide | simp))]
/-- the reference's state behind the two countdowns -/
def nx (W : LM) : LM := wI W (1, 2, 0) (W.1 (1, 2, 0) + -1)
def m_cv1b (c : Nat) (V : LM) : LM := nx (m_cv1 c V)
def m_A (c : Nat) (V : LM) : LM := wI (wI V (1, 6, 0) (V.1 (1, 6, 0) + -1)) (1, 3, 0) (sigV (V.1 (0, 2, c)) (V.1 (0, 3, c)) (V.1 (0, 4, c)) (V.1 (2, 15, 0)))
def m_B (V : LM) : LM := wI V (1, 6, 0) (V.1 (1, 6, 0) + -1)
theorem cv1b_t {c : Nat} {V : LM} (h : V.1 (1, 6, 0) + -1 = 0) : m_cv1b c V = nx (m_A c V) := congrArg nx (if_pos h)
theorem cv1b_f {c : Nat} {V : LM} (h : ¬ V.1 (1, 6, 0) + -1 = 0) : m_cv1b c V = nx (m_B V) := congrArg nx (if_neg h)
theorem nx_rd {W : LM} {a : Cl} (h : a ≠ (1, 2, 0)) : (nx W).1 a = W.1 a := by
  unfold nx
  rw [rdw, if_neg h]
theorem m_A_rd {c : Nat} {V : LM} {a : Cl} (h : a ≠ (1, 6, 0)) (h3 : a ≠ (1, 3, 0)) : (m_A c V).1 a = V.1 a := by
  unfold m_A
  rw [rdw, if_neg h3, rdw, if_neg h]
theorem m_B_rd {V : LM} {a : Cl} (h : a ≠ (1, 6, 0)) : (m_B V).1 a = V.1 a := by
  unfold m_B
  rw [rdw, if_neg h]
theorem m_A_6 {c : Nat} {V : LM} : (m_A c V).1 (1, 6, 0) = V.1 (1, 6, 0) + -1 := by
  unfold m_A
  rw [rdw, if_neg (by first | decide | simp), rdw, if_pos rfl]
theorem m_B_6 {V : LM} : (m_B V).1 (1, 6, 0) = V.1 (1, 6, 0) + -1 := by
  unfold m_B
  rw [rdw, if_pos rfl]
theorem cv1_v6 {c : Nat} {V : LM} : (m_cv1b c V).1 (1, 6, 0) = V.1 (1, 6, 0) + -1 := by
  by_cases h : V.1 (1, 6, 0) + -1 = 0
  · rw [cv1b_t h, nx_rd (by first | decide | simp), m_A_6]
  · rw [cv1b_f h, nx_rd (by first | decide | simp), m_B_6]
theorem cv1_v {c : Nat} {V : LM} {a : Cl} (h : a.1 ≠ 1 ∨ a.2.1 < 2) : (m_cv1b c V).1 a = V.1 a := by
  have key : ∀ f, 2 ≤ f → a ≠ (1, f, 0) := by
    intro f hf q
    subst q
    rcases h with h | h
    · exact h rfl
    · exact absurd h (by simpa using hf)
  by_cases h : V.1 (1, 6, 0) + -1 = 0
  · rw [cv1b_t h, nx_rd (key 2 (by first | decide | simp)), m_A_rd (key 6 (by first | decide | simp)) (key 3 (by first | decide | simp))]
  · rw [cv1b_f h, nx_rd (key 2 (by first | decide | simp)), m_B_rd (key 6 (by first | decide | simp))]
theorem cv1_E {c : Nat} {L V : LM} (hE : Eqq L V) (k2 : V.1 (1, 6, 0) = L.1 (1, 2, 0) - 12) : Eqq (n_cv1 c L) (m_cv1b c V) := by
  have es : sigV (V.1 (0, 2, c)) (V.1 (0, 3, c)) (V.1 (0, 4, c)) (V.1 (2, 15, 0)) = sigV (L.1 (0, 2, c)) (L.1 (0, 3, c)) (L.1 (0, 4, c)) (L.1 (2, 15, 0)) := by
    rw [hE.1 (0, 2, c) rfl, hE.1 (0, 3, c) rfl, hE.1 (0, 4, c) rfl, hE.1 (2, 15, 0) rfl]
  have e2 : V.1 (1, 2, 0) + -1 = L.1 (1, 2, 0) - 1 := by rw [hE.1 (1, 2, 0) rfl, sub1]
  by_cases hc : L.1 (1, 2, 0) - 1 = 12
  · rw [cv1b_t (show V.1 (1, 6, 0) + -1 = 0 by rw [k2]; exact t12.mpr hc), show n_cv1 c L = _ from if_pos hc]
    have e3 : (m_A c V).1 (1, 2, 0) + -1 = L.1 (1, 2, 0) - 1 := by
      rw [m_A_rd (by first | decide | simp) (by first | decide | simp)]; exact e2
    unfold nx
    rw [e3]
    unfold m_A
    rw [es, wI_comm (V := wI V (1, 6, 0) (V.1 (1, 6, 0) + -1)) (by first | decide | simp)]
    generalize L.1 (1, 2, 0) - 1 = x
    generalize V.1 (1, 6, 0) + -1 = y
    exact ((hE.r rfl).w rfl).w rfl
  · rw [cv1b_f (show ¬ V.1 (1, 6, 0) + -1 = 0 by rw [k2]; exact fun q => hc (t12.mp q)), show n_cv1 c L = _ from if_neg hc]
    have e3 : (m_B V).1 (1, 2, 0) + -1 = L.1 (1, 2, 0) - 1 := by
      rw [m_B_rd (by first | decide | simp)]; exact e2
    unfold nx
    rw [e3]
    unfold m_B
    generalize L.1 (1, 2, 0) - 1 = x
    generalize V.1 (1, 6, 0) + -1 = y
    exact (hE.r rfl).w rfl
theorem cv1_S {c : Nat} {L : LM} : Stc L (n_cv1 c L) := by
  unfold n_cv1
  split
  · exact ((Stc.refl L).w rfl).w rfl
  · exact (Stc.refl L).w rfl
theorem R.cv1 {t u c : Nat} {L V : LM} (h : R t u L V) (ho : ¬ L.1 (1, 0, 0) = 0) : R t u (n_cv1 c L) (m_cv1b c V) := by
  obtain ⟨k1, k2⟩ := h.2.2.1.2.2.1 ho
  refine h.k1 (cv1_E h.1 k2) cv1_S (fun a ha => cv1_l (Or.inl ha)) (fun a ha => cv1_v (Or.inl ha)) ?_ (fun _ => ⟨?_, ?_⟩)
  · rcases h.2.2.1.2.1 with q | ⟨s, q1, q2, q3⟩
    · exact absurd q ho
    · exact Or.inr ⟨s, q1, (cv1_l (Or.inr (by first | decide | simp))).trans q2, (cv1_l (Or.inl (by simp))).trans q3⟩
  · rw [cv1_l (Or.inr (by first | decide | simp))]; exact k1
  · rw [cv1_v6, cv1_l2, k2]; exact t13
