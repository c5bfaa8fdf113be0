/-! ===== passes end on both sides ===== -/
def R00 (t : Nat) (L V : LM) : Prop := Eqq L V ∧ St L ∧ Cv t L V ∧ Wn L V ∧ Rg 0 L V ∧ Rg 1 L V
theorem R0.r00 {t : Nat} {L V : LM} (h : R0 t L V) : R00 t L V := ⟨h.1, h.2.1, h.2.2.1, h.2.2.2.2.2.1, h.2.2.2.2.2.2.1, h.2.2.2.2.2.2.2⟩
theorem R00.mk0 {t : Nat} {L V : LM} (h : R00 t L V) (a : Sq 0 L V) (b : Sq 1 L V) : R0 t L V := ⟨h.1, h.2.1, h.2.2.1, a, b, h.2.2.2.1, h.2.2.2.2.1, h.2.2.2.2.2⟩
theorem R00.k5 {t : Nat} {L V L' V' : LM} (h : R00 t L V) (E : Eqq L' V') (S : Stc L L') (l : ∀ a : Cl, a.1 ≠ 5 → L'.1 a = L.1 a) (v : ∀ a : Cl, a.1 ≠ 5 → V'.1 a = V.1 a) (h8 : ∀ j, L'.1 (5, 8, j) = L.1 (5, 8, j)) (o : Ow L') : R00 t L' V' := by
  obtain ⟨_, hS, ⟨c1, c2, c3, c4⟩, hw, hr0, hr1⟩ := h
  have k8 : ∀ a : Cl, a.1 = 8 → a.1 ≠ 5 := fun a ha => by rw [ha]; decide
  refine ⟨E, hS.of S, ⟨?_, o, ?_, ?_⟩, hw.of (fun a ha => l a (k8 a ha)) (fun a ha => v a (k8 a ha)), ?_, ?_⟩
  · rw [l _ (by first | decide | simp)]; exact c1
  · rw [l _ (by first | decide | simp), l _ (by first | decide | simp), l _ (by first | decide | simp), v _ (by first | decide | simp)]; exact c3
  · rw [h8, h8, v _ (by first | decide | simp)]; exact c4
  · exact hr0.of (l _ (by first | decide | simp)) (l _ (by first | decide | simp)) (l _ (by first | decide | simp)) (fun i => l _ (by simp)) (fun i => v _ (by simp))
  · exact hr1.of (l _ (by first | decide | simp)) (l _ (by first | decide | simp)) (l _ (by first | decide | simp)) (fun i => l _ (by simp)) (fun i => v _ (by simp))
theorem Ow0 {L : LM} (h : L.1 (1, 0, 0) = 0) : Ow L := Or.inl h
theorem R00.bp {t j p n : Nat} {L V : LM} (h : R00 t L V) (ho : L.1 (1, 0, 0) = 0) (hj : j < 2) (hp : L.1 (5, 4, j) = nI p) (hn : L.1 (5, 1, j) = nI n) (hpn : p < n) (h8 : n ≤ capE j) (hb : L.1 (5, 3, j) = 1) (hk : ∃ k o, L.1 (2, 12, 0) = nI o ∧ o ≤ 4 ∧ L.1 (5, 10, j) = nI k ∧ k < 2 ^ o) : R00 t (n_bp j L) (m_bp j V) ∧ Sq j (n_bp j L) (m_bp j V) := by
  have hc := capE8 (j := j)
  obtain ⟨k, o, k1, k2, k3, k4⟩ := hk
  obtain ⟨q, q1, q2, q3, q5, q4⟩ := pe_left h.1 h.2.1 hj hp hn hpn (by omega)
  have l : ∀ a : Cl, a.1 ≠ 5 ∨ a.2.1 ≠ 5 → (n_bp j L).1 a = L.1 a := fun a ha => by
    unfold n_bp
    rw [rdw, if_neg (fun q => by subst q; rcases ha with h | h <;> exact h rfl)]
  have v : ∀ a : Cl, a.1 ≠ 5 → (m_bp j V).1 a = V.1 a := fun a ha => by unfold m_bp; rw [w5 ha]
  refine ⟨h.k5 ((h.1.l rfl).r rfl) ((Stc.refl L).bp j) (fun a ha => l a (Or.inl ha)) v (fun i => l _ (Or.inr (by simp))) (Ow0 (by rw [l _ (Or.inl (by first | decide | simp))]; exact ho)), p, n, o, k, ?_, ?_, h8, Or.inl hpn, Or.inr ?_, fun _ => ⟨q, by unfold n_bp; rw [rdw, if_pos rfl, q1], q2, q3, q5, by unfold m_bp; rw [rdw, if_pos rfl, q4]⟩, fun _ q => ?_, ?_, k2, ?_, k4⟩
  · rw [l _ (Or.inr (by simp))]; exact hp
  · rw [l _ (Or.inr (by simp))]; exact hn
  · rw [l _ (Or.inr (by simp))]; exact hb
  · rw [l _ (Or.inr (by simp)), hb] at q; exact absurd q (by first | decide | simp)
  · rw [l _ (Or.inl (by simp))]; exact k1
  · rw [l _ (Or.inr (by simp))]; exact k3
theorem z_idle_rd {j : Nat} {L : LM} {a : Cl} (h : a.1 = 5 → a.2.2 = j → a.2.1 ≠ 3 ∧ a.2.1 ≠ 6 ∧ a.2.1 ≠ 7) : (z_idle j L).1 a = L.1 a := by
  unfold z_idle
  rw [rdw, if_neg (fun q => by subst q; exact (h rfl rfl).2.2 rfl), rdw, if_neg (fun q => by subst q; exact (h rfl rfl).2.1 rfl), rdw, if_neg (fun q => by subst q; exact (h rfl rfl).1 rfl)]
theorem R00.idle {t j p n : Nat} {L V : LM} (h : R00 t L V) (ho : L.1 (1, 0, 0) = 0) (hp : L.1 (5, 4, j) = nI p) (hn : L.1 (5, 1, j) = nI n) (hpn : p < n ∨ p = 0) (h1 : j = 1 → p = 0) (h8 : n ≤ capE j) (hk : ∃ k o, L.1 (2, 12, 0) = nI o ∧ o ≤ 4 ∧ L.1 (5, 10, j) = nI k ∧ k < 2 ^ o) : R00 t (z_idle j L) (z_idle j V) ∧ Sq j (z_idle j L) (z_idle j V) := by
  obtain ⟨k, o, k1, k2, k3, k4⟩ := hk
  have l : ∀ a : Cl, a.1 ≠ 5 → (z_idle j L).1 a = L.1 a := fun a ha => z_idle_rd (fun q => absurd q ha)
  have v : ∀ a : Cl, a.1 ≠ 5 → (z_idle j V).1 a = V.1 a := fun a ha => z_idle_rd (fun q => absurd q ha)
  have b : (z_idle j L).1 (5, 3, j) = 0 := by unfold z_idle; simp only [rdw, rdl, rdw2, rdl1, Prod.mk.injEq, Nat.reduceEqDiff, and_self, and_true, true_and, and_false, false_and, ite_true, ite_false, ↓reduceIte]
  refine ⟨h.k5 (h.1.idle j) ((Stc.refl L).idle j) l v (fun i => z_idle_rd (fun _ _ => by simp)) (Ow0 (by rw [l _ (by first | decide | simp)]; exact ho)), p, n, o, k, ?_, ?_, h8, hpn, Or.inl b, fun q => ?_, fun q _ => h1 q, ?_, k2, ?_, k4⟩
  · rw [z_idle_rd (fun _ _ => by simp)]; exact hp
  · rw [z_idle_rd (fun _ _ => by simp)]; exact hn
  · rw [b] at q; exact absurd q (by first | decide | simp)
  · rw [l _ (by simp)]; exact k1
  · rw [z_idle_rd (fun _ _ => by simp)]; exact k3
theorem R00.busy {t j : Nat} {x : Int32} {L V : LM} (h : R00 t L V) (ho : L.1 (1, 0, 0) = 0) : R00 t (z_busy j x L) (z_busy j x V) := by
  have l : ∀ W : LM, ∀ a : Cl, a.1 ≠ 5 → (z_busy j x W).1 a = W.1 a := fun W a ha => by unfold z_busy; rw [w5 ha, w5 ha, w5 ha]
  exact h.k5 (h.1.busy j x) ((Stc.refl L).busy j x) (l L) (l V) (fun i => by unfold z_busy; simp only [rdw, rdl, rdw2, rdl1, Prod.mk.injEq, Nat.reduceEqDiff, and_self, and_true, true_and, and_false, false_and, ite_true, ite_false, ↓reduceIte]) (Ow0 (by rw [l _ _ (by first | decide | simp)]; exact ho))
theorem z_busy_rd {j : Nat} {x : Int32} {L : LM} {a : Cl} (h : a.1 = 5 → a.2.2 = j → a.2.1 ≠ 3 ∧ a.2.1 ≠ 6 ∧ a.2.1 ≠ 7) : (z_busy j x L).1 a = L.1 a := by
  unfold z_busy
  rw [rdw, if_neg (fun q => by subst q; exact (h rfl rfl).2.2 rfl), rdw, if_neg (fun q => by subst q; exact (h rfl rfl).2.1 rfl), rdw, if_neg (fun q => by subst q; exact (h rfl rfl).1 rfl)]
/-- the injected sequence is started while no conversion is in progress -/
theorem R00.start1 {t p n : Nat} {x : Int32} {L V : LM} (h : R00 t L V) (ho : L.1 (1, 0, 0) = 0) (hp : L.1 (5, 4, 1) = nI p) (hn : L.1 (5, 1, 1) = nI n) (hpn : p < n) (h8 : n ≤ 4) (hk : ∃ k o, L.1 (2, 12, 0) = nI o ∧ o ≤ 4 ∧ L.1 (5, 10, 1) = nI k ∧ k < 2 ^ o) : R00 t (n_start 1 x L) (m_start 1 x V) ∧ Sq 1 (n_start 1 x L) (m_start 1 x V) ∧ (∀ f, (n_start 1 x L).1 (5, f, 0) = L.1 (5, f, 0)) ∧ (n_start 1 x L).1 (5, 4, 1) = L.1 (5, 4, 1) ∧ (n_start 1 x L).1 (1, 0, 0) = 0 ∧ (∀ i, (m_start 1 x V).1 (22, i, 0) = V.1 (22, i, 0)) ∧ (∀ f, (m_start 1 x V).1 (5, f, 0) = V.1 (5, f, 0)) := by
  have e1 : n_start 1 x L = n_bp 1 (z_busy 1 x L) := by
    unfold n_start z_brk
    rw [if_pos rfl, if_neg]
    unfold n_bp z_busy
    simp only [rdw, rdl, rdw2, rdl1, Prod.mk.injEq, Nat.reduceEqDiff, and_self, and_true, true_and, and_false, false_and, ite_true, ite_false, ↓reduceIte]
    rw [ho]; decide
  have ov : V.1 (1, 0, 0) = 0 := by rw [h.1.1 _ rfl]; exact ho
  have e2 : m_start 1 x V = m_bp 1 (z_busy 1 x V) := by
    unfold m_start z_brk
    rw [if_pos rfl, if_neg]
    unfold m_bp z_busy
    simp only [rdw, rdl, rdw2, rdl1, Prod.mk.injEq, Nat.reduceEqDiff, and_self, and_true, true_and, and_false, false_and, ite_true, ite_false, ↓reduceIte]
    rw [ov]; decide
  rw [e1, e2]
  obtain ⟨a, b⟩ := (h.busy (j := 1) (x := x) ho).bp (j := 1) (by rw [z_busy_rd (fun q => absurd q (by first | decide | simp))]; exact ho) (by first | decide | simp) (p := p) (n := n) (by rw [z_busy_rd (fun _ _ => (by first | decide | simp))]; exact hp) (by rw [z_busy_rd (fun _ _ => (by first | decide | simp))]; exact hn) hpn (show n ≤ capE 1 from h8) (by unfold z_busy; simp only [rdw, rdl, rdw2, rdl1, Prod.mk.injEq, Nat.reduceEqDiff, and_self, and_true, true_and, and_false, false_and, ite_true, ite_false, ↓reduceIte]) (by rw [z_busy_rd (fun q => absurd q (by first | decide | simp)), z_busy_rd (fun _ _ => (by first | decide | simp))]; exact hk)
  refine ⟨a, b, fun f => ?_, ?_, ?_, fun i => ?_, fun f => ?_⟩
  · unfold n_bp; rw [rdw, if_neg (by simp), z_busy_rd (fun _ q => absurd q (by simp))]
  · unfold n_bp; rw [rdw, if_neg (by simp), z_busy_rd (fun _ _ => (by first | decide | simp))]
  · unfold n_bp; rw [rdw, if_neg (by simp), z_busy_rd (fun q => absurd q (by first | decide | simp))]; exact ho
  · unfold m_bp; rw [rdw, if_neg (by simp), z_busy_rd (fun q => absurd q (by simp))]
  · unfold m_bp; rw [rdw, if_neg (by simp), z_busy_rd (fun _ q => absurd q (by simp))]
/-- what the end of a regular pass leaves -/
def Res (t : Nat) (L V L' V' : LM) : Prop := R0 t L' V' ∧ L'.1 (5, 8, 1) = L.1 (5, 8, 1) ∧ L'.1 (5, 4, 1) = L.1 (5, 4, 1) ∧ (∀ i, V'.1 (22, i, 0) = V.1 (22, i, 0))
theorem end3 {t p n : Nat} {L V : LM} (h : R00 t L V) (s1 : Sq 1 L V) (ho : L.1 (1, 0, 0) = 0) (hp : L.1 (5, 4, 0) = nI p) (hn : L.1 (5, 1, 0) = nI n) (hpn : p < n) (h8 : n ≤ 8) (hb : L.1 (5, 3, 0) = 1) (hk : ∃ k o, L.1 (2, 12, 0) = nI o ∧ o ≤ 4 ∧ L.1 (5, 10, 0) = nI k ∧ k < 2 ^ o) : Res t L V (n_end3 L) (m_end3 V) := by
  have hz : bz (L.1 (2, 9, 0)) := h.2.1.2.2.2.2.2.1
  have ev : V.1 (2, 9, 0) = L.1 (2, 9, 0) := h.1.1 _ rfl
  unfold n_end3 m_end3
  rw [ev]
  rcases hz with q | q
  · rw [if_pos q, if_neg (by rw [q]; decide)]
    obtain ⟨a, b⟩ := h.idle (j := 0) ho hp hn (Or.inl hpn) (fun q => absurd q (by first | decide | simp)) h8 hk
    have r : ∀ f, (z_idle 0 L).1 (5, f, 1) = L.1 (5, f, 1) := fun f => z_idle_rd (fun _ q => absurd q (by simp))
    refine ⟨a.mk0 b (s1.of (r _) (r _) (r _) (r _) (z_idle_rd (fun q => absurd q (by first | decide | simp))) (r _) (z_idle_rd (fun _ q => absurd q (by simp)))), r _, r _, fun i => z_idle_rd (fun q => absurd q (by simp))⟩
  · rw [if_neg (by rw [q]; decide), if_pos q]
    obtain ⟨a, b⟩ := h.bp (j := 0) ho (by first | decide | simp) hp hn hpn h8 hb hk
    have r : ∀ f, (n_bp 0 L).1 (5, f, 1) = L.1 (5, f, 1) := fun f => by unfold n_bp; rw [rdw, if_neg (by simp)]
    refine ⟨a.mk0 b (s1.of (r _) (r _) (r _) (r _) (by unfold n_bp; rw [rdw, if_neg (by simp)]) (r _) (by unfold m_bp; rw [rdw, if_neg (by simp)])), r _, r _, fun i => by unfold m_bp; rw [rdw, if_neg (by simp)]⟩
theorem end2 {t p n : Nat} {L V : LM} (h : R00 t L V) (s1 : Sq 1 L V) (ho : L.1 (1, 0, 0) = 0) (hp : L.1 (5, 4, 0) = nI p) (hn : L.1 (5, 1, 0) = nI n) (hpn : p < n) (h8 : n ≤ 8) (hb : L.1 (5, 3, 0) = 1) (hk : ∃ k o, L.1 (2, 12, 0) = nI o ∧ o ≤ 4 ∧ L.1 (5, 10, 0) = nI k ∧ k < 2 ^ o) : Res t L V (n_end2 L) (m_end2 V) := by
  have hz : bz (L.1 (2, 10, 0)) := h.2.1.2.2.2.2.2.2.1
  unfold n_end2 m_end2
  rw [h.1.1 (2, 10, 0) rfl, h.1.1 (5, 1, 1) rfl, h.1.1 (5, 3, 1) rfl, h.1.1 (5, 6, 0) rfl]
  by_cases hc : L.1 (2, 10, 0) = 0 ∨ (L.1 (5, 1, 1) ≤ 0 ∨ ¬ L.1 (5, 3, 1) = 0)
  · rw [if_pos hc, if_neg (fun q => by
      rcases hc with c | c | c
      · rw [c] at q; exact absurd q.1 (by first | decide | simp)
      · exact q.2.1 c
      · exact c q.2.2)]
    exact end3 h s1 ho hp hn hpn h8 hb hk
  · have c1 : ¬ L.1 (2, 10, 0) = 0 := fun q => hc (Or.inl q)
    have c2 : ¬ L.1 (5, 1, 1) ≤ 0 := fun q => hc (Or.inr (Or.inl q))
    have c3 : L.1 (5, 3, 1) = 0 := Decidable.not_not.mp (fun q => hc (Or.inr (Or.inr q)))
    rw [if_neg hc, if_pos ⟨hz.resolve_left c1, c2, c3⟩]
    obtain ⟨p1, n1, o1, k1, a1, a2, a3, a4, a5, a6, a7, a8, a9, a10, a11⟩ := s1
    have n0 : 0 < n1 := by
      rcases Nat.eq_zero_or_pos n1 with q | q
      · rw [a2, q] at c2; exact absurd (by first | decide | simp) c2
      · exact q
    obtain ⟨b1, b2, b3, b4, b5, b6, b7⟩ := h.start1 (x := L.1 (5, 6, 0)) ho a1 a2 (by omega) a3 ⟨k1, o1, a8, a9, a10, a11⟩
    have b8 : (n_start 1 (L.1 (5, 6, 0)) L).1 (2, 12, 0) = L.1 (2, 12, 0) := ((Stc.refl L).start 1 _) _ rfl
    have e8 : (n_start 1 (L.1 (5, 6, 0)) L).1 (5, 8, 1) = L.1 (5, 8, 1) := by
      unfold n_start z_brk
      rw [if_pos rfl, if_neg]
      · unfold n_bp z_busy
        simp only [rdw, rdl, rdw2, rdl1, Prod.mk.injEq, Nat.reduceEqDiff, and_self, and_true, true_and, and_false, false_and, ite_true, ite_false, ↓reduceIte]
      · unfold n_bp z_busy
        simp only [rdw, rdl, rdw2, rdl1, Prod.mk.injEq, Nat.reduceEqDiff, and_self, and_true, true_and, and_false, false_and, ite_true, ite_false, ↓reduceIte]
        rw [ho]; decide
    obtain ⟨d1, d2, d3, d4⟩ := end3 b1 b2 b5 (by rw [b3]; exact hp) (by rw [b3]; exact hn) hpn h8 (by rw [b3]; exact hb) (by rw [b3, b8]; exact hk)
    exact ⟨d1, by rw [d2, e8], by rw [d3, b4], fun i => by rw [d4, b6]⟩
theorem end0 {t p n : Nat} {L V : LM} (h : R00 t L V) (s1 : Sq 1 L V) (ho : L.1 (1, 0, 0) = 0) (hp : L.1 (5, 4, 0) = nI p) (hn : L.1 (5, 1, 0) = nI n) (hpn : p ≤ n) (h0 : 0 < n) (h8 : n ≤ 8) (hb : L.1 (5, 3, 0) = 1) (hk : ∃ k o, L.1 (2, 12, 0) = nI o ∧ o ≤ 4 ∧ L.1 (5, 10, 0) = nI k ∧ k < 2 ^ o) : Res t L V (n_end0 L) (m_end0 V) := by
  have go : ∀ L' V' : LM, ∀ p', R00 t L' V' → (∀ a : Cl, a.1 ≠ 5 → L'.1 a = L.1 a) → (∀ a : Cl, a.1 ≠ 5 → V'.1 a = V.1 a) → (∀ f, f ≠ 4 → f ≠ 9 → L'.1 (5, f, 0) = L.1 (5, f, 0)) → (∀ f, L'.1 (5, f, 1) = L.1 (5, f, 1)) → V'.1 (5, 5, 1) = V.1 (5, 5, 1) → L'.1 (5, 4, 0) = nI p' → p' < n → Res t L V (n_end2 L') (m_end2 V') := by
    intro L' V' p' h' l v l0 l1 v1 hp' hpn'
    obtain ⟨d1, d2, d3, d4⟩ := end2 h' (s1.of (l1 _) (l1 _) (l1 _) (l1 _) (l _ (by first | decide | simp)) (l1 _) v1) (by rw [l _ (by first | decide | simp)]; exact ho) hp' (by rw [l0 _ (by first | decide | simp) (by first | decide | simp)]; exact hn) hpn' h8 (by rw [l0 _ (by first | decide | simp) (by first | decide | simp)]; exact hb) (by rw [l0 _ (by first | decide | simp) (by first | decide | simp), l _ (by first | decide | simp)]; exact hk)
    exact ⟨d1, by rw [d2, l1], by rw [d3, l1], fun i => by rw [d4, v _ (by simp)]⟩
  have a1 : R00 t (wI L (5, 9, 0) (L.1 (5, 9, 0) + 1)) (wI V (5, 9, 0) (V.1 (5, 9, 0) + 1)) := h.k5 (h.1.w (by rw [h.1.1 _ rfl])) ((Stc.refl L).w rfl) (fun a ha => w5 ha) (fun a ha => w5 ha) (fun j => by rw [rdw, if_neg (by simp)]) (Ow0 (by rw [w5 (by first | decide | simp)]; exact ho))
  have a2 : R00 t (wI (wI L (5, 9, 0) (L.1 (5, 9, 0) + 1)) (5, 4, 0) 0) (wI (wI V (5, 9, 0) (V.1 (5, 9, 0) + 1)) (5, 4, 0) 0) := a1.k5 (a1.1.w rfl) ((Stc.refl _).w rfl) (fun a ha => w5 ha) (fun a ha => w5 ha) (fun j => by rw [rdw, if_neg (by simp)]) (Ow0 (by rw [w5 (by first | decide | simp), w5 (by first | decide | simp)]; exact ho))
  unfold n_end0 m_end0
  rw [h.1.1 (5, 4, 0) rfl, h.1.1 (5, 1, 0) rfl, hp, hn]
  by_cases c : p < n
  · rw [if_pos (nI_lt c (by omega)), if_neg (fun q => by have := nIi q (by omega) (by omega); omega)]
    exact go _ _ p a1 (fun a ha => w5 ha) (fun a ha => w5 ha) (fun f f1 f2 => by rw [rdw, if_neg (by simpa using f2)]) (fun f => by rw [rdw, if_neg (by simp)]) (by rw [rdw, if_neg (by simp)]) (by rw [rdw, if_neg (by simp)]; exact hp) c
  · have e : p = n := by omega
    rw [if_neg (nI_nlt (by omega) (by omega)), if_pos (by rw [e])]
    exact go _ _ 0 a2 (fun a ha => by rw [w5 ha, w5 ha]) (fun a ha => by rw [w5 ha, w5 ha]) (fun f f1 f2 => by rw [rdw, if_neg (by simpa using f1), rdw, if_neg (by simpa using f2)]) (fun f => by rw [rdw, if_neg (by simp), rdw, if_neg (by simp)]) (by rw [rdw, if_neg (by simp), rdw, if_neg (by simp)]) (by rw [rdw, if_pos rfl]; rfl) h0
/-- the place goes on, and the pass may end -/
theorem S_end {t s p : Nat} {L V : LM} (hs : s < 2) (h : R0 t L V) (hp : L.1 (5, 4, s) = nI p) (hp31 : p < 2 ^ 31) (hb : L.1 (5, 3, s) = 1) (ho : L.1 (1, 0, 0) = 0) : ∃ n, L.1 (5, 1, s) = nI n ∧ p < n ∧ n ≤ capE s ∧ R0 t (n_cv4 s (n_fin8 s L)) (m_fin8 s V) ∧ (n_cv4 s (n_fin8 s L)).1 (5, 8, 1) = L.1 (5, 8, 1) ∧ (∀ i, (m_fin8 s V).1 (22, i, 0) = V.1 (22, i, 0)) ∧ Stc L (n_cv4 s (n_fin8 s L)) ∧ (n_cv4 s (n_fin8 s L)).1 (5, 4, 1) = (if s = 1 then nI (if p + 1 < n then p + 1 else 0) else L.1 (5, 4, 1)) := by
  have hsq : Sq s L V := by
    rcases (show s = 0 ∨ s = 1 by omega) with rfl | rfl
    · exact h.2.2.2.1
    · exact h.2.2.2.2.1
  obtain ⟨p', n, o, k, a1, a2, a3, a4, a5, a6, a7, a8, a9, a10, a11⟩ := hsq
  have hc := capE8 (j := s)
  have ep : p' = p := (nIi (hp.symm.trans a1) hp31 (by omega)).symm
  subst ep
  obtain ⟨q, b1, b2, b3, b4, b5⟩ := a6 hb
  have hstc : Stc L (n_cv4 s (n_fin8 s L)) := by
    unfold n_cv4 n_fin8
    split
    · exact (Stc.refl L).w rfl
    · exact ((Stc.refl L).w rfl).end s
  refine ⟨n, a2, by omega, a3, ?_⟩
  have e1 : n_fin8 s L = wI L (5, 4, s) (nI (p' + 1)) := by unfold n_fin8; rw [hp, nI_1]
  have e2 : V.1 (5, 5, s) + -1 = nI (q - p' - 1) := by rw [b5, show q - p' = (q - p' - 1) + 1 by omega, pk_m1, Nat.add_sub_cancel]
  have e3 : V.1 (5, 4, s) + 1 = nI (p' + 1) := by rw [h.1.1 _ rfl, hp, nI_1]
  -- the state behind the step
  have k0 : R00 t (wI L (5, 4, s) (nI (p' + 1))) (wI (wI V (5, 4, s) (nI (p' + 1))) (5, 5, s) (nI (q - p' - 1))) := h.r00.k5 ((h.1.w rfl).r rfl) ((Stc.refl L).w rfl) (fun a ha => w5 ha) (fun a ha => by rw [w5 ha, w5 ha]) (fun j => by rw [rdw, if_neg (by simp)]) (Ow0 (by rw [w5 (by first | decide | simp)]; exact ho))
  have si : ∀ i, i ≠ s → Sq i L V → Sq i (wI L (5, 4, s) (nI (p' + 1))) (wI (wI V (5, 4, s) (nI (p' + 1))) (5, 5, s) (nI (q - p' - 1))) := fun i hi hq => by
    have r : ∀ f, (wI L (5, 4, s) (nI (p' + 1))).1 (5, f, i) = L.1 (5, f, i) := fun f => by rw [rdw, if_neg (fun z => hi (by simpa using (congrArg (fun x : Cl => x.2.2) z)))]
    exact hq.of (r _) (r _) (r _) (r _) (w5 (by first | decide | simp)) (r _) (by rw [rdw, if_neg (fun z => hi (by simpa using (congrArg (fun x : Cl => x.2.2) z))), rdw, if_neg (fun z => hi (by simpa using (congrArg (fun x : Cl => x.2.2) z)))])
  have r5 : ∀ f, f ≠ 4 → (wI L (5, 4, s) (nI (p' + 1))).1 (5, f, s) = L.1 (5, f, s) := fun f hf => by rw [rdw, if_neg (by simpa using hf)]
  by_cases hq : p' + 1 < q
  · have e4 : n_cv4 s (n_fin8 s L) = wI L (5, 4, s) (nI (p' + 1)) := by
      rw [e1]
      unfold n_cv4
      rw [rdw, if_pos rfl, r5 5 (by first | decide | simp), b1, if_pos (nI_lt hq (by omega))]
    have e5 : m_fin8 s V = wI (wI V (5, 4, s) (nI (p' + 1))) (5, 5, s) (nI (q - p' - 1)) := by
      unfold m_fin8
      rw [e2, e3, if_neg (nI_ne0 (by omega) (by omega))]
    have sj : Sq s (wI L (5, 4, s) (nI (p' + 1))) (wI (wI V (5, 4, s) (nI (p' + 1))) (5, 5, s) (nI (q - p' - 1))) := by
      refine ⟨p' + 1, n, o, k, by rw [rdw, if_pos rfl], by rw [r5 _ (by first | decide | simp)]; exact a2, a3, Or.inl (by omega), by rw [r5 _ (by first | decide | simp)]; exact a5, fun _ => ⟨q, by rw [r5 _ (by first | decide | simp)]; exact b1, hq, b3, b4, by rw [rdw, if_pos rfl]; exact congrArg nI (by omega)⟩, fun _ z => ?_, by rw [w5 (by first | decide | simp)]; exact a8, a9, by rw [r5 _ (by first | decide | simp)]; exact a10, a11⟩
      rw [r5 _ (by first | decide | simp), hb] at z; exact absurd z (by first | decide | simp)
    rw [e4] at hstc
    rw [e4, e5]
    refine ⟨?_, by rw [rdw, if_neg (by simp)], fun i => by rw [rdw, if_neg (by simp), rdw, if_neg (by simp)], hstc, ?_⟩
    · rcases (show s = 0 ∨ s = 1 by omega) with rfl | rfl
      · exact k0.mk0 sj (si 1 (by first | decide | simp) h.2.2.2.2.1)
      · exact k0.mk0 (si 0 (by first | decide | simp) h.2.2.2.1) sj
    · rcases (show s = 0 ∨ s = 1 by omega) with rfl | rfl
      · rw [if_neg (by first | decide | simp), rdw, if_neg (by first | decide | simp)]
      · rw [if_pos rfl, rdw, if_pos rfl, if_pos (by omega)]
  · have eq1 : q = p' + 1 := by omega
    have e4 : n_cv4 s (n_fin8 s L) = n_end s (wI L (5, 4, s) (nI (p' + 1))) := by
      rw [e1]
      unfold n_cv4
      rw [rdw, if_pos rfl, r5 5 (by first | decide | simp), b1, if_neg (nI_nlt (by omega) (by omega))]
    have e5 : m_fin8 s V = m_end s (wI (wI V (5, 4, s) (nI (p' + 1))) (5, 5, s) (nI (q - p' - 1))) := by
      unfold m_fin8
      rw [e2, e3, if_pos (by rw [show q - p' - 1 = 0 by omega]; rfl)]
    rw [e4] at hstc
    rw [e4, e5]
    rcases (show s = 0 ∨ s = 1 by omega) with rfl | rfl
    · unfold n_end m_end at *
      rw [if_neg (show ¬ (0 : Nat) = 1 by decide)] at hstc
      rw [if_neg (show ¬ (0 : Nat) = 1 by decide), if_neg (show ¬ (0 : Nat) = 1 by decide), if_neg (show ¬ (0 : Nat) = 1 by decide)]
      obtain ⟨d1, d2, d3, d4⟩ := end0 k0 (si 1 (by first | decide | simp) h.2.2.2.2.1) (by rw [w5 (by first | decide | simp)]; exact ho) (p := p' + 1) (n := n) (by rw [rdw, if_pos rfl]) (by rw [r5 _ (by first | decide | simp)]; exact a2) (by omega) (by omega) (by omega) (by rw [r5 _ (by first | decide | simp)]; exact hb) ⟨k, o, by rw [w5 (by first | decide | simp)]; exact a8, a9, by rw [r5 _ (by first | decide | simp)]; exact a10, a11⟩
      exact ⟨d1, by rw [d2, rdw, if_neg (by first | decide | simp)], fun i => by rw [d4, rdw, if_neg (by simp), rdw, if_neg (by simp)], hstc, by rw [d3, rdw, if_neg (by first | decide | simp)]⟩
    · have en : q = n := b4 rfl
      unfold n_end m_end at *
      rw [if_pos (show (1 : Nat) = 1 from rfl)] at hstc
      rw [if_pos (show (1 : Nat) = 1 from rfl), if_pos (show (1 : Nat) = 1 from rfl), if_pos (show (1 : Nat) = 1 from rfl)]
      generalize hX : wI L (5, 4, 1) (nI (p' + 1)) = X at *
      generalize hY : wI (wI V (5, 4, 1) (nI (p' + 1))) (5, 5, 1) (nI (q - p' - 1)) = Y at *
      have x5 : ∀ f, f ≠ 4 → X.1 (5, f, 1) = L.1 (5, f, 1) := r5
      have m1 : R00 t (wI (wI X (5, 9, 1) (X.1 (5, 9, 1) + 1)) (5, 4, 1) 0) (wI (wI Y (5, 9, 1) (Y.1 (5, 9, 1) + 1)) (5, 4, 1) 0) := k0.k5 ((k0.1.w (by rw [k0.1.1 _ rfl])).w rfl) (((Stc.refl X).w rfl).w rfl) (fun a ha => by rw [w5 ha, w5 ha]) (fun a ha => by rw [w5 ha, w5 ha]) (fun j => by rw [rdw, if_neg (by simp), rdw, if_neg (by simp)]) (Ow0 (by rw [w5 (by first | decide | simp), w5 (by first | decide | simp), ← hX, w5 (by first | decide | simp)]; exact ho))
      have ey : m_end1 Y = z_idle 1 (wI (wI Y (5, 9, 1) (Y.1 (5, 9, 1) + 1)) (5, 4, 1) 0) := by
        unfold m_end1 z_idle
        rw [wI_comm (a := (5, 7, 1)) (b := (5, 4, 1)) (by simp), wI_comm (a := (5, 6, 1)) (b := (5, 4, 1)) (by simp), wI_comm (a := (5, 3, 1)) (b := (5, 4, 1)) (by simp)]
      rw [ey]
      unfold n_end1
      obtain ⟨c1, c2⟩ := m1.idle (j := 1) (p := 0) (n := n) (by rw [w5 (by first | decide | simp), w5 (by first | decide | simp), ← hX, w5 (by first | decide | simp)]; exact ho) (by rw [rdw, if_pos rfl]; rfl) (by rw [rdw, if_neg (by first | decide | simp), rdw, if_neg (by first | decide | simp), x5 _ (by first | decide | simp)]; exact a2) (Or.inr rfl) (fun _ => rfl) a3 ⟨k, o, by rw [w5 (by first | decide | simp), w5 (by first | decide | simp), ← hX, w5 (by first | decide | simp)]; exact a8, a9, by rw [rdw, if_neg (by first | decide | simp), rdw, if_neg (by first | decide | simp), x5 _ (by first | decide | simp)]; exact a10, a11⟩
      have r0 : ∀ f, (z_idle 1 (wI (wI X (5, 9, 1) (X.1 (5, 9, 1) + 1)) (5, 4, 1) 0)).1 (5, f, 0) = L.1 (5, f, 0) := fun f => by rw [z_idle_rd (fun _ z => absurd z (by simp)), rdw, if_neg (by simp), rdw, if_neg (by simp), ← hX, rdw, if_neg (by simp)]
      refine ⟨c1.mk0 (h.2.2.2.1.of (r0 _) (r0 _) (r0 _) (r0 _) ?_ (r0 _) ?_) c2, ?_, fun i => ?_, hstc, ?_⟩
      · rw [z_idle_rd (fun z => absurd z (by first | decide | simp)), w5 (by first | decide | simp), w5 (by first | decide | simp), ← hX, w5 (by first | decide | simp)]
      · rw [z_idle_rd (fun _ z => absurd z (by first | decide | simp)), rdw, if_neg (by first | decide | simp), rdw, if_neg (by first | decide | simp), ← hY, rdw, if_neg (by first | decide | simp), rdw, if_neg (by first | decide | simp)]
      · rw [z_idle_rd (fun _ _ => (by first | decide | simp)), rdw, if_neg (by first | decide | simp), rdw, if_neg (by first | decide | simp), x5 _ (by first | decide | simp)]
      · rw [z_idle_rd (fun z => absurd z (by simp)), rdw, if_neg (by simp), rdw, if_neg (by simp), ← hY, rdw, if_neg (by simp), rdw, if_neg (by simp)]
      · rw [z_idle_rd (fun _ _ => (by first | decide | simp)), rdw, if_pos rfl, if_neg (by omega)]
        rfl
