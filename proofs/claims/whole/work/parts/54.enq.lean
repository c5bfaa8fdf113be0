/-! ===== the queue and the memory keep the relation ===== -/
theorem Eqq.sh {j n : Nat} {L V : LM} (h : Eqq L V) (hj : j < 2) : Eqq L (sh j n V) := by
  refine ⟨fun x hx => ?_, h.2⟩
  rw [sh_ne ?_]
  · exact h.1 x hx
  · by_cases h1 : x.1 = 21
    · refine Or.inr (fun q => ?_)
      obtain ⟨a, b, c⟩ := x
      have q' : c = j := q
      have h1' : a = 21 := h1
      subst h1' q'
      rcases (show c = 0 ∨ c = 1 by omega) with rfl | rfl <;> cases hx
    · exact Or.inl h1
theorem sp21 {i j : Nat} (hj : j < 2) : sp (21, i, j) = true := by
  rcases (show j = 0 ∨ j = 1 by omega) with rfl | rfl <;> rfl
theorem Eqq.put {j r r' : Nat} {a b c d a' b' c' d' : Int32} {L V : LM} (h : Eqq L V) (hj : j < 2) : Eqq (z_put j r a b c d L) (z_put j r' a' b' c' d' V) :=
  (((((((h.l (sp21 hj)).r (sp21 hj)).l (sp21 hj)).r (sp21 hj)).l (sp21 hj)).r (sp21 hj)).l (sp21 hj)).r (sp21 hj)
theorem Eqq.putSame {j r : Nat} {a b c d : Int32} {L V : LM} (h : Eqq L V) : Eqq (z_put j r a b c d L) (z_put j r a b c d V) := (((h.w rfl).w rfl).w rfl).w rfl
theorem R0.ring {t j : Nat} {L V L' V' : LM} (h : R0 t L V) (hj : j < 2) (E : Eqq L' V') (S : Stc L L') (hl : ∀ a : Cl, (a.1 = 4 → a.2.2 ≠ j) → (a.1 = 21 → a.2.2 ≠ j) → (a.1 = 2 → a.2.1 ≠ 16) → L'.1 a = L.1 a) (hv : ∀ a : Cl, (a.1 = 4 → a.2.2 ≠ j) → (a.1 = 21 → a.2.2 ≠ j) → (a.1 = 2 → a.2.1 ≠ 16) → V'.1 a = V.1 a) (hr : Rg j L' V') : R0 t L' V' := by
  obtain ⟨_, hS, ⟨c1, c2, c3, c4⟩, hs0, hs1, hw, hr0, hr1⟩ := h
  have l : ∀ a : Cl, a.1 ≠ 4 → a.1 ≠ 21 → (a.1 = 2 → a.2.1 ≠ 16) → L'.1 a = L.1 a := fun a h1 h2 h3 => hl a (fun q => absurd q h1) (fun q => absurd q h2) h3
  have v : ∀ a : Cl, a.1 ≠ 4 → a.1 ≠ 21 → (a.1 = 2 → a.2.1 ≠ 16) → V'.1 a = V.1 a := fun a h1 h2 h3 => hv a (fun q => absurd q h1) (fun q => absurd q h2) h3
  have n2 : ∀ {a : Cl}, a.1 ≠ 2 → (a.1 = 2 → a.2.1 ≠ 16) := fun h q => absurd q h
  have k8 : ∀ a : Cl, a.1 = 8 → a.1 ≠ 4 ∧ a.1 ≠ 21 ∧ a.1 ≠ 2 := fun a ha => by rw [ha]; decide
  have oth : ∀ i, i < 2 → i ≠ j → Rg i L V → Rg i L' V' := fun i _ hi hq => hq.of (hl _ (fun _ => hi) (fun q => absurd q (by simp)) (n2 (by simp))) (hl _ (fun _ => hi) (fun q => absurd q (by simp)) (n2 (by simp))) (hl _ (fun _ => hi) (fun q => absurd q (by simp)) (n2 (by simp))) (fun m => hl _ (fun q => absurd q (by simp)) (fun _ => hi) (n2 (by simp))) (fun m => hv _ (fun q => absurd q (by simp)) (fun _ => hi) (n2 (by simp)))
  refine ⟨E, hS.of S, ⟨?_, ?_, ?_, ?_⟩, ?_, ?_, hw.of (fun a ha => l a (k8 a ha).1 (k8 a ha).2.1 (n2 (k8 a ha).2.2)) (fun a ha => v a (k8 a ha).1 (k8 a ha).2.1 (n2 (k8 a ha).2.2)), ?_, ?_⟩
  · rw [l _ (by first | decide | simp) (by first | decide | simp) (fun _ => (by first | decide | simp))]; exact c1
  · unfold Ow
    rw [l _ (by first | decide | simp) (by first | decide | simp) (n2 (by first | decide | simp))]
    rcases c2 with c2 | ⟨s, h1, h2, h3⟩
    · exact Or.inl c2
    · exact Or.inr ⟨s, h1, h2, by rw [l _ (by simp) (by simp) (n2 (by simp))]; exact h3⟩
  · rw [l _ (by first | decide | simp) (by first | decide | simp) (n2 (by first | decide | simp)), l _ (by first | decide | simp) (by first | decide | simp) (n2 (by first | decide | simp)), l _ (by first | decide | simp) (by first | decide | simp) (n2 (by first | decide | simp)), v _ (by first | decide | simp) (by first | decide | simp) (n2 (by first | decide | simp))]; exact c3
  · rw [l _ (by first | decide | simp) (by first | decide | simp) (n2 (by first | decide | simp)), l _ (by first | decide | simp) (by first | decide | simp) (n2 (by first | decide | simp)), v _ (by first | decide | simp) (by first | decide | simp) (fun _ => (by first | decide | simp))]; exact c4
  · exact hs0.of (l _ (by first | decide | simp) (by first | decide | simp) (n2 (by first | decide | simp))) (l _ (by first | decide | simp) (by first | decide | simp) (n2 (by first | decide | simp))) (l _ (by first | decide | simp) (by first | decide | simp) (n2 (by first | decide | simp))) (l _ (by first | decide | simp) (by first | decide | simp) (n2 (by first | decide | simp))) (l _ (by first | decide | simp) (by first | decide | simp) (fun _ => (by first | decide | simp))) (l _ (by first | decide | simp) (by first | decide | simp) (n2 (by first | decide | simp))) (v _ (by first | decide | simp) (by first | decide | simp) (n2 (by first | decide | simp)))
  · exact hs1.of (l _ (by first | decide | simp) (by first | decide | simp) (n2 (by first | decide | simp))) (l _ (by first | decide | simp) (by first | decide | simp) (n2 (by first | decide | simp))) (l _ (by first | decide | simp) (by first | decide | simp) (n2 (by first | decide | simp))) (l _ (by first | decide | simp) (by first | decide | simp) (n2 (by first | decide | simp))) (l _ (by first | decide | simp) (by first | decide | simp) (fun _ => (by first | decide | simp))) (l _ (by first | decide | simp) (by first | decide | simp) (n2 (by first | decide | simp))) (v _ (by first | decide | simp) (by first | decide | simp) (n2 (by first | decide | simp)))
  · rcases (show j = 0 ∨ j = 1 by omega) with rfl | rfl
    · exact hr
    · exact oth 0 (by first | decide | simp) (by first | decide | simp) hr0
  · rcases (show j = 0 ∨ j = 1 by omega) with rfl | rfl
    · exact oth 1 (by first | decide | simp) (by first | decide | simp) hr1
    · exact hr
theorem w4 {V : LM} {f j : Nat} {x : Int32} {a : Cl} (h : a.1 = 4 → a.2.2 ≠ j) : (wI V (4, f, j) x).1 a = V.1 a := by
  rw [rdw, if_neg (fun q => by subst q; exact h rfl rfl)]
theorem w21 {V : LM} {f j : Nat} {x : Int32} {a : Cl} (h : a.1 = 21 → a.2.2 ≠ j) : (wI V (21, f, j) x).1 a = V.1 a := by
  rw [rdw, if_neg (fun q => by subst q; exact h rfl rfl)]
theorem z_put_o {j s : Nat} {a b c d : Int32} {V : LM} {x : Cl} (h : x.1 = 21 → x.2.2 ≠ j) : (z_put j s a b c d V).1 x = V.1 x := by
  unfold z_put
  rw [w21 h, w21 h, w21 h, w21 h]
theorem sh_o {j n : Nat} {V : LM} {x : Cl} (h : x.1 = 21 → x.2.2 ≠ j) : (sh j n V).1 x = V.1 x := by
  by_cases h1 : x.1 = 21
  · exact sh_ne (Or.inr (h h1))
  · exact sh_ne (Or.inl h1)
theorem n_put_o {j o z : Nat} {a g y x : Int32} {L : LM} {b : Cl} (h4 : b.1 = 4 → b.2.2 ≠ j) (h : b.1 = 21 → b.2.2 ≠ j) : (n_put j o z a g y x L).1 b = L.1 b := by
  unfold n_put
  rw [w4 h4, z_put_o h]
theorem n_drop_or {j : Nat} {L : LM} {b : Cl} (h4 : b.1 = 4 → b.2.2 ≠ j) : (n_drop j L).1 b = L.1 b := by
  unfold n_drop
  rw [w4 h4, w4 h4]
theorem n_enq_o {j o z c : Nat} {a g y x : Int32} {L : LM} {b : Cl} (h4 : b.1 = 4 → b.2.2 ≠ j) (h : b.1 = 21 → b.2.2 ≠ j) : (n_enq j o z c a g y x L).1 b = L.1 b := by
  unfold n_enq
  split
  · split
    · rw [w4 h4]
    · rw [n_put_o h4 h, n_drop_or h4, w4 h4]
  · rw [n_put_o h4 h]
theorem m_drop_or {z : Nat} {V : LM} {b : Cl} (h4 : b.1 = 4 → b.2.2 ≠ 0) (h : b.1 = 21 → b.2.2 ≠ 0) : (m_drop z V).1 b = V.1 b := by
  unfold m_drop
  rw [w4 h4, sh_o h]
theorem m_enq_o {z c : Nat} {a g x : Int32} {V : LM} {b : Cl} (h4 : b.1 = 4 → b.2.2 ≠ 0) (h : b.1 = 21 → b.2.2 ≠ 0) : (m_enq z c a g x V).1 b = V.1 b := by
  unfold m_enq m_put
  split
  · split
    · rw [w4 h4]
    · rw [w4 h4, z_put_o h, m_drop_or h4 h, w4 h4]
  · rw [w4 h4, z_put_o h]
/-! one more, one less -/
theorem Rg.put {j z o c : Nat} {a g y x v : Int32} {L V : LM} {b : Cl} (hz : L.1 (4, 5, j) = nI z) (ho : L.1 (4, 4, j) = nI o) (hc : L.1 (4, 2, j) = nI c) (h1 : o < rk j) (h2 : z < c) (h3 : c ≤ rk j) (h : RgC j z o L V) (hb : b.1 ≠ 21) : Rg j (n_put j o z a g y x L) (wI (z_put j (4 * z) a g y x V) b v) := by
  refine ⟨z + 1, o, c, ?_, ?_, ?_, h1, by omega, h3, by omega, ?_⟩
  · unfold n_put
    rw [rdw, if_pos rfl, hz, nI_1]
  · unfold n_put
    rw [rdw, if_neg (by simp), z_put_rd (by simp)]; exact ho
  · unfold n_put
    rw [rdw, if_neg (by simp), z_put_rd (by simp)]; exact hc
  · refine (h.push (a := a) (b := g) (c := y) (d := x) (by omega) h1).of (fun i => ?_) (fun i => ?_)
    · unfold n_put
      rw [rdw, if_neg (by simp)]
    · rw [rdw, if_neg (fun q => hb (by rw [← q]))]
theorem RgC.dropN {j z o : Nat} {L V V' : LM} (h : RgC j z o L V) (hz : 1 ≤ z) (hv : ∀ i, V'.1 (21, i, j) = (sh j (4 * z - 4) V).1 (21, i, j)) : RgC j (z - 1) ((o + 1) % rk j) (n_drop j L) V' :=
  (h.drop hz).of (fun i => n_drop_rd (by simp) (by simp)) hv
theorem Rg.drop {j z o c : Nat} {L V V' : LM} (hm : L.1 (4, 1, j) = nI (rk j - 1)) (hz : L.1 (4, 5, j) = nI z) (ho : L.1 (4, 4, j) = nI o) (hc : L.1 (4, 2, j) = nI c) (h1 : o < rk j) (h2 : z ≤ c) (h3 : c ≤ rk j) (h4 : 1 ≤ z) (h : RgC j z o L V) (hv : ∀ i, V'.1 (21, i, j) = (sh j (4 * z - 4) V).1 (21, i, j)) : Rg j (n_drop j L) V' :=
  ⟨z - 1, (o + 1) % rk j, c, n_drop_z hz h4, n_drop_o hm ho (by have := (rk_pos (j := j)).2; omega), by rw [n_drop_rd (by simp) (by simp)]; exact hc, Nat.mod_lt _ rk_pos.1, by omega, h3, by omega, h.dropN h4 hv⟩
theorem Eqq.n_put {j o z : Nat} {a g y x a' g' y' x' v : Int32} {r : Nat} {L V : LM} (h : Eqq L V) (hj : j < 2) (e : v = L.1 (4, 5, j) + 1) : Eqq (n_put j o z a g y x L) (wI (z_put j r a' g' y' x' V) (4, 5, j) v) := (h.put hj).w e
theorem Eqq.drop0 {z : Nat} {L V : LM} (h : Eqq L V) : Eqq (n_drop 0 L) (m_drop z V) := by
  unfold n_drop m_drop
  exact ((h.sh (by first | decide | simp)).l rfl).w (by rw [h.1 (4, 5, 0) rfl, sub1])
theorem R0.enq {t z o k : Nat} {a g x : Int32} {L V : LM} (h : R0 t L V) (hz : L.1 (4, 5, 0) = nI z) (ho : L.1 (4, 4, 0) = nI o) (hk : L.1 (4, 2, 0) = nI k) (h1 : o < 16) (h2 : z ≤ k) (h3 : k ≤ 16) (h4 : 1 ≤ k) (hC : RgC 0 z o L V) : R0 t (n_enq 0 o z k a g (L.1 (2, 15, 0)) x L) (m_enq z k a g x V) := by
  have hE := h.1
  have ey : V.1 (2, 15, 0) = L.1 (2, 15, 0) := hE.1 _ rfl
  have hm : L.1 (4, 1, 0) = nI (rk 0 - 1) := h.2.1.2.2.2.2.2.2.2.2.2.2.2.2.2.1 0 (by first | decide | simp)
  refine h.ring (j := 0) (by first | decide | simp) ?_ ((Stc.refl L).enq 0 o z k a g _ x) (fun b b1 b2 _ => n_enq_o b1 b2) (fun b b1 b2 _ => m_enq_o b1 b2) ?_
  · unfold n_enq m_enq
    rw [hE.1 (4, 3, 0) rfl, hE.1 (4, 6, 0) rfl]
    split
    · split
      · exact hE.w rfl
      · refine ((hE.w (a := (4, 6, 0)) rfl).drop0).n_put (by first | decide | simp) ?_
        exact congrArg (· + 1) ((((hE.w (a := (4, 6, 0)) (x := L.1 (4, 6, 0) + 1) rfl).drop0 (z := z)).1 (4, 5, 0) rfl))
    · exact hE.n_put (by first | decide | simp) (by rw [hE.1 (4, 5, 0) rfl])
  · unfold n_enq m_enq
    rw [hE.1 (4, 3, 0) rfl]
    by_cases hzk : z = k
    · subst hzk
      rw [if_pos rfl, if_pos rfl]
      have r : ∀ (W : LM) (v : Int32) (b : Cl), b ≠ (4, 6, 0) → (wI W (4, 6, 0) v).1 b = W.1 b := fun W v b hb => by rw [rdw, if_neg hb]
      split
      · exact ⟨z, o, z, by rw [r _ _ _ (by first | decide | simp)]; exact hz, by rw [r _ _ _ (by first | decide | simp)]; exact ho, by rw [r _ _ _ (by first | decide | simp)]; exact hk, h1, Nat.le_refl z, h3, h4, hC.of (fun i => r _ _ _ (by simp)) (fun i => r _ _ _ (by simp))⟩
      · have c1 : RgC 0 z o (wI L (4, 6, 0) (L.1 (4, 6, 0) + 1)) (wI V (4, 6, 0) (V.1 (4, 6, 0) + 1)) := hC.of (fun i => r _ _ _ (by simp)) (fun i => r _ _ _ (by simp))
        have c2 := c1.dropN (V' := m_drop z (wI V (4, 6, 0) (V.1 (4, 6, 0) + 1))) h4 (fun i => by unfold m_drop; rw [rdw, if_neg (by simp)])
        have e2 : (m_drop z (wI V (4, 6, 0) (V.1 (4, 6, 0) + 1))).1 (2, 15, 0) = L.1 (2, 15, 0) := by rw [m_drop_rd (by first | decide | simp) (by first | decide | simp), r _ _ _ (by first | decide | simp), ey]
        unfold m_put
        rw [e2]
        exact Rg.put (c := z) (n_drop_z (by rw [r _ _ _ (by first | decide | simp)]; exact hz) h4) (n_drop_o (by rw [r _ _ _ (by first | decide | simp)]; exact hm) (by rw [r _ _ _ (by first | decide | simp)]; exact ho) (by omega)) (by rw [n_drop_rd (by first | decide | simp) (by first | decide | simp), r _ _ _ (by first | decide | simp)]; exact hk) (Nat.mod_lt _ rk_pos.1) (by omega) h3 c2 (by first | decide | simp)
    · rw [if_neg hzk, if_neg hzk]
      unfold m_put
      rw [ey]
      exact Rg.put hz ho hk h1 (by omega) h3 hC (by first | decide | simp)
