/-! ===== a result is finished on both sides ===== -/
theorem z_look_wI {w : Nat} {c t y x v : Int32} {V : LM} {a : Cl} (h : a.1 ≠ 8) : z_look w c t y x (wI V a v) = wI (z_look w c t y x V) a v := by
  have ne : ∀ f, a ≠ (8, f, w) := fun f q => h (congrArg Prod.fst q)
  have r : ∀ f, (wI V a v).1 (8, f, w) = V.1 (8, f, w) := fun f => by rw [rdw, if_neg (fun q => ne f q.symm)]
  have e : z_cnt w x (wI V a v) = z_cnt w x V := by
    unfold z_cnt
    rw [r, r, r]
  unfold z_look
  rw [r, r, r, e]
  split
  · rfl
  · split
    · rw [wI_comm (ne 5)]
    · rw [wI_comm (ne 5), wI_comm (ne 6), wI_comm (ne 7), wI_comm (ne 8), wI_comm (ne 9)]
theorem z_look_wL {w : Nat} {c t y x : Int32} {v : Int64} {V : LM} {a : Cl} : z_look w c t y x (wL V a v) = wL (z_look w c t y x V) a v := by
  have e : z_cnt w x (wL V a v) = z_cnt w x V := rfl
  unfold z_look
  rw [e, rdl1]
  by_cases h : V.1 (8, 4, w) >>> (c &&& 31) &&& 1 = 0
  · rw [if_pos h, if_pos h]
  · rw [if_neg h, if_neg h]
    split <;> rfl
theorem z_looks_wI {c t y x v : Int32} {V : LM} {a : Cl} (h : a.1 ≠ 8) : z_looks c t y x (wI V a v) = wI (z_looks c t y x V) a v := by
  unfold z_looks
  rw [z_look_wI h, z_look_wI h, z_look_wI h]
theorem z_looks_wL {c t y x : Int32} {v : Int64} {V : LM} {a : Cl} : z_looks c t y x (wL V a v) = wL (z_looks c t y x V) a v := by
  unfold z_looks
  rw [z_look_wL, z_look_wL, z_look_wL]
theorem fin_order {s e : Nat} {c t y x : Int32} {V : LM} : z_looks c t y x (z_add e x (m_mid s V)) = wI (n_mid s (z_add e x (z_looks c t y x (z_forget s V)))) (2, 17, 0) (V.1 (2, 17, 0) + 1) := by
  have m0 : ∀ f, (m_mid s V).1 (0, f, e) = V.1 (0, f, e) := fun f => m_mid_rd (Or.inl (by simp)) (by simp)
  have y0 : ∀ f, (z_looks c t y x (z_forget s V)).1 (0, f, e) = V.1 (0, f, e) := fun f => by rw [z_looks_rd (by simp), z_forget_rd (Or.inl (by simp))]
  have y5 : ∀ f, f < 10 → (z_looks c t y x (z_forget s V)).1 (5, f, s) = V.1 (5, f, s) := fun f hf => by rw [z_looks_rd (by simp), z_forget_rd (Or.inr hf)]
  have y2 : (z_looks c t y x (z_forget s V)).1 (2, 15, 0) = V.1 (2, 15, 0) := by rw [z_looks_rd (by simp), z_forget_rd (Or.inl (by simp))]
  have l2 : (z_looks c t y x (z_forget s V)).2 = V.2 := by rw [z_looks_l]; rfl
  have m2 : (m_mid s V).2 (0, 8, e) = V.2 (0, 8, e) := by unfold m_mid; rw [rdl, if_neg (by simp)]; rfl
  have hlo : z_lo e x (m_mid s V) = z_lo e x (z_looks c t y x (z_forget s V)) := by unfold z_lo; rw [m0, m0, y0, y0]
  have hhi : z_hi e x (m_mid s V) = z_hi e x (z_looks c t y x (z_forget s V)) := by unfold z_hi; rw [m0, m0, y0, y0]
  unfold n_mid
  have a5 : ∀ f, f < 10 → (z_add e x (z_looks c t y x (z_forget s V))).1 (5, f, s) = V.1 (5, f, s) := fun f hf => by rw [z_add_rd (by simp), y5 f hf]
  have a2 : (z_add e x (z_looks c t y x (z_forget s V))).1 (2, 15, 0) = V.1 (2, 15, 0) := by rw [z_add_rd (by simp), y2]
  have al : (z_add e x (z_looks c t y x (z_forget s V))).2 (5, 12, s) = V.2 (5, 12, s) := by unfold z_add; rw [rdl, if_neg (by simp)]; simp only [rdw2]; rw [l2]
  rw [a5 8 (by first | decide | simp), a5 7 (by first | decide | simp), a2, al]
  unfold z_add
  rw [m0, y0, m2, l2, hlo, hhi]
  unfold m_mid
  rw [z_looks_wL, z_looks_wI (by simp), z_looks_wI (by simp), z_looks_wI (by simp), z_looks_wL, z_looks_wI (by simp), z_looks_wI (by simp)]
  generalize z_looks c t y x (z_forget s V) = Y
  refine Prod.ext (funext fun b => ?_) (funext fun b => ?_)
  · simp only [rdw, rdl1]
    by_cases h1 : b = (2, 17, 0)
    · subst h1; simp
    · by_cases h2 : b = (5, 8, s)
      · subst h2; simp
      · simp only [h1, h2, if_false]
  · simp only [rdl, rdw2]
    by_cases h1 : b = (5, 12, s)
    · subst h1; simp
    · simp only [h1, if_false]
def dyc : Cl → Bool := fun x => match x with
  | (21, _, j) => Nat.beq j 0 || Nat.beq j 1
  | (4, f, _) => Nat.beq f 2 || Nat.beq f 4 || Nat.beq f 5
  | (5, f, _) => Nat.beq f 1 || Nat.beq f 3 || Nat.beq f 4 || Nat.beq f 5 || Nat.beq f 8 || Nat.beq f 10
  | (1, _, _) => true
  | (2, _, _) => true
  | (8, _, _) => true
  | _ => false
theorem R0.dyn {t : Nat} {L V L' V' : LM} (h : R0 t L V) (E : Eqq L' V') (S : Stc L L') (l : ∀ a : Cl, dyc a = true → L'.1 a = L.1 a) (v : ∀ a : Cl, dyc a = true → V'.1 a = V.1 a) : R0 t L' V' := by
  obtain ⟨_, hS, ⟨c1, c2, c3, c4⟩, hs0, hs1, hw, hr0, hr1⟩ := h
  have k8 : ∀ a : Cl, a.1 = 8 → dyc a = true := fun a ha => by obtain ⟨x, y, z⟩ := a; cases ha; rfl
  refine ⟨E, hS.of S, ⟨?_, ?_, ?_, ?_⟩, ?_, ?_, hw.of (fun a ha => l a (k8 a ha)) (fun a ha => v a (k8 a ha)), ?_, ?_⟩
  · rw [l _ rfl]; exact c1
  · unfold Ow
    rw [l _ rfl]
    rcases c2 with c2 | ⟨s, h1, h2, h3⟩
    · exact Or.inl c2
    · exact Or.inr ⟨s, h1, h2, by rw [l _ rfl]; exact h3⟩
  · rw [l _ rfl, l _ rfl, l _ rfl, v _ rfl]; exact c3
  · rw [l _ rfl, l _ rfl, v _ rfl]; exact c4
  · exact hs0.of (l _ rfl) (l _ rfl) (l _ rfl) (l _ rfl) (l _ rfl) (l _ rfl) (v _ rfl)
  · exact hs1.of (l _ rfl) (l _ rfl) (l _ rfl) (l _ rfl) (l _ rfl) (l _ rfl) (v _ rfl)
  · exact hr0.of (l _ rfl) (l _ rfl) (l _ rfl) (fun i => l _ rfl) (fun i => v _ rfl)
  · exact hr1.of (l _ rfl) (l _ rfl) (l _ rfl) (fun i => l _ rfl) (fun i => v _ rfl)
theorem R0.put2 {t p r : Nat} {a b c d : Int32} {L V : LM} (h : R0 t L V) : R0 t (z_put 2 r a b c d L) (z_put 2 r a b c d (wI V (22, p, 0) 1)) := by
  refine h.dyn ((h.1.r rfl).putSame) ((Stc.refl L).put 2 r a b c d) (fun x hx => ?_) (fun x hx => ?_)
  · exact z_put_o (fun q1 q2 => by obtain ⟨x1, x2, x3⟩ := x; cases q1; cases q2; cases hx)
  · rw [z_put_o (fun q1 q2 => by obtain ⟨x1, x2, x3⟩ := x; cases q1; cases q2; cases hx), rdw, if_neg (fun q => by subst q; cases hx)]
/-- everything but the place of the sequence -/
theorem S_fin7 {t s e p z o k : Nat} {L V : LM} (hs : s < 2) (hE : Eqq L V) (hF : R0 t (z_forget s L) (z_forget s V)) (hz : L.1 (4, 5, 0) = nI z) (ho : L.1 (4, 4, 0) = nI o) (hk : L.1 (4, 2, 0) = nI k) (h1 : o < 16) (h2 : z ≤ k) (h3 : k ≤ 16) (h4 : 1 ≤ k) (hC : RgC 0 z o L V) (hp : s = 1 → p < 4) :
    ∃ L4 V4, n_fin s e p o z k L = n_fin8 s L4 ∧ m_fin s e p z k V = m_fin8 s V4 ∧ R0 t L4 V4 ∧ Stc L L4 ∧ (∀ f j, f < 8 → L4.1 (5, f, j) = L.1 (5, f, j)) ∧ L4.1 (1, 0, 0) = L.1 (1, 0, 0) ∧ L4.1 (5, 8, 1) = (if s = 1 then L.1 (5, 8, 1) + 1 else L.1 (5, 8, 1)) ∧ (∀ i, V4.1 (22, i, 0) = if s = 1 ∧ i = p then 1 else V.1 (22, i, 0)) := by
  have ex : z_val s e V = z_val s e L := hE.val s e
  have e6 : V.1 (5, 6, s) = L.1 (5, 6, s) := hE.1 _ rfl
  have e15 : V.1 (2, 15, 0) = L.1 (2, 15, 0) := hE.1 _ rfl
  have h3' := (hF.looks (c := nI e) (g := L.1 (5, 6, s)) (y := L.1 (2, 15, 0)) (x := z_val s e L)).add (c := e) (x := z_val s e L)
  have hm := h3'.mid hs
  have e17 : (z_add e (z_val s e L) (z_looks (nI e) (L.1 (5, 6, s)) (L.1 (2, 15, 0)) (z_val s e L) (z_forget s V))).1 (2, 17, 0) = V.1 (2, 17, 0) := by rw [z_add_rd (by first | decide | simp), z_looks_rd (by first | decide | simp), z_forget_rd (Or.inl (by first | decide | simp))]
  rw [e17, ← fin_order] at hm
  generalize hx : z_val s e L = x at *
  have rL : ∀ a : Cl, a.1 ≠ 8 → a.1 ≠ 0 → (a.1 ≠ 5 ∨ a.2.1 < 8) → (n_mid s (z_add e x (z_looks (nI e) (L.1 (5, 6, s)) (L.1 (2, 15, 0)) x (z_forget s L)))).1 a = L.1 a := by
    intro a a1 a2 a3
    rw [n_mid_rd (a3.elim Or.inl (fun q => Or.inr (by omega))), z_add_rd a2, z_looks_rd a1, z_forget_rd (a3.elim Or.inl (fun q => Or.inr (by omega)))]
  have r8 : (n_mid s (z_add e x (z_looks (nI e) (L.1 (5, 6, s)) (L.1 (2, 15, 0)) x (z_forget s L)))).1 (5, 8, 1) = if s = 1 then L.1 (5, 8, 1) + 1 else L.1 (5, 8, 1) := by
    have q : ∀ j, (z_add e x (z_looks (nI e) (L.1 (5, 6, s)) (L.1 (2, 15, 0)) x (z_forget s L))).1 (5, 8, j) = L.1 (5, 8, j) := fun j => by rw [z_add_rd (by simp), z_looks_rd (by simp), z_forget_rd (Or.inr (by simp))]
    unfold n_mid
    rw [rdl1, rdw, q]
    by_cases h : s = 1
    · subst h; rw [if_pos rfl, if_pos rfl]
    · rw [if_neg (fun q => h (by simpa using q.symm)), if_neg h, q]
  have rV : ∀ i, (z_looks (nI e) (L.1 (5, 6, s)) (L.1 (2, 15, 0)) x (z_add e x (m_mid s V))).1 (22, i, 0) = V.1 (22, i, 0) := fun i => by rw [z_looks_rd (by simp), z_add_rd (by simp), m_mid_rd (Or.inl (by simp)) (by simp)]
  have rV21 : ∀ i, (z_looks (nI e) (L.1 (5, 6, s)) (L.1 (2, 15, 0)) x (z_add e x (m_mid s V))).1 (21, i, 0) = V.1 (21, i, 0) := fun i => by rw [z_looks_rd (by simp), z_add_rd (by simp), m_mid_rd (Or.inl (by simp)) (by simp)]
  have sL : Stc L (n_mid s (z_add e x (z_looks (nI e) (L.1 (5, 6, s)) (L.1 (2, 15, 0)) x (z_forget s L)))) := ((((Stc.refl L).forget s).looks _ _ _ _).add e x).mid s
  refine ⟨n_fin7 s p o z k (nI e) (L.1 (5, 6, s)) x (n_mid s (z_add e x (z_looks (nI e) (L.1 (5, 6, s)) (L.1 (2, 15, 0)) x (z_forget s L)))), m_fin7 s p z k (nI e) (L.1 (5, 6, s)) x (z_looks (nI e) (L.1 (5, 6, s)) (L.1 (2, 15, 0)) x (z_add e x (m_mid s V))), by unfold n_fin; rw [hx], by unfold m_fin; rw [ex, e6, e15], ?_⟩
  have y15 := rL (2, 15, 0) (by first | decide | simp) (by first | decide | simp) (Or.inl (by first | decide | simp))
  have v15 : (z_looks (nI e) (L.1 (5, 6, s)) (L.1 (2, 15, 0)) x (z_add e x (m_mid s V))).1 (2, 15, 0) = L.1 (2, 15, 0) := by rw [hm.1.1 _ rfl, y15]
  rcases (show s = 0 ∨ s = 1 by omega) with rfl | rfl
  · have h5 := hm.enq (a := nI e) (g := L.1 (5, 6, 0)) (x := x) (z := z) (o := o) (k := k) (by rw [rL _ (by first | decide | simp) (by first | decide | simp) (Or.inl (by first | decide | simp))]; exact hz) (by rw [rL _ (by first | decide | simp) (by first | decide | simp) (Or.inl (by first | decide | simp))]; exact ho) (by rw [rL _ (by first | decide | simp) (by first | decide | simp) (Or.inl (by first | decide | simp))]; exact hk) h1 h2 h3 h4 (hC.of (fun i => rL _ (by simp) (by simp) (Or.inl (by simp))) rV21)
    unfold n_fin7 m_fin7
    rw [if_neg (show ¬ (0 : Nat) = 1 by decide), if_pos (show (0 : Nat) = 0 from rfl)]
    refine ⟨h5, sL.enq 0 _ _ _ _ _ _ _, fun f j hf => ?_, ?_, ?_, fun i => ?_⟩
    · rw [n_enq_o (fun q => absurd q (by simp)) (fun q => absurd q (by simp)), rL _ (by simp) (by simp) (Or.inr hf)]
    · rw [n_enq_o (fun q => absurd q (by simp)) (fun q => absurd q (by simp)), rL _ (by simp) (by simp) (Or.inl (by simp))]
    · rw [n_enq_o (fun q => absurd q (by simp)) (fun q => absurd q (by simp)), r8]
    · rw [m_enq_o (fun q => absurd q (by simp)) (fun q => absurd q (by simp)), rV, if_neg (fun q => absurd q.1 (by first | decide | simp))]
  · have hp4 := hp rfl
    unfold n_fin7 m_fin7
    rw [if_pos (show (1 : Nat) = 1 from rfl), if_neg (show ¬ (1 : Nat) = 0 by decide), Nat.mod_eq_of_lt hp4, y15, v15]
    refine ⟨hm.put2, sL.put 2 _ _ _ _ _, fun f j hf => ?_, ?_, ?_, fun i => ?_⟩
    · rw [z_put_o (fun q => absurd q (by simp)), rL _ (by simp) (by simp) (Or.inr hf)]
    · rw [z_put_o (fun q => absurd q (by simp)), rL _ (by simp) (by simp) (Or.inl (by simp))]
    · rw [z_put_o (fun q => absurd q (by simp)), r8]
    · rw [z_put_o (fun q => absurd q (by simp)), rdw, rV]
      by_cases h : i = p
      · subst h; rw [if_pos rfl, if_pos ⟨rfl, rfl⟩]
      · rw [if_neg (fun q => h (by simpa using q)), if_neg (fun q => h q.2)]
