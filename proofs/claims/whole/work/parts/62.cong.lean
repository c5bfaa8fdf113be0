/-! ===== the relation speaks of the cells that there are ===== -/
theorem v0 {f j : Nat} (hj : j < 8) (hf : f < 8) : vld (0, f, j) := Or.inl ⟨rfl, hj, hf⟩
theorem v1 {f : Nat} (hf : f < 6) : vld (1, f, 0) := Or.inr (Or.inl ⟨rfl, rfl, hf⟩)
theorem v2 {f : Nat} (hf : 9 ≤ f) (h : f < 17) : vld (2, f, 0) := Or.inr (Or.inr (Or.inl ⟨rfl, rfl, hf, h⟩))
theorem v4 {f j : Nat} (hj : j < 3) (hf : 2 ≤ f) (h : f < 7) : vld (4, f, j) := Or.inr (Or.inr (Or.inr (Or.inl ⟨rfl, hj, hf, h⟩)))
theorem v5 {f j : Nat} (hj : j < 2) (hf : 1 ≤ f) (h : f < 12) : vld (5, f, j) := Or.inr (Or.inr (Or.inr (Or.inr (Or.inl ⟨rfl, hj, hf, h⟩))))
theorem v7 {f j : Nat} (hj : j < 4) (hf : f < 5) : vld (7, f, j) := Or.inr (Or.inr (Or.inr (Or.inr (Or.inr (Or.inl ⟨rfl, hj, hf⟩)))))
theorem v8 {f j : Nat} (hj : j < 3) (hf : f < 10) : vld (8, f, j) := Or.inr (Or.inr (Or.inr (Or.inr (Or.inr (Or.inr (Or.inl ⟨rfl, hj, hf⟩))))))
theorem v20 {f j : Nat} (hj : j < 2) (hf : f < capE j) : vld (20, f, j) := Or.inr (Or.inr (Or.inr (Or.inr (Or.inr (Or.inr (Or.inr (Or.inl ⟨rfl, hj, hf⟩)))))))
theorem v21 {f j : Nat} (hj : j < 3) (hf : f < 4 * rk j) : vld (21, f, j) := Or.inr (Or.inr (Or.inr (Or.inr (Or.inr (Or.inr (Or.inr (Or.inr ⟨rfl, hj, hf⟩)))))))
def vldX (x : Cl) : Prop := vld x ∨ x.1 = 30 ∨ x.1 = 31
def vldB : Cl → Bool := fun y => match y with
  | (0, f, j) => Nat.blt j 8 && Nat.blt f 8
  | (1, f, j) => Nat.beq j 0 && Nat.blt f 6
  | (2, f, j) => Nat.beq j 0 && Nat.ble 9 f && Nat.blt f 17
  | (4, f, j) => Nat.blt j 3 && Nat.ble 2 f && Nat.blt f 7
  | (5, f, j) => Nat.blt j 2 && Nat.ble 1 f && Nat.blt f 12
  | (7, f, j) => Nat.blt j 4 && Nat.blt f 5
  | (8, f, j) => Nat.blt j 3 && Nat.blt f 10
  | (20, f, j) => (Nat.beq j 0 && Nat.blt f 8) || (Nat.beq j 1 && Nat.blt f 4)
  | (21, f, j) => (Nat.beq j 2 && Nat.blt f 16)
  | (30, _, _) => true
  | (31, _, _) => true
  | _ => false
theorem vldB_X {x : Cl} (h : vldB x = true) : vldX x := by
  have le : ∀ {a b : Nat}, Nat.ble a b = true → a ≤ b := fun h => Nat.le_of_ble_eq_true h
  have lt : ∀ {a b : Nat}, Nat.blt a b = true → a < b := fun h => Nat.le_of_ble_eq_true h
  have eq : ∀ {a b : Nat}, Nat.beq a b = true → a = b := fun h => Nat.eq_of_beq_eq_true h
  obtain ⟨a, f, j⟩ := x
  unfold vldB at h
  split at h
  · rename_i e
    simp only [Prod.mk.injEq] at e; obtain ⟨e1, e2, e3⟩ := e; subst e1 e2 e3
    simp only [Bool.and_eq_true] at h
    exact Or.inl (v0 (lt h.1) (lt h.2))
  · rename_i e
    simp only [Prod.mk.injEq] at e; obtain ⟨e1, e2, e3⟩ := e; subst e1 e2 e3
    simp only [Bool.and_eq_true] at h
    have := eq h.1; subst this
    exact Or.inl (v1 (lt h.2))
  · rename_i e
    simp only [Prod.mk.injEq] at e; obtain ⟨e1, e2, e3⟩ := e; subst e1 e2 e3
    simp only [Bool.and_eq_true] at h
    have := eq h.1.1; subst this
    exact Or.inl (v2 (le h.1.2) (lt h.2))
  · rename_i e
    simp only [Prod.mk.injEq] at e; obtain ⟨e1, e2, e3⟩ := e; subst e1 e2 e3
    simp only [Bool.and_eq_true] at h
    exact Or.inl (v4 (lt h.1.1) (le h.1.2) (lt h.2))
  · rename_i e
    simp only [Prod.mk.injEq] at e; obtain ⟨e1, e2, e3⟩ := e; subst e1 e2 e3
    simp only [Bool.and_eq_true] at h
    exact Or.inl (v5 (lt h.1.1) (le h.1.2) (lt h.2))
  · rename_i e
    simp only [Prod.mk.injEq] at e; obtain ⟨e1, e2, e3⟩ := e; subst e1 e2 e3
    simp only [Bool.and_eq_true] at h
    exact Or.inl (v7 (lt h.1) (lt h.2))
  · rename_i e
    simp only [Prod.mk.injEq] at e; obtain ⟨e1, e2, e3⟩ := e; subst e1 e2 e3
    simp only [Bool.and_eq_true] at h
    exact Or.inl (v8 (lt h.1) (lt h.2))
  · rename_i e
    simp only [Prod.mk.injEq] at e; obtain ⟨e1, e2, e3⟩ := e; subst e1 e2 e3
    simp only [Bool.and_eq_true, Bool.or_eq_true] at h
    rcases h with h | h
    · have := eq h.1; subst this
      exact Or.inl (v20 (by first | decide | simp) (lt h.2))
    · have := eq h.1; subst this
      exact Or.inl (v20 (by first | decide | simp) (lt h.2))
  · rename_i e
    simp only [Prod.mk.injEq] at e; obtain ⟨e1, e2, e3⟩ := e; subst e1 e2 e3
    simp only [Bool.and_eq_true] at h
    have := eq h.1; subst this
    exact Or.inl (v21 (by first | decide | simp) (lt h.2))
  · rename_i e
    simp only [Prod.mk.injEq] at e
    exact Or.inr (Or.inl e.1)
  · rename_i e
    simp only [Prod.mk.injEq] at e
    exact Or.inr (Or.inr e.1)
  · cases h
theorem mapA : ∀ i, i < 472 → sp (cA i) = true ∨ vldB (cA i) = true := by decide +kernel
theorem mapS : ∀ i, i < 52 → sp (cS i) = false ∧ vldB (cS i) = true ∧ stc (cS i) = true := by decide +kernel
theorem mapL : ∀ i, i < 10 → vldL (cL i) := by
  intro i hi
  unfold cL
  split
  · exact Or.inr ⟨rfl, by assumption, rfl⟩
  · exact Or.inl ⟨rfl, by show i - 2 < 8; omega, rfl⟩
theorem R.stv {t u t' u' : Nat} {L V L' V' : LM} (h : R t u L V) (k : R t' u' L' V') (s : Stc L L') : ∀ i, i < 52 → V'.1 (cS i) = V.1 (cS i) := fun i hi => by
  rw [k.1.1 _ (mapS i hi).1, s _ (mapS i hi).2.2, h.1.1 _ (mapS i hi).1]
theorem R.cong {t u : Nat} {L V L' : LM} (h : R t u L V) (hl : ∀ x, vldX x → L'.1 x = L.1 x) (hl2 : ∀ x, vldL x → L'.2 x = L.2 x) (hm : MkC L') : ∃ V', R t u L' V' ∧ (∀ i, i < 472 → V'.1 (cA i) = V.1 (cA i)) ∧ (∀ i, i < 52 → V'.1 (cS i) = V.1 (cS i)) ∧ (∀ i, i < 10 → V'.2 (cL i) = V.2 (cL i)) := by
  have l : ∀ x, vld x → L'.1 x = L.1 x := fun x hx => hl x (Or.inl hx)
  have vs : ∀ x : Cl, sp x = true → (if sp x = false then L'.1 x else V.1 x) = V.1 x := fun x hx => if_neg (by rw [hx]; decide)
  have r16 : rk 0 = 16 := rfl
  have r64 : rk 1 = 64 := rfl
  refine ⟨(fun x => if sp x = false then L'.1 x else V.1 x, L'.2), ?_, fun i hi => ?_, fun i hi => ?_, fun i hi => ?_⟩
  · obtain ⟨hE, ⟨h1, h2, h3, h4, h5, h6, h7, h8, h9, h10, h11, h12, h13, h14, h15, h16, h17, h18⟩, ⟨c1, c2, c3, c4⟩, hs0, hs1, hw, hlt, hr0, hr1⟩ := h
    have q5 : ∀ j, j < 2 → Sq j L V → Sq j L' (fun x => if sp x = false then L'.1 x else V.1 x, L'.2) := fun j hj hq => hq.of (l _ (v5 hj (by first | decide | simp) (by first | decide | simp))) (l _ (v5 hj (by first | decide | simp) (by first | decide | simp))) (l _ (v5 hj (by first | decide | simp) (by first | decide | simp))) (l _ (v5 hj (by first | decide | simp) (by first | decide | simp))) (l _ (v2 (by first | decide | simp) (by first | decide | simp))) (l _ (v5 hj (by first | decide | simp) (by first | decide | simp))) (vs (5, 5, j) rfl)
    have qr : ∀ j, j < 2 → Rg j L V → Rg j L' (fun x => if sp x = false then L'.1 x else V.1 x, L'.2) := by
      rintro j hj ⟨z, o, c, a1, a2, a3, a4, a5, a6, a7, a8⟩
      refine ⟨z, o, c, by rw [l _ (v4 (by omega) (by first | decide | simp) (by first | decide | simp)), a1], by rw [l _ (v4 (by omega) (by first | decide | simp) (by first | decide | simp)), a2], by rw [l _ (v4 (by omega) (by first | decide | simp) (by first | decide | simp)), a3], a4, a5, a6, a7, fun i k hi hk => ?_⟩
      have hmod := Nat.mod_lt (o + i) (rk_pos (j := j)).1
      rw [l _ (v21 (by omega) (by omega)), ← a8 i k hi hk]
      exact vs _ (sp21 hj)
    refine ⟨⟨fun x hx => if_pos hx, rfl⟩, ⟨fun j hj => ?_, fun j k hj hk => ?_, ?_, ?_, ?_, ?_, ?_, ?_, ?_, ?_, fun t ht => ?_, fun w hw' => ?_, fun c hc => ?_, hm, ?_, ?_, ?_, ?_⟩, ⟨?_, ?_, ?_, ?_⟩, q5 0 (by first | decide | simp) hs0, q5 1 (by first | decide | simp) hs1, fun w hw' => ?_, ?_, qr 0 (by first | decide | simp) hr0, qr 1 (by first | decide | simp) hr1⟩
    · rw [l _ (v5 hj (by first | decide | simp) (by first | decide | simp))]; exact h1 j hj
    · rw [l _ (v20 hj hk)]; exact h2 j k hj hk
    · rw [l _ (v5 (by first | decide | simp) (by first | decide | simp) (by first | decide | simp))]; exact h3
    · rw [l _ (v5 (by first | decide | simp) (by first | decide | simp) (by first | decide | simp))]; exact h4
    · rw [l _ (v2 (by first | decide | simp) (by first | decide | simp))]; exact h5
    · rw [l _ (v2 (by first | decide | simp) (by first | decide | simp))]; exact h6
    · rw [l _ (v2 (by first | decide | simp) (by first | decide | simp))]; exact h7
    · rw [l _ (v2 (by first | decide | simp) (by first | decide | simp))]; exact h8
    · rw [l _ (v4 (by first | decide | simp) (by first | decide | simp) (by first | decide | simp))]; exact h9
    · rw [l _ (v4 (by first | decide | simp) (by first | decide | simp) (by first | decide | simp))]; exact h10
    · rw [l _ (v7 ht (by first | decide | simp)), l _ (v7 ht (by first | decide | simp)), l _ (v7 ht (by first | decide | simp))]; exact h11 t ht
    · rw [l _ (v8 hw' (by first | decide | simp)), l _ (v8 hw' (by first | decide | simp))]; exact h12 w hw'
    · rw [l _ (v0 hc (by first | decide | simp))]; exact h13 c hc
    · rw [l _ (v4 (by first | decide | simp) (by first | decide | simp) (by first | decide | simp))]; exact h15
    · rw [l _ (v4 (by first | decide | simp) (by first | decide | simp) (by first | decide | simp))]; exact h16
    · rw [l _ (v2 (by first | decide | simp) (by first | decide | simp))]; exact h17
    · rw [l _ (v4 (by first | decide | simp) (by first | decide | simp) (by first | decide | simp))]; exact h18
    · rw [l _ (v2 (by first | decide | simp) (by first | decide | simp))]; exact c1
    · unfold Ow
      rw [l _ (v1 (by first | decide | simp))]
      rcases c2 with c2 | ⟨s, b1, b2, b3⟩
      · exact Or.inl c2
      · exact Or.inr ⟨s, b1, b2, by rw [l _ (v5 b1 (by first | decide | simp) (by first | decide | simp))]; exact b3⟩
    · rw [l _ (v1 (by first | decide | simp)), l _ (v1 (by first | decide | simp)), l _ (v1 (by first | decide | simp))]
      exact c3
    · rw [l _ (v5 (by first | decide | simp) (by first | decide | simp) (by first | decide | simp)), l _ (v5 (by first | decide | simp) (by first | decide | simp) (by first | decide | simp))]
      exact c4
    · rw [l _ (v8 hw' (by first | decide | simp)), l _ (v8 hw' (by first | decide | simp)), l _ (v8 hw' (by first | decide | simp)), l _ (v8 hw' (by first | decide | simp))]
      exact hw w hw'
    · unfold Lt at *
      rw [l _ (v5 (by first | decide | simp) (by first | decide | simp) (by first | decide | simp)), l _ (v5 (by first | decide | simp) (by first | decide | simp) (by first | decide | simp)), l _ (v5 (by first | decide | simp) (by first | decide | simp) (by first | decide | simp))]
      exact hlt
  · dsimp only
    by_cases q : sp (cA i) = false
    · rw [if_pos q, hl _ (vldB_X ((mapA i hi).resolve_left (by rw [q]; decide))), h.1.1 _ q]
    · rw [if_neg q]
  · dsimp only
    rw [if_pos (mapS i hi).1, hl _ (vldB_X (mapS i hi).2.1), h.1.1 _ (mapS i hi).1]
  · rw [hl2 _ (mapL i hi), h.1.2]
theorem hasC.view {c : Nat} {M : Mem} {L : LM} (h1 : ∀ x : Cl, cvK x.1 = true → L.1 x = M.1 (x.1, c, x.2.2) x.2.1) (h2 : ∀ x : Cl, cvK x.1 = true → L.2 x = M.2.1 (x.1, c, x.2.2) x.2.1) : hasC c M L := by
  unfold hasC putC
  refine Prod.ext (funext fun o => funext fun k => ?_) (Prod.ext (funext fun o => funext fun k => ?_) rfl)
  · dsimp only
    split
    · rename_i h
      obtain ⟨o1, o2, o3⟩ := o
      have e : o2 = c := h.2
      subst e
      exact h1 (o1, k, o3) h.1
    · rfl
  · dsimp only
    split
    · rename_i h
      obtain ⟨o1, o2, o3⟩ := o
      have e : o2 = c := h.2
      subst e
      exact h2 (o1, k, o3) h.1
    · rfl
/-- the masks of all rings -/
def Msk (M : Mem) : Prop := ∀ c, c < 6 → ∀ j, j < 3 → M.1 (4, c, j) 1 = nI (rk j - 1)
/-- what a copied converter holds -/
theorem R.copy {t u a c : Nat} {M M' : Mem} {L V : LM} (h : R t u L V) (hC : hasC c M L) (hk : CP vld vldL a c M M') (hm : ∀ j, j < 3 → M.1 (4, a, j) 1 = nI (rk j - 1)) :
    ∃ L' V', hasC a M' L' ∧ M' = putC a M L' ∧ R t u L' V' ∧ (∀ i, i < 472 → V'.1 (cA i) = V.1 (cA i)) ∧ (∀ i, i < 52 → V'.1 (cS i) = V.1 (cS i)) ∧ (∀ i, i < 10 → V'.2 (cL i) = V.2 (cL i)) := by
  obtain ⟨k1, k2, k3, k4, k5, k6, k7⟩ := hk
  have hcv : ∀ x, vld x → cvK x.1 = true := by
    rintro ⟨x1, x2, x3⟩ (q | q | q | q | q | q | q | q | q) <;> (obtain ⟨q, _⟩ := q; dsimp only at q ⊢; rw [q]; rfl)
  have hcl : ∀ x, vldL x → cvK x.1 = true := by
    rintro ⟨x1, x2, x3⟩ (q | q) <;> (obtain ⟨q, _⟩ := q; dsimp only at q ⊢; rw [q]; rfl)
  have hx : ∀ x : Cl, cvK x.1 = true → ¬ (x.1 = 30 ∨ x.1 = 31) := by
    rintro x hx (q | q) <;> (rw [q] at hx; cases hx)
  have hA : hasC a M' (fun x => if x.1 = 30 ∨ x.1 = 31 then L.1 x else M'.1 (x.1, a, x.2.2) x.2.1, fun x => M'.2.1 (x.1, a, x.2.2) x.2.1) := hasC.view (fun x hx' => if_neg (hx x hx')) (fun x _ => rfl)
  have hmk : MkC (fun x => if x.1 = 30 ∨ x.1 = 31 then L.1 x else M'.1 (x.1, a, x.2.2) x.2.1, fun x => M'.2.1 (x.1, a, x.2.2) x.2.1) := by
    intro j hj
    show (if (4 : Nat) = 30 ∨ (4 : Nat) = 31 then L.1 (4, 1, j) else M'.1 (4, a, j) 1) = _
    rw [if_neg (by first | decide | simp)]
    rcases k3 (4, a, j) 1 rfl with q | q
    · rw [q]; exact hm j hj
    · exact absurd ⟨rfl, rfl⟩ q.2
  obtain ⟨V', w1, w2, w3, w4⟩ := h.cong (L' := (fun x => if x.1 = 30 ∨ x.1 = 31 then L.1 x else M'.1 (x.1, a, x.2.2) x.2.1, fun x => M'.2.1 (x.1, a, x.2.2) x.2.1)) (fun x hx' => by
    rcases hx' with q | q
    · dsimp only
      rw [if_neg (hx x (hcv x q))]
      obtain ⟨x1, x2, x3⟩ := x
      rw [k1 (x1, a, x3) x2 rfl q]
      exact hC.I (hcv (x1, x2, x3) q)
    · exact if_pos q) (fun x hx' => by
    obtain ⟨x1, x2, x3⟩ := x
    dsimp only
    rw [k4 (x1, a, x3) x2 rfl hx']
    exact hC.L (hcl (x1, x2, x3) hx')) hmk
  refine ⟨_, V', hA, ?_, w1, w2, w3, w4⟩
  have e := hA
  unfold hasC at e
  refine e.symm.trans ?_
  unfold putC
  refine Prod.ext (funext fun o => funext fun k => ?_) (Prod.ext (funext fun o => funext fun k => ?_) k7)
  · dsimp only
    by_cases q : cvK o.1 = true ∧ o.2.1 = a
    · rw [if_pos q, if_pos q]
    · rw [if_neg q, if_neg q]
      refine k2 o k ?_
      by_cases z : o.2.1 = a
      · refine Or.inr ?_
        cases hh : cvK o.1 with
        | false => rfl
        | true => exact absurd ⟨hh, z⟩ q
      · exact Or.inl z
  · dsimp only
    by_cases q : cvK o.1 = true ∧ o.2.1 = a
    · rw [if_pos q, if_pos q]
    · rw [if_neg q, if_neg q]
      refine k5 o k ?_
      by_cases z : o.2.1 = a
      · refine Or.inr ?_
        cases hh : cvK o.1 with
        | false => rfl
        | true => exact absurd ⟨hh, z⟩ q
      · exact Or.inl z
/-- the booleans of a converter in the relation -/
theorem R.bzc {t u c : Nat} {M : Mem} {L V : LM} (h : R t u L V) (hC : hasC c M L) : BzC c M := by
  obtain ⟨hE, ⟨h1, h2, h3, h4, h5, h6, h7, h8, h9, h10, h11, h12, h13, h14, h15, h16, h17, h18⟩, hc, hs0, hs1, hw, hlt, hr0, hr1⟩ := h
  refine ⟨fun w hw' => ⟨?_, ?_⟩, fun j hj => ?_, fun j hj => ?_, ?_, ?_, ?_⟩
  · rw [hC.I rfl]; exact (h12 w hw').1
  · rw [hC.I rfl]; exact (hw w hw').elim (fun q => Or.inl q.1) (fun q => Or.inr q.1)
  · rw [hC.I rfl]
    rcases (show j = 0 ∨ j = 1 by omega) with rfl | rfl
    · obtain ⟨p, n, o, k, s1, s2, s3, s4, s5, _⟩ := hs0; exact s5
    · obtain ⟨p, n, o, k, s1, s2, s3, s4, s5, _⟩ := hs1; exact s5
  · rw [hC.I rfl]
    rcases (show j = 0 ∨ j = 1 ∨ j = 2 by omega) with rfl | rfl | rfl
    · exact h10
    · exact Or.inr h16
    · exact Or.inl h18
  · rw [hC.I rfl]; exact h6
  · rw [hC.I rfl]; exact h7
  · rw [hC.I rfl]; exact h8
