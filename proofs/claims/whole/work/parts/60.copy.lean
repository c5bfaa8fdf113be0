/-! ===== copies of a converter: what holds of all its cells ===== -/
def CP (S SL : Cl → Prop) (a c : Nat) (M M' : Mem) : Prop :=
  (∀ o k, o.2.1 = a → S (o.1, k, o.2.2) → M'.1 o k = M.1 (o.1, c, o.2.2) k) ∧ (∀ o k, (o.2.1 ≠ a ∨ cvK o.1 = false) → M'.1 o k = M.1 o k) ∧ (∀ o k, o.2.1 = a → (M'.1 o k = M.1 o k ∨ (M'.1 o k = M.1 (o.1, c, o.2.2) k ∧ ¬ (o.1 = 4 ∧ k = 1)))) ∧
  (∀ o k, o.2.1 = a → SL (o.1, k, o.2.2) → M'.2.1 o k = M.2.1 (o.1, c, o.2.2) k) ∧ (∀ o k, (o.2.1 ≠ a ∨ cvK o.1 = false) → M'.2.1 o k = M.2.1 o k) ∧ (∀ o k, o.2.1 = a → (M'.2.1 o k = M.2.1 o k ∨ M'.2.1 o k = M.2.1 (o.1, c, o.2.2) k)) ∧ M'.2.2 = M.2.2
theorem CP.u {a c x f j : Nat} {M : Mem} (h41 : ¬ (x = 4 ∧ f = 1) := by decide) (hx : cvK x = true := by rfl) : CP (fun y => y = (x, f, j)) (fun _ => False) a c M (uI M (x, a, j) f (M.1 (x, c, j) f)) := by
  refine ⟨fun o k h1 h2 => ?_, fun o k h => ?_, fun o k h => ?_, fun _ _ _ h => absurd h id, fun _ _ _ => rfl, fun _ _ _ => Or.inl rfl, rfl⟩
  · obtain ⟨o1, o2, o3⟩ := o
    have h1' : o2 = a := h1
    have h2' : (o1, k, o3) = (x, f, j) := h2
    simp only [Prod.mk.injEq] at h2'
    obtain ⟨e1, e2, e3⟩ := h2'
    subst h1' e1 e2 e3
    exact uI_at
  · unfold uI
    exact if_neg (fun q => by rcases h with h | h; exact h (by rw [q.1]); rw [q.1, hx] at h; cases h)
  · by_cases q : o = (x, a, j) ∧ k = f
    · obtain ⟨q1, q2⟩ := q
      subst q1 q2
      exact Or.inr ⟨uI_at, h41⟩
    · exact Or.inl (if_neg q)
theorem CP.ul {a c x f j : Nat} {M : Mem} (hx : cvK x = true := by rfl) : CP (fun _ => False) (fun y => y = (x, f, j)) a c M (uL M (x, a, j) f (M.2.1 (x, c, j) f)) := by
  refine ⟨fun _ _ _ h => absurd h id, fun _ _ _ => rfl, fun _ _ _ => Or.inl rfl, fun o k h1 h2 => ?_, fun o k h => ?_, fun o k h => ?_, rfl⟩
  · obtain ⟨o1, o2, o3⟩ := o
    have h1' : o2 = a := h1
    have h2' : (o1, k, o3) = (x, f, j) := h2
    simp only [Prod.mk.injEq] at h2'
    obtain ⟨e1, e2, e3⟩ := h2'
    subst h1' e1 e2 e3
    unfold uL
    exact if_pos ⟨rfl, rfl⟩
  · unfold uL
    exact if_neg (fun q => by rcases h with h | h; exact h (by rw [q.1]); rw [q.1, hx] at h; cases h)
  · by_cases q : o = (x, a, j) ∧ k = f
    · obtain ⟨q1, q2⟩ := q
      subst q1 q2
      exact Or.inr (if_pos ⟨rfl, rfl⟩)
    · exact Or.inl (if_neg q)
theorem CP.c {a c x j n : Nat} {M : Mem} (h4 : x ≠ 4 := by decide) (hx : cvK x = true := by rfl) : CP (fun y => y.1 = x ∧ y.2.2 = j ∧ y.2.1 < n) (fun _ => False) a c M (uC M (x, c, j) (x, a, j) n) := by
  refine ⟨fun o k h1 h2 => ?_, fun o k h => ?_, fun o k h => ?_, fun _ _ _ h => absurd h id, fun _ _ _ => rfl, fun _ _ _ => Or.inl rfl, rfl⟩
  · obtain ⟨o1, o2, o3⟩ := o
    have h1' : o2 = a := h1
    have e1 : o1 = x := h2.1
    have e2 : o3 = j := h2.2.1
    have e3 : k < n := h2.2.2
    subst h1' e1 e2
    unfold uC
    exact if_pos ⟨rfl, e3⟩
  · unfold uC
    exact if_neg (fun q => by rcases h with h | h; exact h (by rw [q.1]); rw [q.1, hx] at h; cases h)
  · by_cases q : o = (x, a, j) ∧ k < n
    · obtain ⟨q1, q2⟩ := q
      subst q1
      exact Or.inr ⟨if_pos ⟨rfl, q2⟩, fun z => h4 z.1⟩
    · exact Or.inl (if_neg q)
theorem CP.trans {S SL S2 SL2 : Cl → Prop} {a c : Nat} {M M' M'' : Mem} (hac : c ≠ a) (h : CP S SL a c M M') (k : CP S2 SL2 a c M' M'') : CP (fun x => S2 x ∨ S x) (fun x => SL2 x ∨ SL x) a c M M'' := by
  obtain ⟨h1, h2, h3, h4, h5, h6, h7⟩ := h
  obtain ⟨k1, k2, k3, k4, k5, k6, k7⟩ := k
  refine ⟨fun o q e1 e2 => ?_, fun o q e1 => (k2 o q e1).trans (h2 o q e1), fun o q e1 => ?_, fun o q e1 e2 => ?_, fun o q e1 => (k5 o q e1).trans (h5 o q e1), fun o q e1 => ?_, k7.trans h7⟩
  · rcases e2 with e2 | e2
    · rw [k1 o q e1 e2, h2 _ _ (Or.inl hac)]
    · rcases k3 o q e1 with e3 | e3
      · rw [e3, h1 o q e1 e2]
      · rw [e3.1, h2 _ _ (Or.inl hac)]
  · rcases k3 o q e1 with e3 | e3
    · rw [e3]; exact h3 o q e1
    · exact Or.inr ⟨by rw [e3.1, h2 _ _ (Or.inl hac)], e3.2⟩
  · rcases e2 with e2 | e2
    · rw [k4 o q e1 e2, h5 _ _ (Or.inl hac)]
    · rcases k6 o q e1 with e3 | e3
      · rw [e3, h4 o q e1 e2]
      · rw [e3, h5 _ _ (Or.inl hac)]
  · rcases k6 o q e1 with e3 | e3
    · rw [e3]; exact h6 o q e1
    · exact Or.inr (by rw [e3, h5 _ _ (Or.inl hac)])
theorem CP.refl {a c : Nat} {M : Mem} : CP (fun _ => False) (fun _ => False) a c M M := ⟨fun _ _ _ h => absurd h id, fun _ _ _ => rfl, fun _ _ _ => Or.inl rfl, fun _ _ _ h => absurd h id, fun _ _ _ => rfl, fun _ _ _ => Or.inl rfl, rfl⟩
theorem CP.iff {S SL S2 SL2 : Cl → Prop} {a c : Nat} {M M' : Mem} (h : CP S SL a c M M') (e : ∀ x, S2 x → S x) (l : ∀ x, SL2 x → SL x) : CP S2 SL2 a c M M' :=
  ⟨fun o k h1 h2 => h.1 o k h1 (e _ h2), h.2.1, h.2.2.1, fun o k h1 h2 => h.2.2.2.1 o k h1 (l _ h2), h.2.2.2.2.1, h.2.2.2.2.2.1, h.2.2.2.2.2.2⟩
def fl_ (x j : Nat) (p : Nat → Prop) : Cl → Prop := fun y => y.1 = x ∧ y.2.2 = j ∧ p y.2.1
theorem cp_X1 {a c j : Nat} {M : Mem} (h : c ≠ a) : ∃ M', f_X1_copyFrom a j c j M = some ((), M') ∧ CP (fl_ 0 j (fun f => f < 8)) (fl_ 0 j (fun f => f = 8)) a c M M' := by
  unfold f_X1_copyFrom
  dsimp only [nm]
  refine ⟨_, rfl, ?_⟩
  refine CP.iff (CP.trans h (CP.trans h (CP.trans h (CP.trans h (CP.trans h (CP.trans h (CP.trans h (CP.trans h CP.u CP.u) CP.u) CP.u) CP.u) CP.u) CP.u) CP.u) CP.ul) (fun x hx => ?_) (fun x hx => ?_)
  · obtain ⟨x1, x2, x3⟩ := x
    obtain ⟨rfl, rfl, h3⟩ := (show x1 = 0 ∧ x3 = j ∧ x2 < 8 from hx)
    rcases (show x2 = 0 ∨ x2 = 1 ∨ x2 = 2 ∨ x2 = 3 ∨ x2 = 4 ∨ x2 = 5 ∨ x2 = 6 ∨ x2 = 7 by omega) with rfl | rfl | rfl | rfl | rfl | rfl | rfl | rfl <;> simp
  · obtain ⟨x1, x2, x3⟩ := x
    obtain ⟨rfl, rfl, h3⟩ := (show x1 = 0 ∧ x3 = j ∧ x2 = 8 from hx)
    subst h3
    simp
theorem cp_X2 {a c : Nat} {M : Mem} (h : c ≠ a) : ∃ M', f_X2_copyFrom a c M = some ((), M') ∧ CP (fl_ 1 0 (fun f => f < 6)) (fun _ => False) a c M M' := by
  unfold f_X2_copyFrom
  dsimp only [nm]
  refine ⟨_, rfl, ?_⟩
  refine CP.iff (CP.trans h (CP.trans h (CP.trans h (CP.trans h (CP.trans h CP.u CP.u) CP.u) CP.u) CP.u) CP.u) (fun x hx => ?_) (fun x hx => absurd hx id)
  obtain ⟨x1, x2, x3⟩ := x
  obtain ⟨rfl, rfl, h3⟩ := (show x1 = 1 ∧ x3 = 0 ∧ x2 < 6 from hx)
  rcases (show x2 = 0 ∨ x2 = 1 ∨ x2 = 2 ∨ x2 = 3 ∨ x2 = 4 ∨ x2 = 5 by omega) with rfl | rfl | rfl | rfl | rfl | rfl <;> simp
theorem cp_X8 {a c j : Nat} {M : Mem} (h : c ≠ a) : ∃ M', f_X8_copyFrom a j c j M = some ((), M') ∧ CP (fl_ 7 j (fun f => f < 5)) (fun _ => False) a c M M' := by
  unfold f_X8_copyFrom
  dsimp only [nm]
  refine ⟨_, rfl, ?_⟩
  refine CP.iff (CP.trans h (CP.trans h (CP.trans h (CP.trans h CP.u CP.u) CP.u) CP.u) CP.u) (fun x hx => ?_) (fun x hx => absurd hx id)
  obtain ⟨x1, x2, x3⟩ := x
  obtain ⟨rfl, rfl, h3⟩ := (show x1 = 7 ∧ x3 = j ∧ x2 < 5 from hx)
  rcases (show x2 = 0 ∨ x2 = 1 ∨ x2 = 2 ∨ x2 = 3 ∨ x2 = 4 by omega) with rfl | rfl | rfl | rfl | rfl <;> simp
theorem nbz {x : Int32} (h : bz x) : ¬ ¬ (x = 0 ∨ x = 1) := fun q => q h
theorem uI_o {o q : Oid} {k f : Nat} {x : Int32} {M : Mem} (h : q.2.1 ≠ o.2.1) : (uI M o k x).1 q f = M.1 q f := by
  unfold uI
  exact if_neg (fun z => h (by rw [z.1]))
theorem uC_o {o q r : Oid} {n f : Nat} {M : Mem} (h : r.2.1 ≠ q.2.1) : (uC M o q n).1 r f = M.1 r f := by
  unfold uC
  exact if_neg (fun z => h (by rw [z.1]))
theorem cp_X9 {a c j : Nat} {M : Mem} (h : c ≠ a) (b0 : bz (M.1 (8, c, j) 0)) (b6 : bz (M.1 (8, c, j) 6)) : ∃ M', f_X9_copyFrom a j c j M = some ((), M') ∧ CP (fl_ 8 j (fun f => f < 10)) (fun _ => False) a c M M' := by
  unfold f_X9_copyFrom
  dsimp only [nm]
  have r : ∀ (N : Mem) (f : Nat) (x : Int32), (uI N (8, a, j) f x).1 (8, c, j) 6 = N.1 (8, c, j) 6 := fun N f x => uI_o h
  rw [if_neg (nbz b0), if_neg (by rw [r, r, r, r, r, r]; exact nbz b6)]
  refine ⟨_, rfl, ?_⟩
  refine CP.iff (CP.trans h (CP.trans h (CP.trans h (CP.trans h (CP.trans h (CP.trans h (CP.trans h (CP.trans h (CP.trans h CP.u CP.u) CP.u) CP.u) CP.u) CP.u) CP.u) CP.u) CP.u) CP.u) (fun x hx => ?_) (fun x hx => absurd hx id)
  obtain ⟨x1, x2, x3⟩ := x
  obtain ⟨rfl, rfl, h3⟩ := (show x1 = 8 ∧ x3 = j ∧ x2 < 10 from hx)
  rcases (show x2 = 0 ∨ x2 = 1 ∨ x2 = 2 ∨ x2 = 3 ∨ x2 = 4 ∨ x2 = 5 ∨ x2 = 6 ∨ x2 = 7 ∨ x2 = 8 ∨ x2 = 9 by omega) with rfl | rfl | rfl | rfl | rfl | rfl | rfl | rfl | rfl | rfl <;> simp
theorem cp_X5 {a c j : Nat} {M : Mem} (h : c ≠ a) (hj : j < 3) (b3 : bz (M.1 (4, c, j) 3)) : ∃ M', f_X5_copyFrom a j c j M = some ((), M') ∧ CP (fun x => fl_ 4 j (fun f => 2 ≤ f ∧ f < 7) x ∨ fl_ 21 j (fun f => f < 4 * rk j) x) (fun _ => False) a c M M' := by
  unfold f_X5_copyFrom
  dsimp only [nm]
  have ea : (akO (21, a, j)).2 = 4 * rk j := rk_cap (j := j)
  have ec : (akO (21, c, j)).2 = 4 * rk j := rk_cap (j := j)
  rw [ea, ec, if_neg (Nat.lt_irrefl _), if_neg (by rw [uI_o h, uC_o h]; exact nbz b3)]
  refine ⟨_, rfl, ?_⟩
  refine CP.iff (CP.trans h (CP.trans h (CP.trans h (CP.trans h (CP.trans h CP.c CP.u) CP.u) CP.u) CP.u) CP.u) (fun x hx => ?_) (fun x hx => absurd hx id)
  obtain ⟨x1, x2, x3⟩ := x
  rcases hx with hx | hx
  · obtain ⟨rfl, rfl, h3, h4⟩ := (show x1 = 4 ∧ x3 = j ∧ 2 ≤ x2 ∧ x2 < 7 from hx)
    rcases (show x2 = 2 ∨ x2 = 3 ∨ x2 = 4 ∨ x2 = 5 ∨ x2 = 6 by omega) with rfl | rfl | rfl | rfl | rfl <;> simp
  · exact Or.inr (Or.inr (Or.inr (Or.inr (Or.inr hx))))
theorem cp_X6 {a c j : Nat} {M : Mem} (h : c ≠ a) (hj : j < 2) (b3 : bz (M.1 (5, c, j) 3)) : ∃ M', f_X6_copyFrom a j c j M = some ((), M') ∧ CP (fun x => fl_ 5 j (fun f => 1 ≤ f ∧ f < 12) x ∨ fl_ 20 j (fun f => f < capE j) x) (fl_ 5 j (fun f => f = 12)) a c M M' := by
  unfold f_X6_copyFrom
  dsimp only [nm]
  have ea : ∀ a, (akO (20, a, j)).2 = capE j := fun a => by
    rcases (show j = 0 ∨ j = 1 by omega) with rfl | rfl <;> rfl
  rw [ea, ea, if_neg (Nat.lt_irrefl _), if_neg (by rw [uI_o h, uI_o h, uC_o h]; exact nbz b3)]
  refine ⟨_, rfl, ?_⟩
  refine CP.iff (CP.trans h (CP.trans h (CP.trans h (CP.trans h (CP.trans h (CP.trans h (CP.trans h (CP.trans h (CP.trans h (CP.trans h (CP.trans h (CP.trans h CP.c CP.u) CP.u) CP.u) CP.u) CP.u) CP.u) CP.u) CP.u) CP.u) CP.u) CP.u) CP.ul) (fun x hx => ?_) (fun x hx => ?_)
  · obtain ⟨x1, x2, x3⟩ := x
    rcases hx with hx | hx
    · obtain ⟨rfl, rfl, h3, h4⟩ := (show x1 = 5 ∧ x3 = j ∧ 1 ≤ x2 ∧ x2 < 12 from hx)
      rcases (show x2 = 1 ∨ x2 = 2 ∨ x2 = 3 ∨ x2 = 4 ∨ x2 = 5 ∨ x2 = 6 ∨ x2 = 7 ∨ x2 = 8 ∨ x2 = 9 ∨ x2 = 10 ∨ x2 = 11 by omega) with rfl | rfl | rfl | rfl | rfl | rfl | rfl | rfl | rfl | rfl | rfl <;> simp
    · exact Or.inr (Or.inr (Or.inr (Or.inr (Or.inr (Or.inr (Or.inr (Or.inr (Or.inr (Or.inr (Or.inr (Or.inr hx)))))))))))
  · obtain ⟨x1, x2, x3⟩ := x
    obtain ⟨rfl, rfl, h3⟩ := (show x1 = 5 ∧ x3 = j ∧ x2 = 12 from hx)
    subst h3
    simp
/-- the booleans of a converter are 0 or 1 -/
def BzC (c : Nat) (M : Mem) : Prop := (∀ w, w < 3 → bz (M.1 (8, c, w) 0) ∧ bz (M.1 (8, c, w) 6)) ∧ (∀ j, j < 2 → bz (M.1 (5, c, j) 3)) ∧ (∀ j, j < 3 → bz (M.1 (4, c, j) 3)) ∧ bz (M.1 (2, c, 0) 9) ∧ bz (M.1 (2, c, 0) 10) ∧ bz (M.1 (2, c, 0) 11)
theorem BzC.of {S SL : Cl → Prop} {a c : Nat} {M M' : Mem} (h : BzC c M) (hac : c ≠ a) (k : CP S SL a c M M') : BzC c M' := by
  have r : ∀ o f, o.2.1 = c → M'.1 o f = M.1 o f := fun o f ho => k.2.1 o f (Or.inl (fun q => hac (ho.symm.trans q)))
  refine ⟨fun w hw => ?_, fun j hj => ?_, fun j hj => ?_, ?_, ?_, ?_⟩
  · rw [r _ _ rfl, r _ _ rfl]; exact h.1 w hw
  · rw [r _ _ rfl]; exact h.2.1 j hj
  · rw [r _ _ rfl]; exact h.2.2.1 j hj
  · rw [r _ _ rfl]; exact h.2.2.2.1
  · rw [r _ _ rfl]; exact h.2.2.2.2.1
  · rw [r _ _ rfl]; exact h.2.2.2.2.2
/-- the cells that are copied -/
def vld : Cl → Prop := fun y =>
  (y.1 = 0 ∧ y.2.2 < 8 ∧ y.2.1 < 8) ∨ (y.1 = 1 ∧ y.2.2 = 0 ∧ y.2.1 < 6) ∨ (y.1 = 2 ∧ y.2.2 = 0 ∧ 9 ≤ y.2.1 ∧ y.2.1 < 17) ∨ (y.1 = 4 ∧ y.2.2 < 3 ∧ 2 ≤ y.2.1 ∧ y.2.1 < 7) ∨ (y.1 = 5 ∧ y.2.2 < 2 ∧ 1 ≤ y.2.1 ∧ y.2.1 < 12) ∨
  (y.1 = 7 ∧ y.2.2 < 4 ∧ y.2.1 < 5) ∨ (y.1 = 8 ∧ y.2.2 < 3 ∧ y.2.1 < 10) ∨ (y.1 = 20 ∧ y.2.2 < 2 ∧ y.2.1 < capE y.2.2) ∨ (y.1 = 21 ∧ y.2.2 < 3 ∧ y.2.1 < 4 * rk y.2.2)
def vldL : Cl → Prop := fun y => (y.1 = 0 ∧ y.2.2 < 8 ∧ y.2.1 = 8) ∨ (y.1 = 5 ∧ y.2.2 < 2 ∧ y.2.1 = 12)
theorem cp_loop1 {a c : Nat} (h : c ≠ a) : ∀ (m i n : Nat) (M : Mem), i + m = 8 → m < n → ∃ M', f_X3_copyFrom_2 n a c (nI i) M = f_X3_copyFrom_31 fuelN a c 0 M' ∧ CP (fun y => y.1 = 0 ∧ i ≤ y.2.2 ∧ y.2.2 < 8 ∧ y.2.1 < 8) (fun y => y.1 = 0 ∧ i ≤ y.2.2 ∧ y.2.2 < 8 ∧ y.2.1 = 8) a c M M' := by
  intro m
  induction m with
  | zero =>
    intro i n M hi hn
    obtain ⟨n, rfl⟩ : ∃ k, n = k + 1 := ⟨n - 1, by omega⟩
    refine ⟨M, ?_, CP.refl.iff (fun y q => absurd q.2.1 (by omega)) (fun y q => absurd q.2.1 (by omega))⟩
    rw [show f_X3_copyFrom_2 (n + 1) a c (nI i) M = _ from Eq.trans (by unfold f_X3_copyFrom_2; exact rfl) rfl, if_pos (show (8 : Int32) ≤ nI i by rw [show i = 8 by omega]; decide)]
  | succ m ih =>
    intro i n M hi hn
    obtain ⟨n, rfl⟩ : ∃ k, n = k + 1 := ⟨n - 1, by omega⟩
    obtain ⟨M1, e1, c1⟩ := cp_X1 (j := i) (M := M) h
    obtain ⟨M', e2, c2⟩ := ih (i + 1) n M1 (by omega) (by omega)
    refine ⟨M', ?_, (CP.trans h c1 c2).iff (fun y q => ?_) (fun y q => ?_)⟩
    · rw [show f_X3_copyFrom_2 (n + 1) a c (nI i) M = _ from Eq.trans (by unfold f_X3_copyFrom_2; exact rfl) rfl, if_neg (show ¬ (8 : Int32) ≤ nI i from nI_ge (b := 8) (by omega) (by first | decide | simp)), if_neg (nbad (by omega) (by first | decide | simp)), if_neg (nbad (by omega) (by first | decide | simp)), nI_clamp (by omega), e1, bnd_some]
      dsimp only [nm]
      rw [nI_1, e2]
    · by_cases z : y.2.2 = i
      · exact Or.inr ⟨q.1, z, q.2.2.2⟩
      · exact Or.inl ⟨q.1, by omega, q.2.2⟩
    · by_cases z : y.2.2 = i
      · exact Or.inr ⟨q.1, z, q.2.2.2⟩
      · exact Or.inl ⟨q.1, by omega, q.2.2⟩
theorem cp_loop2 {a c : Nat} (h : c ≠ a) : ∀ (m i n : Nat) (M : Mem), i + m = 4 → m < n → ∃ M', f_X3_copyFrom_31 n a c (nI i) M = f_X3_copyFrom_59 fuelN a c 0 M' ∧ CP (fun y => y.1 = 7 ∧ i ≤ y.2.2 ∧ y.2.2 < 4 ∧ y.2.1 < 5) (fun _ => False) a c M M' := by
  intro m
  induction m with
  | zero =>
    intro i n M hi hn
    obtain ⟨n, rfl⟩ : ∃ k, n = k + 1 := ⟨n - 1, by omega⟩
    refine ⟨M, ?_, CP.refl.iff (fun y q => absurd q.2.1 (by omega)) (fun y q => q)⟩
    rw [show f_X3_copyFrom_31 (n + 1) a c (nI i) M = _ from Eq.trans (by unfold f_X3_copyFrom_31; exact rfl) rfl, if_pos (show (4 : Int32) ≤ nI i by rw [show i = 4 by omega]; decide)]
  | succ m ih =>
    intro i n M hi hn
    obtain ⟨n, rfl⟩ : ∃ k, n = k + 1 := ⟨n - 1, by omega⟩
    obtain ⟨M1, e1, c1⟩ := cp_X8 (j := i) (M := M) h
    obtain ⟨M', e2, c2⟩ := ih (i + 1) n M1 (by omega) (by omega)
    refine ⟨M', ?_, (CP.trans h c1 c2).iff (fun y q => ?_) (fun y q => absurd q id)⟩
    · rw [show f_X3_copyFrom_31 (n + 1) a c (nI i) M = _ from Eq.trans (by unfold f_X3_copyFrom_31; exact rfl) rfl, if_neg (show ¬ (4 : Int32) ≤ nI i from nI_ge (b := 4) (by omega) (by first | decide | simp)), if_neg (nbad (by omega) (by first | decide | simp)), if_neg (nbad (by omega) (by first | decide | simp)), nI_clamp (by omega), e1, bnd_some]
      dsimp only [nm]
      rw [nI_1, e2]
    · by_cases z : y.2.2 = i
      · exact Or.inr ⟨q.1, z, q.2.2.2⟩
      · exact Or.inl ⟨q.1, by omega, q.2.2⟩
def vldE : Cl → Prop := fun y => (y.1 = 1 ∧ y.2.2 = 0 ∧ y.2.1 < 6) ∨ (y.1 = 2 ∧ y.2.2 = 0 ∧ 9 ≤ y.2.1 ∧ y.2.1 < 17) ∨ (y.1 = 4 ∧ y.2.2 < 3 ∧ 2 ≤ y.2.1 ∧ y.2.1 < 7) ∨ (y.1 = 5 ∧ y.2.2 < 2 ∧ 1 ≤ y.2.1 ∧ y.2.1 < 12) ∨ (y.1 = 20 ∧ y.2.2 < 2 ∧ y.2.1 < capE y.2.2) ∨ (y.1 = 21 ∧ y.2.2 < 3 ∧ y.2.1 < 4 * rk y.2.2)
theorem cp_bools {a c : Nat} (h : c ≠ a) {M : Mem} (b9 : bz (M.1 (2, c, 0) 9)) (b10 : bz (M.1 (2, c, 0) 10)) (b11 : bz (M.1 (2, c, 0) 11)) : ∃ M', (if ¬ ((M.1 (2, c, 0) 9) = 0 ∨ (M.1 (2, c, 0) 9) = 1) then none else nm (uI M (2, a, 0) 9 (M.1 (2, c, 0) 9)) (fun M19 => if ¬ ((M19.1 (2, c, 0) 10) = 0 ∨ (M19.1 (2, c, 0) 10) = 1) then none else nm (uI M19 (2, a, 0) 10 (M19.1 (2, c, 0) 10)) (fun M20 => if ¬ ((M20.1 (2, c, 0) 11) = 0 ∨ (M20.1 (2, c, 0) 11) = 1) then none else nm (uI M20 (2, a, 0) 11 (M20.1 (2, c, 0) 11)) (fun M21 => nm (uI M21 (2, a, 0) 12 (M21.1 (2, c, 0) 12)) (fun M22 => nm (uI M22 (2, a, 0) 13 (M22.1 (2, c, 0) 13)) (fun M23 => nm (uI M23 (2, a, 0) 14 (M23.1 (2, c, 0) 14)) (fun M24 => nm (uI M24 (2, a, 0) 15 (M24.1 (2, c, 0) 15)) (fun M25 => nm (uI M25 (2, a, 0) 16 (M25.1 (2, c, 0) 16)) (fun M26 => some ((), M26)))))))))) = some ((), M') ∧ CP (fl_ 2 0 (fun f => 9 ≤ f ∧ f < 17)) (fun _ => False) a c M M' := by
  dsimp only [nm]
  have r : ∀ (N : Mem) (f g : Nat) (x : Int32), (uI N (2, a, 0) f x).1 (2, c, 0) g = N.1 (2, c, 0) g := fun N f g x => uI_o h
  rw [if_neg (nbz b9), if_neg (by rw [r]; exact nbz b10), if_neg (by rw [r, r]; exact nbz b11)]
  refine ⟨_, rfl, ?_⟩
  refine CP.iff (CP.trans h (CP.trans h (CP.trans h (CP.trans h (CP.trans h (CP.trans h (CP.trans h CP.u CP.u) CP.u) CP.u) CP.u) CP.u) CP.u) CP.u) (fun x hx => ?_) (fun x hx => absurd hx id)
  obtain ⟨x1, x2, x3⟩ := x
  obtain ⟨rfl, rfl, h3, h4⟩ := (show x1 = 2 ∧ x3 = 0 ∧ 9 ≤ x2 ∧ x2 < 17 from hx)
  rcases (show x2 = 9 ∨ x2 = 10 ∨ x2 = 11 ∨ x2 = 12 ∨ x2 = 13 ∨ x2 = 14 ∨ x2 = 15 ∨ x2 = 16 by omega) with rfl | rfl | rfl | rfl | rfl | rfl | rfl | rfl <;> simp
theorem cp_end {a c : Nat} (h : c ≠ a) {n : Nat} {x : Int32} {M : Mem} (hx : (3 : Int32) ≤ x) (hb : BzC c M) : ∃ M', f_X3_copyFrom_59 (n + 1) a c x M = some ((), M') ∧ CP vldE (fun y => y.1 = 5 ∧ y.2.2 < 2 ∧ y.2.1 = 12) a c M M' := by
  rw [show f_X3_copyFrom_59 (n + 1) a c x M = _ from Eq.trans (by unfold f_X3_copyFrom_59; exact rfl) rfl, if_pos hx]
  obtain ⟨M1, e1, c1⟩ := cp_X6 (j := 0) (M := M) h (by first | decide | simp) (hb.2.1 0 (by first | decide | simp))
  have b1 := hb.of h c1
  obtain ⟨M2, e2, c2⟩ := cp_X6 (j := 1) (M := M1) h (by first | decide | simp) (b1.2.1 1 (by first | decide | simp))
  have b2 := b1.of h c2
  obtain ⟨M3, e3, c3⟩ := cp_X2 (M := M2) h
  have b3 := b2.of h c3
  obtain ⟨M4, e4, c4⟩ := cp_X5 (j := 0) (M := M3) h (by first | decide | simp) (b3.2.2.1 0 (by first | decide | simp))
  have b4 := b3.of h c4
  obtain ⟨M5, e5, c5⟩ := cp_X5 (j := 1) (M := M4) h (by first | decide | simp) (b4.2.2.1 1 (by first | decide | simp))
  have b5 := b4.of h c5
  obtain ⟨M6, e6, c6⟩ := cp_X5 (j := 2) (M := M5) h (by first | decide | simp) (b5.2.2.1 2 (by first | decide | simp))
  have b6 := b5.of h c6
  obtain ⟨M7, e7, c7⟩ := cp_bools h b6.2.2.2.1 b6.2.2.2.2.1 b6.2.2.2.2.2
  rw [e1, bnd_some, e2, bnd_some, e3, bnd_some, e4, bnd_some, e5, bnd_some, e6, bnd_some]
  refine ⟨M7, e7, ?_⟩
  refine CP.iff (CP.trans h (CP.trans h (CP.trans h (CP.trans h (CP.trans h (CP.trans h c1 c2) c3) c4) c5) c6) c7) (fun y hy => ?_) (fun y hy => ?_)
  · obtain ⟨y1, y2, y3⟩ := y
    rcases hy with q | q | q | q | q | q
    · exact Or.inr (Or.inr (Or.inr (Or.inr (Or.inl q))))
    · exact Or.inl q
    · obtain ⟨q1, q2, q3⟩ := q
      rcases (show y3 = 0 ∨ y3 = 1 ∨ y3 = 2 by dsimp only at q2; omega) with z | z | z
      · exact Or.inr (Or.inr (Or.inr (Or.inl (Or.inl ⟨q1, z, q3⟩))))
      · exact Or.inr (Or.inr (Or.inl (Or.inl ⟨q1, z, q3⟩)))
      · exact Or.inr (Or.inl (Or.inl ⟨q1, z, q3⟩))
    · obtain ⟨q1, q2, q3⟩ := q
      rcases (show y3 = 0 ∨ y3 = 1 by dsimp only at q2; omega) with z | z
      · exact Or.inr (Or.inr (Or.inr (Or.inr (Or.inr (Or.inr (Or.inl ⟨q1, z, q3⟩))))))
      · exact Or.inr (Or.inr (Or.inr (Or.inr (Or.inr (Or.inl (Or.inl ⟨q1, z, q3⟩))))))
    · obtain ⟨q1, q2, q3⟩ := q
      rcases (show y3 = 0 ∨ y3 = 1 by dsimp only at q2; omega) with z | z
      · subst z; exact Or.inr (Or.inr (Or.inr (Or.inr (Or.inr (Or.inr (Or.inr ⟨q1, rfl, q3⟩))))))
      · subst z; exact Or.inr (Or.inr (Or.inr (Or.inr (Or.inr (Or.inl (Or.inr ⟨q1, rfl, q3⟩))))))
    · obtain ⟨q1, q2, q3⟩ := q
      rcases (show y3 = 0 ∨ y3 = 1 ∨ y3 = 2 by dsimp only at q2; omega) with z | z | z
      · subst z; exact Or.inr (Or.inr (Or.inr (Or.inl (Or.inr ⟨q1, rfl, q3⟩))))
      · subst z; exact Or.inr (Or.inr (Or.inl (Or.inr ⟨q1, rfl, q3⟩)))
      · subst z; exact Or.inr (Or.inl (Or.inr ⟨q1, rfl, q3⟩))
  · obtain ⟨y1, y2, y3⟩ := y
    obtain ⟨q1, q2, q3⟩ := hy
    rcases (show y3 = 0 ∨ y3 = 1 by dsimp only at q2; omega) with z | z
    · exact Or.inr (Or.inr (Or.inr (Or.inr (Or.inr (Or.inr ⟨q1, z, q3⟩)))))
    · exact Or.inr (Or.inr (Or.inr (Or.inr (Or.inr (Or.inl ⟨q1, z, q3⟩)))))
theorem cp_loop3 {a c : Nat} (h : c ≠ a) : ∀ (m i n : Nat) (M : Mem), i + m = 3 → m < n → BzC c M → ∃ M', f_X3_copyFrom_59 n a c (nI i) M = some ((), M') ∧ CP (fun y => (y.1 = 8 ∧ i ≤ y.2.2 ∧ y.2.2 < 3 ∧ y.2.1 < 10) ∨ vldE y) (fun y => y.1 = 5 ∧ y.2.2 < 2 ∧ y.2.1 = 12) a c M M' := by
  intro m
  induction m with
  | zero =>
    intro i n M hi hn hb
    obtain ⟨n, rfl⟩ : ∃ k, n = k + 1 := ⟨n - 1, by omega⟩
    obtain ⟨M', e, k⟩ := cp_end (n := n) (x := nI i) h (by rw [show i = 3 by omega]; decide) hb
    exact ⟨M', e, k.iff (fun y q => q.elim (fun z => absurd z.2.1 (by omega)) id) (fun y q => q)⟩
  | succ m ih =>
    intro i n M hi hn hb
    obtain ⟨n, rfl⟩ : ∃ k, n = k + 1 := ⟨n - 1, by omega⟩
    obtain ⟨M1, e1, c1⟩ := cp_X9 (j := i) (M := M) h (hb.1 i (by omega)).1 (hb.1 i (by omega)).2
    obtain ⟨M', e2, c2⟩ := ih (i + 1) n M1 (by omega) (by omega) (hb.of h c1)
    refine ⟨M', ?_, (CP.trans h c1 c2).iff (fun y q => ?_) (fun y q => Or.inl q)⟩
    · rw [show f_X3_copyFrom_59 (n + 1) a c (nI i) M = _ from Eq.trans (by unfold f_X3_copyFrom_59; exact rfl) rfl, if_neg (show ¬ (3 : Int32) ≤ nI i from nI_ge (b := 3) (by omega) (by first | decide | simp)), if_neg (nbad (by omega) (by first | decide | simp)), if_neg (nbad (by omega) (by first | decide | simp)), nI_clamp (by omega), e1, bnd_some]
      dsimp only [nm]
      rw [nI_1, e2]
    · rcases q with q | q
      · by_cases z : y.2.2 = i
        · exact Or.inr ⟨q.1, z, q.2.2.2⟩
        · exact Or.inl (Or.inl ⟨q.1, by omega, q.2.2⟩)
      · exact Or.inl (Or.inr q)
theorem cp_X3 {a c : Nat} (h : c ≠ a) {M : Mem} (hb : BzC c M) : ∃ M', f_X3_copyFrom a c M = some ((), M') ∧ CP vld vldL a c M M' := by
  unfold f_X3_copyFrom
  obtain ⟨M1, e1, c1⟩ := cp_loop1 h 8 0 fuelN M (by first | decide | simp) (by unfold fuelN; decide)
  obtain ⟨M2, e2, c2⟩ := cp_loop2 h 4 0 fuelN M1 (by first | decide | simp) (by unfold fuelN; decide)
  obtain ⟨M3, e3, c3⟩ := cp_loop3 h 3 0 fuelN M2 (by first | decide | simp) (by unfold fuelN; decide) ((hb.of h c1).of h c2)
  refine ⟨M3, e1.trans (e2.trans e3), (CP.trans h (CP.trans h c1 c2) c3).iff (fun y q => ?_) (fun y q => ?_)⟩
  · rcases q with q | q | q | q | q | q | q | q | q
    · exact Or.inr (Or.inr ⟨q.1, Nat.zero_le _, q.2⟩)
    · exact Or.inl (Or.inr (Or.inl q))
    · exact Or.inl (Or.inr (Or.inr (Or.inl q)))
    · exact Or.inl (Or.inr (Or.inr (Or.inr (Or.inl q))))
    · exact Or.inl (Or.inr (Or.inr (Or.inr (Or.inr (Or.inl q)))))
    · exact Or.inr (Or.inl ⟨q.1, Nat.zero_le _, q.2⟩)
    · exact Or.inl (Or.inl ⟨q.1, Nat.zero_le _, q.2⟩)
    · exact Or.inl (Or.inr (Or.inr (Or.inr (Or.inr (Or.inr (Or.inl q))))))
    · exact Or.inl (Or.inr (Or.inr (Or.inr (Or.inr (Or.inr (Or.inr q))))))
  · rcases q with q | q
    · exact Or.inr (Or.inr ⟨q.1, Nat.zero_le _, q.2⟩)
    · exact Or.inl q
