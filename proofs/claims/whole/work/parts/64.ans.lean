/-! ===== a call and its answer on both sides ===== -/
theorem i10 : ((1 : Int32) = 0) = False := by decide
theorem i20 : ((2 : Int32) = 0) = False := by decide
theorem i30 : ((3 : Int32) = 0) = False := by decide
theorem i01 : ((0 : Int32) = 1) = False := by decide
def EQ (E : Mem → Option (Int32 × Mem)) (V V' : LM) (v z : Int32) : Prop := ∀ N, N.1 (10, 0, 0) 7 = 0 → E (putM 0 0 N V) = some (v, putM 0 0 (uI N (10, 0, 0) 0 z) V')
theorem h7u {N : Mem} {z : Int32} (h : N.1 (10, 0, 0) 7 = 0) : (uI N (10, 0, 0) 0 z).1 (10, 0, 0) 7 = nI 0 := by
  unfold uI
  dsimp only
  rw [if_neg (fun q => absurd q.2 (by first | decide | simp))]
  exact h
def Ans (cd : Nat → Int32) (F : Option ((Int32 ⊕ Nat) × Mem)) (E : Mem → Option (Int32 × Mem)) (M : Mem) (B' : Nat) : Prop :=
  (∃ e b, F = some (.inr e, M) ∧ ¬ cd e = 0 ∧ E M = some (b, uI M (10, 0, 0) 0 (cd e)) ∧ Inv B' M) ∨
  (∃ v M1, F = some (.inl v, M1) ∧ ∀ w, ∃ M2, E (uL M1 (40, 0, 0) 0 w) = some (v, M2) ∧ M2.1 (10, 0, 0) 0 = 0 ∧ M2.2.1 (40, 0, 0) 0 = w ∧ Inv B' M2)
theorem InX.up {B B' t : Nat} {M : Mem} {L V : LM} (h : InX B M t L V) (hB : B ≤ B') : InX B' M t L V := ⟨by have := h.1; omega, h.2.1, h.2.2.1, h.2.2.2.1, (Kp.refl M).rest h.2.2.2.2 hB⟩
theorem InX.m {B t : Nat} {M : Mem} {L V : LM} (h : InX B M t L V) : putM 0 0 M V = M := h.2.2.1
theorem InX.h7 {B t : Nat} {M : Mem} {L V : LM} (h : InX B M t L V) : M.1 (10, 0, 0) 7 = 0 := h.2.2.2.2.1
theorem Ans.thr {cd : Nat → Int32} {F : Option ((Int32 ⊕ Nat) × Mem)} {E : Mem → Option (Int32 × Mem)} {M : Mem} {B B' t e : Nat} {L V : LM} {b : Int32} (h : InX B M t L V) (hB : B ≤ B') (hF : F = some (.inr e, M)) (hc : ¬ cd e = 0) (hE : EQ E V V b (cd e)) : Ans cd F E M B' := by
  refine Or.inl ⟨e, b, hF, hc, ?_, ⟨t, L, V, h.up hB⟩⟩
  have q := hE M h.h7
  rw [h.m, putM_uI (o := (10, 0, 0)) (by first | decide | simp) (by first | decide | simp), h.m] at q
  exact q
theorem ul40 {M : Mem} {w : Int64} : (uL M (40, 0, 0) 0 w).2.1 (40, 0, 0) 0 = w := by
  unfold uL
  dsimp only
  rw [if_pos ⟨rfl, rfl⟩]
theorem Ans.ro {cd : Nat → Int32} {F : Option ((Int32 ⊕ Nat) × Mem)} {E : Mem → Option (Int32 × Mem)} {M : Mem} {B B' t : Nat} {L V : LM} {v : Int32} (h : InX B M t L V) (hB : B ≤ B') (hF : F = some (.inl v, M)) (hE : EQ E V V v 0) : Ans cd F E M B' := by
  refine Or.inr ⟨v, M, hF, fun w => ?_⟩
  have h1 := h.ul (k := 0) w
  have q := hE _ h1.h7
  rw [h1.m, putM_uI (o := (10, 0, 0)) (by first | decide | simp) (by first | decide | simp), h1.m] at q
  exact ⟨_, q, uI_at, ul40, ⟨t, L, V, (h1.ui0 0).up hB⟩⟩
theorem InX.stepS {B B' t t' : Nat} {M : Mem} {L V L' V' : LM} (h : InX B M t L V) (hR : R t' t' L' V') (hB : B ≤ B') (ht : t' ≤ B') (s : ∀ i, i < 52 → V'.1 (cS i) = V.1 (cS i)) (w : Int64) : InX B' (putM 0 0 (uL (putC 1 M L') (40, 0, 0) 0 w) V') t' L' V' := by
  have hm : MkC L' := hR.2.1.2.2.2.2.2.2.2.2.2.2.2.2.2.1
  have k1 : Kp M (uL (putC 1 M L') (40, 0, 0) 0 w) := (Kp.c (by first | decide | simp) (by first | decide | simp) hm).trans Kp.ul40
  have k2 : Kp (uL (putC 1 M L') (40, 0, 0) 0 w) (putM 0 0 (uL (putC 1 M L') (40, 0, 0) 0 w) V') := Kp.m (Or.inl rfl) (fun i hi => by
    rw [s i hi, ← h.2.2.1.S hi]
    have e : (putC 1 M L').1 (31, 0, 0) (0 + i) = M.1 (31, 0, 0) (0 + i) := by
      exact putC_no rfl
    exact e.symm)
  exact ⟨ht, (hasC.new.ul (fun q => absurd q (by first | decide | simp))).m, hasM.new, hR, (k1.trans k2).rest h.2.2.2.2 hB⟩
theorem Ans.ch {cd : Nat → Int32} {F : Option ((Int32 ⊕ Nat) × Mem)} {E : Mem → Option (Int32 × Mem)} {M : Mem} {B B' t t' : Nat} {L V L' V' : LM} {v : Int32} (h : InX B M t L V) (hF : F = some (.inl v, putC 1 M L')) (hE : EQ E V V' v 0) (hR : R t' t' L' V') (hB : B ≤ B') (ht : t' ≤ B') (s : ∀ i, i < 52 → V'.1 (cS i) = V.1 (cS i)) : Ans cd F E M B' := by
  refine Or.inr ⟨v, putC 1 M L', hF, fun w => ?_⟩
  have hs := h.stepS hR hB ht s w
  have e1 : putM 0 0 (uL (putC 1 M L') (40, 0, 0) 0 w) V = uL (putC 1 M L') (40, 0, 0) 0 w := (h.2.2.1.c (c := 1) (L := L')).ul (by first | decide | simp)
  have h7 : (uL (putC 1 M L') (40, 0, 0) 0 w).1 (10, 0, 0) 7 = 0 := by
    show (putC 1 M L').1 (10, 0, 0) 7 = 0
    rw [putC_no rfl]; exact h.h7
  have q := hE _ h7
  rw [e1, putM_uI (o := (10, 0, 0)) (by first | decide | simp) (by first | decide | simp)] at q
  exact ⟨_, q, uI_at, by
    show (putM 0 0 (uL (putC 1 M L') (40, 0, 0) 0 w) V').2.1 (40, 0, 0) 0 = w
    unfold putM
    dsimp only
    rw [if_neg (fun z => absurd (congrArg Prod.fst z.1) (by first | decide | simp))]
    exact ul40, ⟨t', L', V', hs.ui0 0⟩⟩
/-! where a flag says which fails -/
theorem fz0 {N : Mem} {V : LM} : f_X12_fails 0 0 0 (putM 0 0 N V) = some (0, putM 0 0 (uI N (10, 0, 0) 0 0) V) := by
  rw [e_fails]
  unfold failN
  simp only [if_true, wr10]
theorem fz1 {N : Mem} {V : LM} {b c : Int32} : f_X12_fails 1 b c (putM 0 0 N V) = some (1, putM 0 0 (uI N (10, 0, 0) 0 1) V) := by
  rw [e_fails]
  unfold failN
  simp only [i10, if_false, wr10]
theorem fz2 {N : Mem} {V : LM} {c : Int32} : f_X12_fails 0 1 c (putM 0 0 N V) = some (1, putM 0 0 (uI N (10, 0, 0) 0 2) V) := by
  rw [e_fails]
  unfold failN
  simp only [i10, i20, if_true, if_false, wr10]
theorem fz3 {N : Mem} {V : LM} : f_X12_fails 0 0 1 (putM 0 0 N V) = some (1, putM 0 0 (uI N (10, 0, 0) 0 3) V) := by
  rw [e_fails]
  unfold failN
  simp only [i10, i30, if_true, if_false, wr10]
theorem iR1 {x lo hi : Int32} {M : Mem} (h : lo ≤ x ∧ x ≤ hi) : f_X12_inRange x lo hi M = some (1, M) := by rw [e_inRange, if_pos h]
theorem iR0 {x lo hi : Int32} {M : Mem} (h : ¬ (lo ≤ x ∧ x ≤ hi)) : f_X12_inRange x lo hi M = some (0, M) := by rw [e_inRange, if_neg h]
theorem isC1 {x : Int32} {M : Mem} (h : 0 ≤ x ∧ x ≤ 7) : f_X12_isChannel x M = some (1, M) := by
  unfold f_X12_isChannel
  rw [iR1 h, bnd_some, if_neg (by first | decide | simp)]
theorem isC0 {x : Int32} {M : Mem} (h : ¬ (0 ≤ x ∧ x ≤ 7)) : f_X12_isChannel x M = some (0, M) := by
  unfold f_X12_isChannel
  rw [iR0 h, bnd_some, if_neg (by first | decide | simp)]
theorem isT1 {x : Int32} {M : Mem} (h : 0 ≤ x ∧ x ≤ 3) : f_X12_isTrigger x M = some (1, M) := by
  unfold f_X12_isTrigger
  rw [iR1 h, bnd_some, if_neg (by first | decide | simp)]
theorem isT0 {x : Int32} {M : Mem} (h : ¬ (0 ≤ x ∧ x ≤ 3)) : f_X12_isTrigger x M = some (0, M) := by
  unfold f_X12_isTrigger
  rw [iR0 h, bnd_some, if_neg (by first | decide | simp)]
/-- in a range, by its number -/
theorem rng {x hi : Int32} {n : Nat} (hn : hi.toInt = n) (h : 0 ≤ x ∧ x ≤ hi) : ∃ j : Nat, j ≤ n ∧ x = nI j := nI_of2 hn (Int32.not_lt.mpr h.1) h.2
/-! what the class asks of its arguments -/
theorem al1 {w : Nat} {x : Int32} {M : Mem} (h : wLeast.getD w 0 ≤ x ∧ x ≤ wMost.getD w 0) : f_X10_allows w x M = some (1, M) := by
  unfold f_X10_allows
  rw [if_neg (Int32.not_lt.mpr h.1), if_neg (Int32.not_lt.mpr h.2)]
theorem al0 {w : Nat} {x : Int32} {M : Mem} (h : ¬ (wLeast.getD w 0 ≤ x ∧ x ≤ wMost.getD w 0)) : f_X10_allows w x M = some (0, M) := by
  unfold f_X10_allows f_X10_allows_20
  by_cases h1 : x < wLeast.getD w 0
  · rw [if_pos h1]
  · rw [if_neg h1, if_pos (Int32.not_le.mp (fun q => h ⟨Int32.not_lt.mp h1, q⟩))]
theorem bndX_l {ρ σ : Type} {v : ρ} {M : Mem} {k : ρ → Mem → Option ((σ ⊕ Nat) × Mem)} : bndX (some (.inl v, M)) k = k v M := Eq.trans rfl rfl
theorem bndX_r {ρ σ : Type} {e : Nat} {M : Mem} {k : ρ → Mem → Option ((σ ⊕ Nat) × Mem)} : bndX (some (.inr e, M)) k = some (.inr e, M) := Eq.trans rfl rfl
theorem rq_w1 {x m : Int32} {M : Mem} (h : 0 ≤ x ∧ x ≤ m) : f_X11_requireWhat x m M = some (.inl (), M) := by
  unfold f_X11_requireWhat
  rw [if_neg (Int32.not_lt.mpr h.1), if_pos h.2]
theorem rq_w0 {x m : Int32} {M : Mem} (h : ¬ (0 ≤ x ∧ x ≤ m)) : f_X11_requireWhat x m M = some (.inr 1, M) := by
  unfold f_X11_requireWhat
  by_cases h1 : x < 0
  · rw [if_pos h1]
  · rw [if_neg h1, if_neg (fun q => h ⟨Int32.not_lt.mp h1, q⟩)]
theorem rq_y1 {x m : Int32} {M : Mem} (h : 1 ≤ x ∧ x ≤ m) : f_X11_requireCycles x m M = some (.inl (), M) := by
  unfold f_X11_requireCycles
  rw [if_neg (Int32.not_lt.mpr h.1), if_pos h.2]
theorem rq_y0 {x m : Int32} {M : Mem} (h : ¬ (1 ≤ x ∧ x ≤ m)) : f_X11_requireCycles x m M = some (.inr 1, M) := by
  unfold f_X11_requireCycles
  by_cases h1 : x < 1
  · rw [if_pos h1]
  · rw [if_neg h1, if_neg (fun q => h ⟨Int32.not_lt.mp h1, q⟩)]
theorem rq_c1 {x : Int32} {M : Mem} (h : 0 ≤ x ∧ x ≤ 7) : f_X11_requireChannel x M = some (.inl (), M) := by
  unfold f_X11_requireChannel
  rw [al1 (w := 0) h, bnd_some, if_neg (by first | decide | simp)]
theorem rq_c0 {x : Int32} {M : Mem} (h : ¬ (0 ≤ x ∧ x ≤ 7)) : f_X11_requireChannel x M = some (.inr 2, M) := by
  unfold f_X11_requireChannel
  rw [al0 (w := 0) h, bnd_some, if_pos rfl]
theorem rq_t1 {x : Int32} {M : Mem} (h : 0 ≤ x ∧ x ≤ 3) : f_X11_requireTrigger x M = some (.inl (), M) := by
  unfold f_X11_requireTrigger
  rw [al1 (w := 8) h, bnd_some, if_neg (by first | decide | simp)]
theorem rq_t0 {x : Int32} {M : Mem} (h : ¬ (0 ≤ x ∧ x ≤ 3)) : f_X11_requireTrigger x M = some (.inr 2, M) := by
  unfold f_X11_requireTrigger
  rw [al0 (w := 8) h, bnd_some, if_pos rfl]
theorem rq_p1 {x : Int32} {M : Mem} (h : 0 ≤ x ∧ x ≤ 999) : f_X11_requirePace x M = some (.inl (), M) := by
  unfold f_X11_requirePace
  rw [al1 (w := 10) h, bnd_some, if_neg (by first | decide | simp)]
theorem rq_p0 {x : Int32} {M : Mem} (h : ¬ (0 ≤ x ∧ x ≤ 999)) : f_X11_requirePace x M = some (.inr 1, M) := by
  unfold f_X11_requirePace
  rw [al0 (w := 10) h, bnd_some, if_pos rfl]
/-- a window that was told -/
def Wt (L : LM) (x : Int32) : Prop := (0 ≤ x ∧ x ≤ 2) ∧ L.1 (8, 0, x.toNatClampNeg) = 1
theorem rq_n1 {x : Int32} {M : Mem} {L : LM} (hC : hasC 1 M L) (h : Wt L x) : f_X11_requireWindow x M = some (.inl (), M) := by
  obtain ⟨j, hj, rfl⟩ := rng (n := 2) (by first | decide | simp) h.1
  have h2 := h.2
  rw [nI_clamp (by omega)] at h2
  unfold f_X11_requireWindow
  rw [al1 (w := 7) h.1, bnd_some, if_neg (by first | decide | simp), if_neg (nbad (by omega) (by first | decide | simp)), nI_clamp (by omega), hC.I rfl, h2, if_neg (by first | decide | simp)]
theorem rq_n0 {x : Int32} {M : Mem} {L : LM} (hC : hasC 1 M L) (hb : ∀ w, w < 3 → bz (L.1 (8, 0, w))) (h : ¬ Wt L x) : f_X11_requireWindow x M = some (.inr 2, M) := by
  unfold f_X11_requireWindow
  by_cases h1 : 0 ≤ x ∧ x ≤ 2
  · obtain ⟨j, hj, rfl⟩ := rng (n := 2) (by first | decide | simp) h1
    rw [al1 (w := 7) h1, bnd_some, if_neg (by first | decide | simp), if_neg (nbad (by omega) (by first | decide | simp)), nI_clamp (by omega), hC.I rfl, if_pos]
    exact (hb j (by omega)).elim id (fun q => absurd ⟨h1, by rw [nI_clamp (by omega)]; exact q⟩ h)
  · rw [al0 (w := 7) h1, bnd_some, if_pos rfl]
theorem isW1 {x : Int32} {N : Mem} {V : LM} (h : Wt V x) : f_X12_isWindow x (putM 0 0 N V) = some (1, putM 0 0 N V) := by
  obtain ⟨j, hj, rfl⟩ := rng (n := 2) (by first | decide | simp) h.1
  have h2 := h.2
  rw [nI_clamp (by omega)] at h2
  unfold f_X12_isWindow
  rw [iR1 h.1, bnd_some, if_neg (by first | decide | simp), if_neg (of_eq_false (nbv_48 (by omega))), setv_48 (by omega), h2, if_pos rfl]
theorem isW0 {x : Int32} {N : Mem} {V : LM} (h : ¬ Wt V x) : f_X12_isWindow x (putM 0 0 N V) = some (0, putM 0 0 N V) := by
  unfold f_X12_isWindow f_X12_isWindow_26
  by_cases h1 : 0 ≤ x ∧ x ≤ 2
  · obtain ⟨j, hj, rfl⟩ := rng (n := 2) (by first | decide | simp) h1
    rw [iR1 h1, bnd_some, if_neg (by first | decide | simp), if_neg (of_eq_false (nbv_48 (by omega))), setv_48 (by omega), if_neg (fun q => h ⟨h1, by rw [nI_clamp (by omega)]; exact q⟩)]
  · rw [iR0 h1, bnd_some, if_pos rfl]
theorem Wt.eqq {L V : LM} {x : Int32} (h : Eqq L V) : Wt V x ↔ Wt L x := by
  unfold Wt
  rw [h.1 _ rfl]
