/-! ===== statements: the short ones ===== -/
def fw : Nat → Bool := fun w => match w with | 1 => true | 2 => true | 3 => true | 4 => true | 5 => true | 6 => true | 9 => true | 10 => true | _ => false
def kn (w : Nat) : Nat := [0, 6, 7, 8, 9, 10, 11, 14, 19, 22, 24, 1, 2, 3, 4, 5, 12, 13, 15, 16, 17, 18, 20, 21, 23].getD w 0
def MS (M N : Mem) (L : LM) : Prop := Mk 26 (M.1 (3, 0, 0) 4) (fun w => fw w = true ∧ ¬ N.1 (36, 0, 0) (kn w) = 0) ∧ Mk 8 (M.1 (3, 0, 0) 5) (fun c => ¬ N.1 (37, 0, 0) c = 0) ∧ Mk 3 (M.1 (3, 0, 0) 6) (fun i => L.1 (8, 0, i) = 1) ∧ Mk 4 (M.1 (3, 0, 0) 7) (fun t => ¬ N.1 (38, 0, 0) t = 0)
def PT (len p k w : Nat) (M N : Mem) (L V : LM) : Prop := TS len p k w M N ∧ hasC 2 M L ∧ hasM 4 52 N V ∧ Q L V ∧ MS M N L
theorem cv_63 {a : Nat} (h : cvK a = true) : ∀ c j, ((a, c, j) : Oid) ≠ (6, 0, 0) ∧ ((a, c, j) : Oid) ≠ (3, 0, 0) := fun c j => ⟨fun q => (by cases q; cases h), fun q => (by cases q; cases h)⟩
theorem hasC.s {M M' : Mem} {L : LM} (h : hasC 2 M L) (k : SC M M') : hasC 2 M' L := h.eq (fun a j f ha => k.1 _ _ (cv_63 ha _ _).1 (Or.inl (cv_63 ha _ _).2)) (fun a j f ha => k.2.2.1 _ _ (cv_63 ha _ _).1)
theorem hasM.s {N N' : Mem} {V : LM} (h : hasM 4 52 N V) (k : SM N N') : hasM 4 52 N' V := h.eq (fun i hi => k.1 _ _ (by simp)) (fun i hi => k.1 _ _ (by simp)) (fun i hi => by rw [k.2.2])
theorem hasC.u {M : Mem} {L : LM} {k j f : Nat} {x : Int32} (h : hasC 2 M L) (hk : cvK k = true) : hasC 2 (uI M (k, 2, j) f x) (wI L (k, f, j) x) := by
  have e := uI_putC (k := k) (c := 2) (j := j) (f := f) (x := x) (M := M) (L := L) hk
  rw [show putC 2 M L = M from h] at e
  rw [e]
  exact hasC.new
theorem hasC.u0 {M : Mem} {L : LM} {o : Oid} {f : Nat} {x : Int32} (h : hasC 2 M L) (hk : cvK o.1 = false) : hasC 2 (uI M o f x) L := h.ui (fun q => by rw [hk] at q; cases q)
theorem hasM.uA {N : Mem} {V : LM} {i : Nat} {x : Int32} (h : hasM 4 52 N V) (hi : i < 472) : hasM 4 52 (uI N (32, 0, 0) (1888 + i) x) (wI V (cA i) x) := by
  have e := wrA (β := 4) (σ := 52) (N := N) (V := V) (x := x) hi
  rw [show putM 4 52 N V = N from h] at e
  rw [show 1888 + i = 472 * 4 + i by omega, e]
  exact hasM.new
theorem hasM.uS {N : Mem} {V : LM} {i : Nat} {x : Int32} (h : hasM 4 52 N V) (hi : i < 52) : hasM 4 52 (uI N (31, 0, 0) (52 + i) x) (wI V (cS i) x) := by
  have e := wrS (β := 4) (σ := 52) (N := N) (V := V) (x := x) hi
  rw [show putM 4 52 N V = N from h] at e
  rw [e]
  exact hasM.new
theorem MS.of {M M' N N' : Mem} {L L' : LM} (h : MS M N L) (h1 : ∀ k, (k = 4 ∨ k = 5 ∨ k = 6 ∨ k = 7) → M'.1 (3, 0, 0) k = M.1 (3, 0, 0) k) (h2 : ∀ o k, (o.1 = 36 ∨ o.1 = 37 ∨ o.1 = 38) → N'.1 o k = N.1 o k) (h3 : ∀ i, L'.1 (8, 0, i) = L.1 (8, 0, i)) : MS M' N' L' := by
  obtain ⟨a, b, c, d⟩ := h
  refine ⟨?_, ?_, ?_, ?_⟩
  · rw [h1 4 (by simp)]
    exact a.iff (fun i _ => by rw [h2 _ _ (Or.inl rfl)])
  · rw [h1 5 (by simp)]
    exact b.iff (fun i _ => by rw [h2 _ _ (Or.inr (Or.inl rfl))])
  · rw [h1 6 (by simp)]
    exact c.iff (fun i _ => by rw [h3])
  · rw [h1 7 (by simp)]
    exact d.iff (fun i _ => by rw [h2 _ _ (Or.inr (Or.inr rfl))])
theorem MS.s {M M' N N' : Mem} {L : LM} (h : MS M N L) (k : SC M M') (m : SM N N') : MS M' N' L := h.of (fun f hf => k.1 _ _ (by simp) (Or.inr hf)) (fun o f ho => m.1 _ _ (fun q => by rw [q] at ho; revert ho; decide)) (fun _ => rfl)
/-- writes beside tokens and masks -/
def LC (M M' : Mem) : Prop := (∀ k, M'.1 (6, 0, 0) k = M.1 (6, 0, 0) k) ∧ (∀ k, M'.1 (3, 0, 0) k = M.1 (3, 0, 0) k) ∧ FC M M'
def LN (N N' : Mem) : Prop := (∀ k, N'.1 (10, 0, 0) k = N.1 (10, 0, 0) k) ∧ (∀ o k, (o.1 = 36 ∨ o.1 = 37 ∨ o.1 = 38) → N'.1 o k = N.1 o k) ∧ FM N N'
theorem LC.refl (M : Mem) : LC M M := ⟨fun _ => rfl, fun _ => rfl, FC.refl M⟩
theorem LN.refl (M : Mem) : LN M M := ⟨fun _ => rfl, fun _ _ _ => rfl, FM.refl M⟩
theorem LC.trans {M M' M'' : Mem} (h : LC M M') (k : LC M' M'') : LC M M'' := ⟨fun f => (k.1 f).trans (h.1 f), fun f => (k.2.1 f).trans (h.2.1 f), h.2.2.trans k.2.2⟩
theorem LN.trans {M M' M'' : Mem} (h : LN M M') (k : LN M' M'') : LN M M'' := ⟨fun f => (k.1 f).trans (h.1 f), fun o f q => (k.2.1 o f q).trans (h.2.1 o f q), h.2.2.trans k.2.2⟩
theorem LC.u {M : Mem} {a j f : Nat} {x : Int32} (ha : cvK a = true) (h : ¬ (a = 4 ∧ f = 1)) : LC M (uI M (a, 2, j) f x) := ⟨fun k => uI_no (fun q => by have q' : 6 = a := q; rw [← q'] at ha; cases ha), fun k => uI_no (fun q => by have q' : 3 = a := q; rw [← q'] at ha; cases ha), FC.u (Or.inr (Or.inr ⟨ha, rfl, h⟩))⟩
theorem LN.A {N : Mem} {k : Nat} {x : Int32} (h : 1888 ≤ k) : LN N (uI N (32, 0, 0) k x) := ⟨fun f => uI_no (by simp), fun o f q => uI_no (fun z => by rw [z] at q; revert q; decide), FM.u (Or.inr (Or.inr (Or.inl ⟨rfl, h⟩)))⟩
theorem LN.S {N : Mem} {k : Nat} {x : Int32} (h : 52 ≤ k) : LN N (uI N (31, 0, 0) k x) := ⟨fun f => uI_no (by simp), fun o f q => uI_no (fun z => by rw [z] at q; revert q; decide), FM.u (Or.inr (Or.inl ⟨rfl, h⟩))⟩
theorem TS.l {len p k w : Nat} {M N M' N' : Mem} (h : TS len p k w M N) (c : LC M M') (m : LN N N') : TS len p k w M' N' := by
  obtain ⟨hs, ⟨s, ht⟩, h16⟩ := h
  exact ⟨hs.fr c.2.2 m.2.2 (c.2.1 8) (c.2.1 9) (m.1 17), ⟨s, (ht.c c.1).m (fun k _ => m.1 k)⟩, by rw [m.1]; exact h16⟩
theorem MS.l {M M' N N' : Mem} {L L' : LM} (h : MS M N L) (c : LC M M') (m : LN N N') (h3 : ∀ i, L'.1 (8, 0, i) = L.1 (8, 0, i)) : MS M' N' L' := h.of (fun k _ => c.2.1 k) m.2.1 h3
theorem Fb.l {M M' N N' : Mem} (h : Fb M N) (c : LC M M') (m : LN N N') : Fb M' N' := ⟨by rw [c.2.1, m.1]; exact h.1, by rw [c.2.1, m.1]; exact h.2.1, by rw [m.1]; exact h.2.2⟩
theorem LN.n {N N' : Mem} (h : LN N N') : FN N N' := ⟨h.2.2, h.1 16, h.1 17⟩
/-- the outcome of a statement before its semicolon -/
def BodyO (len p : Nat) (c : Option (Int32 × Mem)) (M' N' : Mem) : Prop :=
  (c = some (1, M') ∧ ∃ p' k' w' L' V', PT len p' k' w' M' N' L' V' ∧ p ≤ p') ∨ (c = some (0, M') ∧ Fb M' N') ∨ (c = some (1, M') ∧ M'.1 (6, 0, 0) 5 = 4 ∧ N'.1 (10, 0, 0) 16 = 1 ∧ N'.1 (10, 0, 0) 17 = M'.1 (6, 0, 0) 4)
theorem zlo {wd : Nat} (h : wLeast.getD wd 0 = 0) : ∀ v : Nat, v ≤ 99999 → (wLeast.getD wd 0 ≤ nI v ↔ 0 ≤ v) := fun v hv => ⟨fun _ => Nat.zero_le v, fun _ => by rw [h]; exact nI_pos' (by omega)⟩
theorem olo {wd lo : Nat} (h : wLeast.getD wd 0 = nI lo) (hl : lo < 2 ^ 31) : ∀ v : Nat, v ≤ 99999 → (wLeast.getD wd 0 ≤ nI v ↔ lo ≤ v) := fun v hv => by rw [h]; exact lo_iff hl (by omega)
theorem m0 {k : Nat} {M : Mem} {lo hi : Nat} : ∀ v : Nat, k = 2 → M.1 (6, 0, 0) 6 = nI v → lo ≤ v → v ≤ hi → (((0 : Int32) >>> (nI v &&& 31)) &&& 1) = 0 := fun v _ _ _ _ => by
  have e : ∀ y : Int32, (0 : Int32) >>> y = 0 := fun y => Int32.zero_shiftRight
  rw [e]
  rfl
/-- a number goes into a cell on both sides -/
theorem B_num {len p k w lo hi wd : Nat} {a : Cl} {M N : Mem} {L V : LM} {W : Mem → Int32 → Mem} (h : PT len p k w M N L V) (hlo : wLeast.getD wd 0 = nI lo) (hhi : wMost.getD wd 0 = nI hi) (hb : hi < 2 ^ 31) (hl : lo < 2 ^ 31) (ha : stb a = true) (h8 : ¬ (a.1 = 8 ∧ a.2.1 = 0)) (h4 : ¬ (a.1 = 4 ∧ a.2.1 = 1)) (hcv : cvK a.1 = true)
    (hS : ∀ v, lo ≤ v → v ≤ hi → St (wI L a (nI v))) (hW : ∀ N x, LN N (W N x) ∧ (hasM 4 52 N V → hasM 4 52 (W N x) (wI V a x))) :
    ∃ M' r N', f_X12_readNumber (nI lo) (nI hi) N = some (r, N') ∧ ((f_X4_takeNumber wd 0 M = some (1, M') ∧ ∃ v p' k' w', lo ≤ v ∧ v ≤ hi ∧ M'.1 (3, 0, 0) 3 = nI v ∧ PT len p' k' w' (uI M' (a.1, 2, a.2.2) a.2.1 (nI v)) (W N' r) (wI L a (nI v)) (wI V a (nI v)) ∧ p ≤ p' ∧ FC M (uI M' (a.1, 2, a.2.2) a.2.1 (nI v)) ∧ FM N (W N' r)) ∨ (f_X4_takeNumber wd 0 M = some (0, M') ∧ Fb M' (W N' r) ∧ FC M M' ∧ FM N (W N' r))) := by
  obtain ⟨hT, hC, hM, hQ, hK⟩ := h
  obtain ⟨M', r, N', t1, t2, t3, t4⟩ := TN (x2 := 0) hT (olo hlo hl) hhi hb hl m0
  refine ⟨M', r, N', t1, ?_⟩
  rcases t4 with ⟨c, v, p', k', w', v1, v2, rfl, v3, v4, v5, v6⟩ | ⟨c, fb⟩
  · have c1 : LC M' (uI M' (a.1, 2, a.2.2) a.2.1 (nI v)) := LC.u hcv h4
    obtain ⟨n1, n2⟩ := hW N' (nI v)
    exact Or.inl ⟨c, v, p', k', w', v1, v2, v3, ⟨v4.l c1 n1, (hC.s t2).u hcv, n2 (hM.s t3), hQ.w ha (hS v v1 v2), (hK.s t2 t3).l c1 n1 (fun i => by rw [rdw, if_neg (fun q => h8 (by rw [← q]; exact ⟨rfl, rfl⟩))])⟩, v5, t2.2.trans c1.2.2, t3.2.trans n1.2.2⟩
  · obtain ⟨n1, _⟩ := hW N' r
    exact Or.inr ⟨c, fb.n n1.n, t2.2, t3.2.trans n1.2.2⟩
theorem W_A {i : Nat} {a : Cl} {V : LM} (e : cA i = a) (hi : i < 472) : ∀ N x, LN N (uI N (32, 0, 0) (1888 + i) x) ∧ (hasM 4 52 N V → hasM 4 52 (uI N (32, 0, 0) (1888 + i) x) (wI V a x)) := fun N x => ⟨LN.A (by omega), fun h => by rw [← e]; exact h.uA hi⟩
theorem W_S {i : Nat} {a : Cl} {V : LM} (e : cS i = a) (hi : i < 52) : ∀ N x, LN N (uI N (31, 0, 0) (52 + i) x) ∧ (hasM 4 52 N V → hasM 4 52 (uI N (31, 0, 0) (52 + i) x) (wI V a x)) := fun N x => ⟨LN.S (by omega), fun h => by rw [← e]; exact h.uS hi⟩
