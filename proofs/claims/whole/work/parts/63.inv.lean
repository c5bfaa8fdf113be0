/-! ===== what holds between the calls ===== -/
def kwN : List Int64 := [3491182764, 639025541, 674093, 67173, 20332037, 542713316, 19503165490, 324610936996, 7945904, 122548619230899, 54927, 514226, 20194516, 365744, 781652471, 12791, 271592, 4370489, 494, 22088490162, 5969497, 215533, 18519717, 475764340, 525413]
/-- a byte on both sides -/
def Bt (b n : Int32) : Prop := ∃ v : Nat, v < 256 ∧ n = nI v ∧ b = Int8.toInt32 (Int32.toInt8 (nI v))
/-- a converter's first state -/
def iniL : Cl → Int32 := fun x => match x with
  | (0, 0, _) => 3 | (0, 4, _) => 1 | (0, 6, _) => -1 | (0, 7, _) => -1
  | (4, 2, j) => (match j with | 0 => 4 | 1 => 64 | _ => 4) | (4, 3, j) => (match j with | 1 => 1 | _ => 0)
  | (5, 6, _) => -1 | (5, 7, _) => -1 | (8, 7, _) => -1 | (8, 8, _) => -1 | (8, 9, _) => -1
  | _ => 0
def Stat (M : Mem) : Prop :=
  (∃ n, n ≤ 900 ∧ M.1 (6, 0, 0) 1 = nI n ∧ M.1 (10, 0, 0) 2 = nI n) ∧ (∀ i, i < 900 → Bt (M.1 (22, 0, 0) i) (M.1 (30, 0, 0) i)) ∧
  M.1 (3, 0, 0) 8 = M.1 (10, 0, 0) 16 ∧ M.1 (3, 0, 0) 9 = M.1 (10, 0, 0) 17 ∧
  (∀ x, vld x → M.1 (x.1, 0, x.2.2) x.2.1 = iniL x) ∧ (∀ x, vldL x → M.2.1 (x.1, 0, x.2.2) x.2.1 = 0) ∧
  (∀ i, i < 25 → M.2.1 (35, 0, 0) i = kwN.getD i 0)
def stk (o : Oid) (k : Nat) : Bool := match o.1 with
  | 6 => Nat.beq k 1 | 22 => true | 3 => true | 30 => true | 23 => true | 34 => true
  | 10 => !(Nat.beq k 0)
  | _ => cvK o.1 && Nat.beq o.2.1 0
def stl (o : Oid) : Bool := Nat.beq o.1 35 || (cvK o.1 && Nat.beq o.2.1 0)
theorem vld_cv {x : Cl} (h : vld x) : cvK x.1 = true := by
  obtain ⟨x1, x2, x3⟩ := x
  rcases h with q | q | q | q | q | q | q | q | q <;> (obtain ⟨q, _⟩ := q; dsimp only at q ⊢; rw [q]; rfl)
theorem vldL_cv {x : Cl} (h : vldL x) : cvK x.1 = true := by
  obtain ⟨x1, x2, x3⟩ := x
  rcases h with q | q <;> (obtain ⟨q, _⟩ := q; dsimp only at q ⊢; rw [q]; rfl)
theorem stk_cv {a b c k : Nat} (h : cvK a = true) : stk (a, 0, b) k = true := by
  unfold stk
  have e : (cvK a && Nat.beq 0 0) = true := by rw [h]; rfl
  dsimp only
  split <;> first | rfl | exact e | (exact absurd h (by first | decide | simp))
/-- the same but for live converter, draft and trial, tokens (but the length), blocks, the note of what was thrown, the law's own arrays -/
def Fr (M M' : Mem) : Prop := (∀ o k, stk o k = true → M'.1 o k = M.1 o k) ∧ (∀ o k, stl o = true → M'.2.1 o k = M.2.1 o k)
theorem Fr.refl (M : Mem) : Fr M M := ⟨fun _ _ _ => rfl, fun _ _ _ => rfl⟩
theorem Fr.trans {M M' M'' : Mem} (h : Fr M M') (k : Fr M' M'') : Fr M M'' := ⟨fun o i q => (k.1 o i q).trans (h.1 o i q), fun o i q => (k.2 o i q).trans (h.2 o i q)⟩
theorem Fr.stat {M M' : Mem} (h : Fr M M') (s : Stat M) : Stat M' := by
  obtain ⟨⟨n, n1, n2, n3⟩, s2, s3, s4, s5, s6, s7⟩ := s
  refine ⟨⟨n, n1, by rw [h.1 _ _ rfl]; exact n2, by rw [h.1 _ _ rfl]; exact n3⟩, fun i hi => by rw [h.1 _ _ rfl, h.1 _ _ rfl]; exact s2 i hi, by rw [h.1 _ _ rfl, h.1 _ _ rfl]; exact s3, by rw [h.1 _ _ rfl, h.1 _ _ rfl]; exact s4, fun x hx => ?_, fun x hx => ?_, fun i hi => by rw [h.2 _ _ rfl]; exact s7 i hi⟩
  · rw [h.1 _ _ (stk_cv (c := 0) (vld_cv hx))]; exact s5 x hx
  · rw [h.2 (x.1, 0, x.2.2) _ (by unfold stl; rw [vldL_cv hx]; simp)]; exact s6 x hx
theorem uI_no {M : Mem} {o q : Oid} {k f : Nat} {x : Int32} (h : q.1 ≠ o.1) : (uI M o k x).1 q f = M.1 q f := by
  unfold uI
  exact if_neg (fun z => h (congrArg Prod.fst z.1))
theorem Fr.c {M : Mem} {c : Nat} {L : LM} (hc : c ≠ 0) : Fr M (putC c M L) := by
  refine ⟨fun o k h => ?_, fun o k h => ?_⟩
  · refine if_neg (fun q => hc ?_)
    obtain ⟨o1, o2, o3⟩ := o
    obtain ⟨q1, q2⟩ := q
    dsimp only at q1 q2
    subst q2
    unfold stk at h
    dsimp only at h
    split at h <;> first | (cases q1; done) | (rw [q1] at h; exact Nat.eq_of_beq_eq_true (by simpa using h))
  · refine if_neg (fun q => hc ?_)
    obtain ⟨o1, o2, o3⟩ := o
    obtain ⟨q1, q2⟩ := q
    dsimp only at q1 q2
    subst q2
    unfold stl at h
    dsimp only at h
    rw [q1] at h
    by_cases z : o1 = 35
    · rw [z] at q1; cases q1
    · have z2 : Nat.beq o1 35 = false := by
        cases hb : Nat.beq o1 35 with
        | false => rfl
        | true => exact absurd (Nat.eq_of_beq_eq_true hb) z
      rw [z2] at h
      exact Nat.eq_of_beq_eq_true (by simpa using h)
theorem Fr.m {M : Mem} {β σ : Nat} {V : LM} : Fr M (putM β σ M V) := by
  refine ⟨fun o k h => ?_, fun o k h => ?_⟩
  · unfold putM
    dsimp only
    rw [if_neg (fun q => by rw [q.1] at h; cases h), if_neg (fun q => by rw [q.1] at h; cases h)]
  · unfold putM
    dsimp only
    rw [if_neg (fun q => by rw [q.1] at h; cases h)]
theorem Fr.ui {M : Mem} {o : Oid} {k : Nat} {x : Int32} (h : stk o k = false) : Fr M (uI M o k x) :=
  ⟨fun q f hq => if_neg (fun z => by rw [z.1, z.2, h] at hq; cases hq), fun _ _ _ => rfl⟩
theorem Fr.ul {M : Mem} {o : Oid} {k : Nat} {x : Int64} (h : stl o = false) : Fr M (uL M o k x) :=
  ⟨fun _ _ _ => rfl, fun q f hq => if_neg (fun z => by rw [z.1, h] at hq; cases hq)⟩
theorem Fr.ud {M : Mem} {o : Oid} {k : Nat} {x : UInt64} : Fr M (uD M o k x) := ⟨fun _ _ _ => rfl, fun _ _ _ => rfl⟩
def Slot (k B : Nat) (M : Mem) : Prop := M.1 (34, 0, 0) k = M.1 (23, 0, 0) k ∧ bz (M.1 (23, 0, 0) k) ∧ (¬ M.1 (23, 0, 0) k = 0 → ∃ t L V, t ≤ B ∧ hasC (3 + k) M L ∧ hasM (1 + k) 0 M V ∧ R t t L V)
def Rest (B : Nat) (M : Mem) : Prop := M.1 (10, 0, 0) 7 = 0 ∧ Slot 0 B M ∧ Slot 1 B M ∧ Msk M ∧ Stat M
/-- what a step must keep -/
def Kp (M M' : Mem) : Prop := Fr M M' ∧ (∀ k L, k < 2 → hasC (3 + k) M L → hasC (3 + k) M' L) ∧ (∀ k V, k < 2 → hasM (1 + k) 0 M V → hasM (1 + k) 0 M' V) ∧ (Msk M → Msk M')
theorem Kp.refl (M : Mem) : Kp M M := ⟨Fr.refl M, fun _ _ _ h => h, fun _ _ _ h => h, id⟩
theorem Kp.trans {M M' M'' : Mem} (h : Kp M M') (k : Kp M' M'') : Kp M M'' := ⟨h.1.trans k.1, fun i L hi q => k.2.1 i L hi (h.2.1 i L hi q), fun i V hi q => k.2.2.1 i V hi (h.2.2.1 i V hi q), fun q => k.2.2.2 (h.2.2.2 q)⟩
theorem Kp.rest {B B' : Nat} {M M' : Mem} (h : Kp M M') (r : Rest B M) (hB : B ≤ B') : Rest B' M' := by
  obtain ⟨r1, r2, r3, r4, r5⟩ := r
  have s : ∀ k, k < 2 → Slot k B M → Slot k B' M' := by
    rintro k hk ⟨q1, q2, q3⟩
    have e1 : M'.1 (34, 0, 0) k = M.1 (34, 0, 0) k := h.1.1 _ _ rfl
    have e2 : M'.1 (23, 0, 0) k = M.1 (23, 0, 0) k := h.1.1 _ _ rfl
    refine ⟨by rw [e1, e2]; exact q1, by rw [e2]; exact q2, fun q => ?_⟩
    rw [e2] at q
    obtain ⟨t, L, V, w1, w2, w3, w4⟩ := q3 q
    exact ⟨t, L, V, by omega, h.2.1 k L hk w2, h.2.2.1 k V hk w3, w4⟩
  exact ⟨by rw [h.1.1 _ _ rfl]; exact r1, s 0 (by first | decide | simp) r2, s 1 (by first | decide | simp) r3, h.2.2.2 r4, h.1.stat r5⟩
theorem Kp.c {M : Mem} {c : Nat} {L : LM} (h0 : c ≠ 0) (h3 : c < 3 ∨ c = 5) (hm : MkC L) : Kp M (putC c M L) := by
  refine ⟨Fr.c h0, fun k L' _ h => h.c (by omega), fun k V _ h => h.c, fun q d hd j hj => ?_⟩
  by_cases z : d = c
  · rw [z]
    show (if cvK 4 = true ∧ c = c then L.1 (4, 1, j) else _) = _
    rw [if_pos ⟨rfl, rfl⟩]
    exact hm j hj
  · show (if cvK 4 = true ∧ d = c then L.1 (4, 1, j) else M.1 (4, d, j) 1) = _
    rw [if_neg (fun q => z q.2)]
    exact q d hd j hj
theorem Kp.m {M : Mem} {β : Nat} {V : LM} (h : β = 0 ∨ β = 3) (hs : ∀ i, i < 52 → V.1 (cS i) = M.1 (31, 0, 0) (0 + i)) : Kp M (putM β 0 M V) := by
  refine ⟨Fr.m, fun k L _ h => h.m, fun k V' hk h' => h'.m (by omega) (fun i hi => by rw [hs i hi, h'.S hi]), fun q d hd j hj => ?_⟩
  rw [← q d hd j hj]
  unfold putM
  dsimp only
  rw [if_neg (fun z => absurd (congrArg Prod.fst z.1) (by first | decide | simp)), if_neg (fun z => absurd (congrArg Prod.fst z.1) (by first | decide | simp))]
theorem Kp.ui0 {M : Mem} {x : Int32} : Kp M (uI M (10, 0, 0) 0 x) := ⟨Fr.ui rfl, fun _ _ _ h => h.ui (fun q => absurd q (by first | decide | simp)), fun _ _ _ h => h.ui (by first | decide | simp) (by first | decide | simp), fun q c hc j hj => by
  rw [← q c hc j hj]
  exact uI_no (by simp)⟩
theorem Kp.ul40 {M : Mem} {k : Nat} {x : Int64} : Kp M (uL M (40, 0, 0) k x) := ⟨Fr.ul rfl, fun _ _ _ h => h.ul (fun q => absurd q (by first | decide | simp)), fun _ _ _ h => h.ul (by first | decide | simp), fun q => q⟩
theorem Kp.ud41 {M : Mem} {k : Nat} {x : UInt64} : Kp M (uD M (41, 0, 0) k x) := ⟨Fr.ud, fun _ _ _ h => h.ud, fun _ _ _ h => h.ud, fun q => q⟩
/-- the block's number is set and set back -/
theorem Kp.blk {M M' : Mem} {x : Int32} (h : Kp (uI M (10, 0, 0) 7 x) M') (h7 : M.1 (10, 0, 0) 7 = 0) : Kp M (uI M' (10, 0, 0) 7 0) := by
  refine ⟨⟨fun o k hk => ?_, fun o k hk => ?_⟩, fun k L hk q => (h.2.1 k L hk (q.ui (fun q => absurd q (by first | decide | simp)))).ui (fun q => absurd q (by first | decide | simp)), fun k V hk q => (h.2.2.1 k V hk (q.ui (by first | decide | simp) (by first | decide | simp))).ui (by first | decide | simp) (by first | decide | simp), fun q c hc j hj => ?_⟩
  · by_cases z : o = (10, 0, 0) ∧ k = 7
    · rw [z.1, z.2, h7]
      exact uI_at
    · rw [show (uI M' (10, 0, 0) 7 0).1 o k = M'.1 o k from if_neg z, h.1.1 o k hk]
      exact if_neg z
  · exact h.1.2 o k hk
  · rw [uI_no (by simp)]
    refine h.2.2.2 (fun c hc j hj => ?_) c hc j hj
    rw [← q c hc j hj]
    exact uI_no (by simp)
/-- all that holds: live converter L, block 0 V, cycle t -/
def InX (B : Nat) (M : Mem) (t : Nat) (L V : LM) : Prop := t ≤ B ∧ hasC 1 M L ∧ hasM 0 0 M V ∧ R t t L V ∧ Rest B M
def Inv (B : Nat) (M : Mem) : Prop := ∃ t L V, InX B M t L V
theorem InX.kp {B t : Nat} {M M' : Mem} {L V : LM} (h : InX B M t L V) (k : Kp M M') (h1 : hasC 1 M L → hasC 1 M' L) (h2 : hasM 0 0 M V → hasM 0 0 M' V) : InX B M' t L V := ⟨h.1, h1 h.2.1, h2 h.2.2.1, h.2.2.2.1, k.rest h.2.2.2.2 (Nat.le_refl B)⟩
theorem InX.ui0 {B t : Nat} {M : Mem} {L V : LM} (h : InX B M t L V) (x : Int32) : InX B (uI M (10, 0, 0) 0 x) t L V := h.kp Kp.ui0 (fun q => q.ui (fun q => absurd q (by first | decide | simp))) (fun q => q.ui (by first | decide | simp) (by first | decide | simp))
theorem InX.ul {B t k : Nat} {M : Mem} {L V : LM} (h : InX B M t L V) (x : Int64) : InX B (uL M (40, 0, 0) k x) t L V := h.kp Kp.ul40 (fun q => q.ul (fun q => absurd q (by first | decide | simp))) (fun q => q.ul (by first | decide | simp))
theorem InX.ud {B t k : Nat} {M : Mem} {L V : LM} (h : InX B M t L V) (x : UInt64) : InX B (uD M (41, 0, 0) k x) t L V := h.kp Kp.ud41 (fun q => q.ud) (fun q => q.ud)
theorem putC_no {c k : Nat} {o : Oid} {M : Mem} {L : LM} (h : cvK o.1 = false) : (putC c M L).1 o k = M.1 o k := by
  unfold putC
  dsimp only
  rw [if_neg (fun q => by rw [h] at q; cases q.1)]
/-- live converter and block 0 change together -/
theorem InX.step {B B' t t' : Nat} {M : Mem} {L V L' V' : LM} (h : InX B M t L V) (hR : R t' t' L' V') (hB : B ≤ B') (ht : t' ≤ B') (s : Stc L L') (w : Int64) : InX B' (putM 0 0 (uL (putC 1 M L') (40, 0, 0) 0 w) V') t' L' V' := by
  have hm : MkC L' := hR.2.1.2.2.2.2.2.2.2.2.2.2.2.2.2.1
  have k1 : Kp M (uL (putC 1 M L') (40, 0, 0) 0 w) := (Kp.c (by first | decide | simp) (by first | decide | simp) hm).trans Kp.ul40
  have k2 : Kp (uL (putC 1 M L') (40, 0, 0) 0 w) (putM 0 0 (uL (putC 1 M L') (40, 0, 0) 0 w) V') := Kp.m (Or.inl rfl) (fun i hi => by
    rw [h.2.2.2.1.stv hR s i hi, ← h.2.2.1.S hi]
    have e : (putC 1 M L').1 (31, 0, 0) (0 + i) = M.1 (31, 0, 0) (0 + i) := by
      exact putC_no rfl
    exact e.symm)
  exact ⟨ht, (hasC.new.ul (fun q => absurd q (by first | decide | simp))).m, hasM.new, hR, (k1.trans k2).rest h.2.2.2.2 hB⟩
