/-! ===== append and truncate ===== -/
/-- the cells on which all that holds between calls rests, the buffers aside -/
def kpI (o : Oid) (k : Nat) : Prop := (o.1 = 31 ∧ k < 52) ∨ (o.1 = 32 ∧ k < 1416) ∨ (o.1 = 10 ∧ k = 7) ∨ o.1 = 34 ∨ o.1 = 23 ∨ (cvK o.1 = true ∧ (o.2.1 = 1 ∨ o.2.1 = 3 ∨ o.2.1 = 4)) ∨ (o.1 = 4 ∧ k = 1)
def kpL (o : Oid) (k : Nat) : Prop := (o.1 = 33 ∧ k < 30) ∨ (cvK o.1 = true ∧ (o.2.1 = 1 ∨ o.2.1 = 3 ∨ o.2.1 = 4))
theorem kpI_cv {a c j k : Nat} (h : cvK a = true) (hc : c = 1 ∨ c = 3 ∨ c = 4) : kpI (a, c, j) k := Or.inr (Or.inr (Or.inr (Or.inr (Or.inr (Or.inl ⟨h, hc⟩)))))
theorem kpL_cv {a c j k : Nat} (h : cvK a = true) (hc : c = 1 ∨ c = 3 ∨ c = 4) : kpL (a, c, j) k := Or.inr ⟨h, hc⟩
theorem kpI_mk {c j : Nat} : kpI (4, c, j) 1 := Or.inr (Or.inr (Or.inr (Or.inr (Or.inr (Or.inr ⟨rfl, rfl⟩)))))
theorem kpI31 {k : Nat} (h : k < 52) : kpI (31, 0, 0) k := Or.inl ⟨rfl, h⟩
theorem kpI32 {k : Nat} (h : k < 1416) : kpI (32, 0, 0) k := Or.inr (Or.inl ⟨rfl, h⟩)
theorem kpI10 : kpI (10, 0, 0) 7 := Or.inr (Or.inr (Or.inl ⟨rfl, rfl⟩))
theorem kpI34 {k : Nat} : kpI (34, 0, 0) k := Or.inr (Or.inr (Or.inr (Or.inl rfl)))
theorem kpI23 {k : Nat} : kpI (23, 0, 0) k := Or.inr (Or.inr (Or.inr (Or.inr (Or.inl rfl))))
theorem kpL33 {k : Nat} (h : k < 30) : kpL (33, 0, 0) k := Or.inl ⟨rfl, h⟩
theorem kpI.ne {o q : Oid} {k : Nat} (h : kpI o k) (hq : q.1 = 9 ∨ q.1 = 22 ∨ q.1 = 30 ∨ q.1 = 3 ∨ q.1 = 6 ∨ q.1 = 36 ∨ q.1 = 37 ∨ q.1 = 38) : o ≠ q := by
  intro e
  subst e
  rcases h with ⟨h, _⟩ | ⟨h, _⟩ | ⟨h, _⟩ | h | h | ⟨h, _⟩ | ⟨h, _⟩
  · omega
  · omega
  · omega
  · omega
  · omega
  · rcases hq with e | e | e | e | e | e | e | e <;> (rw [e] at h; cases h)
  · omega
theorem kpI.n10 {o : Oid} {k f : Nat} (h : kpI o k) (hf : f ≠ 7) : ¬ (o = (10, 0, 0) ∧ k = f) := by
  rintro ⟨e, rfl⟩
  subst e
  rcases h with ⟨h, _⟩ | ⟨h, _⟩ | ⟨_, h⟩ | h | h | ⟨h, _⟩ | ⟨h, _⟩
  · cases h
  · cases h
  · exact hf h
  · cases h
  · cases h
  · cases h
  · cases h
theorem kpL.ne {o : Oid} {k : Nat} (h : kpL o k) : o ≠ (40, 0, 0) ∧ o ≠ (41, 0, 0) ∧ o ≠ (6, 0, 0) := by
  refine ⟨?_, ?_, ?_⟩ <;> (intro e; subst e; rcases h with ⟨h, _⟩ | ⟨h, _⟩ <;> cases h)
theorem hasC.eq {c : Nat} {M M' : Mem} {L : LM} (h : hasC c M L) (h1 : ∀ a j k, cvK a = true → M'.1 (a, c, j) k = M.1 (a, c, j) k) (h2 : ∀ a j k, cvK a = true → M'.2.1 (a, c, j) k = M.2.1 (a, c, j) k) : hasC c M' L :=
  hasC.view (fun x hx => by rw [h1 _ _ _ hx, h.I hx]) (fun x hx => by rw [h2 _ _ _ hx, h.L hx])
theorem hasM.view {β σ : Nat} {M : Mem} {V : LM} (hA : ∀ i, i < 472 → V.1 (cA i) = M.1 (32, 0, 0) (472 * β + i)) (hS : ∀ i, i < 52 → V.1 (cS i) = M.1 (31, 0, 0) (σ + i)) (hL : ∀ i, i < 10 → V.2 (cL i) = M.2.1 (33, 0, 0) (10 * β + i)) : hasM β σ M V := by
  unfold hasM putM
  refine Prod.ext (funext fun o => funext fun k => ?_) (Prod.ext (funext fun o => funext fun k => ?_) rfl)
  · dsimp only
    by_cases h : o = (32, 0, 0) ∧ 472 * β ≤ k ∧ k < 472 * β + 472
    · rw [if_pos h, h.1, hA _ (by omega), show 472 * β + (k - 472 * β) = k by omega]
    · rw [if_neg h]
      by_cases h2 : o = (31, 0, 0) ∧ σ ≤ k ∧ k < σ + 52
      · rw [if_pos h2, h2.1, hS _ (by omega), show σ + (k - σ) = k by omega]
      · rw [if_neg h2]
  · dsimp only
    by_cases h : o = (33, 0, 0) ∧ 10 * β ≤ k ∧ k < 10 * β + 10
    · rw [if_pos h, h.1, hL _ (by omega), show 10 * β + (k - 10 * β) = k by omega]
    · rw [if_neg h]
theorem hasM.eq {β σ : Nat} {M M' : Mem} {V : LM} (h : hasM β σ M V) (h1 : ∀ i, i < 472 → M'.1 (32, 0, 0) (472 * β + i) = M.1 (32, 0, 0) (472 * β + i)) (h2 : ∀ i, i < 52 → M'.1 (31, 0, 0) (σ + i) = M.1 (31, 0, 0) (σ + i)) (h3 : ∀ i, i < 10 → M'.2.1 (33, 0, 0) (10 * β + i) = M.2.1 (33, 0, 0) (10 * β + i)) : hasM β σ M' V :=
  hasM.view (fun i hi => by rw [h1 i hi, h.A hi]) (fun i hi => by rw [h2 i hi, h.S hi]) (fun i hi => by rw [h3 i hi, h.L hi])
theorem InX.eq {B t : Nat} {M M' : Mem} {L V : LM} (h : InX B M t L V) (hs : Stat M') (hI : ∀ o k, kpI o k → M'.1 o k = M.1 o k) (hL : ∀ o k, kpL o k → M'.2.1 o k = M.2.1 o k) : InX B M' t L V := by
  obtain ⟨hB, hC, hM, hR, r1, r2, r3, r4, r5⟩ := h
  have c : ∀ c X, (c = 1 ∨ c = 3 ∨ c = 4) → hasC c M X → hasC c M' X := fun c X hc hX => hX.eq (fun a j k ha => hI _ _ (kpI_cv ha hc)) (fun a j k ha => hL _ _ (kpL_cv ha hc))
  have m : ∀ β X, β < 3 → hasM β 0 M X → hasM β 0 M' X := fun β X hβ hX => hX.eq (fun i hi => hI _ _ (kpI32 (by omega))) (fun i hi => hI _ _ (kpI31 (by omega))) (fun i hi => hL _ _ (kpL33 (by omega)))
  have s : ∀ k, k < 2 → Slot k B M → Slot k B M' := by
    rintro k hk ⟨q1, q2, q3⟩
    have e1 : M'.1 (34, 0, 0) k = M.1 (34, 0, 0) k := hI _ _ kpI34
    have e2 : M'.1 (23, 0, 0) k = M.1 (23, 0, 0) k := hI _ _ kpI23
    refine ⟨by rw [e1, e2]; exact q1, by rw [e2]; exact q2, fun q => ?_⟩
    rw [e2] at q
    obtain ⟨t, L, V, w1, w2, w3, w4⟩ := q3 q
    exact ⟨t, L, V, w1, c _ _ (by omega) w2, m _ _ (by omega) w3, w4⟩
  exact ⟨hB, c _ _ (Or.inl rfl) hC, m _ _ (by first | decide | simp) hM, hR, by rw [hI (10, 0, 0) 7 kpI10]; exact r1, s 0 (by first | decide | simp) r2, s 1 (by first | decide | simp) r3, fun d hd j hj => by rw [hI (4, d, j) 1 kpI_mk]; exact r4 d hd j hj, hs⟩
/-- the same for what holds of the buffers and the first converter -/
theorem Stat.buf {M M' : Mem} (h : Stat M) {n : Nat} (hn : n ≤ 900) (h1 : M'.1 (6, 0, 0) 1 = nI n) (h2 : M'.1 (10, 0, 0) 2 = nI n) (hb : ∀ i, i < 900 → Bt (M'.1 (22, 0, 0) i) (M'.1 (30, 0, 0) i)) (h3 : M'.1 (3, 0, 0) 8 = M'.1 (10, 0, 0) 16) (h4 : M'.1 (3, 0, 0) 9 = M'.1 (10, 0, 0) 17) (hI : ∀ a j k, cvK a = true → M'.1 (a, 0, j) k = M.1 (a, 0, j) k) (hL : ∀ a j k, cvK a = true ∨ a = 35 → M'.2.1 (a, 0, j) k = M.2.1 (a, 0, j) k) : Stat M' := by
  obtain ⟨⟨m, n1, n2, n3⟩, s2, s3, s4, s5, s6, s7⟩ := h
  exact ⟨⟨n, hn, h1, h2⟩, hb, h3, h4, fun x hx => by rw [hI _ _ _ (vld_cv hx)]; exact s5 x hx, fun x hx => by rw [hL _ _ _ (Or.inl (vldL_cv hx))]; exact s6 x hx, fun i hi => by rw [hL _ _ _ (Or.inr rfl)]; exact s7 i hi⟩
theorem fzM1 {N : Mem} {V : LM} {b c : Int32} (h : hasM 0 0 N V) : f_X12_fails 1 b c N = some (1, uI N (10, 0, 0) 0 1) := by
  have q := fz1 (N := N) (V := V) (b := b) (c := c)
  rw [putM_uI (o := (10, 0, 0)) (by first | decide | simp) (by first | decide | simp), show putM 0 0 N V = N from h] at q
  exact q
theorem uI_q {M : Mem} {o q : Oid} {k f : Nat} {x : Int32} (h : ¬ (q = o ∧ f = k)) : (uI M o k x).1 q f = M.1 q f := if_neg h
theorem A_truncate {B t : Nat} {M : Mem} {L V : LM} (h : InX B M t L V) (y : Int32) : Ans (cd1 1) (f_X11_truncate y M) (f_X12_truncate y) M B := by
  have hs := h.2.2.2.2.2.2.2.2
  obtain ⟨n, hn, n1, n2⟩ := hs.1
  have sp : f_X11_truncate y M = if 0 ≤ y ∧ y ≤ nI n then some (.inl y, uI M (6, 0, 0) 1 y) else some (.inr 1, M) := by
    unfold f_X11_truncate
    rw [n1]
    by_cases h1 : y < 0
    · rw [if_pos h1, if_neg (fun q => absurd h1 (Int32.not_lt.mpr q.1))]
    · rw [if_neg h1]
      by_cases h2 : y ≤ nI n
      · rw [if_pos h2, if_pos ⟨Int32.not_lt.mp h1, h2⟩]
        rfl
      · rw [if_neg h2, if_neg (fun q => h2 q.2)]
  by_cases hy : 0 ≤ y ∧ y ≤ nI n
  · obtain ⟨m, hm, rfl⟩ := rng (n := n) (nI_toInt (by omega)) hy
    refine Or.inr ⟨nI m, uI M (6, 0, 0) 1 (nI m), by rw [sp, if_pos hy], fun w => ?_⟩
    have hM1 : hasM 0 0 (uL (uI M (6, 0, 0) 1 (nI m)) (40, 0, 0) 0 w) V := (h.2.2.1.ui (by first | decide | simp) (by first | decide | simp)).ul (by first | decide | simp)
    have e2 : (uL (uI M (6, 0, 0) 1 (nI m)) (40, 0, 0) 0 w).1 (10, 0, 0) 2 = nI n := by
      show (uI M (6, 0, 0) 1 (nI m)).1 (10, 0, 0) 2 = nI n
      rw [uI_no (by simp)]; exact n2
    refine ⟨uI (uI (uL (uI M (6, 0, 0) 1 (nI m)) (40, 0, 0) 0 w) (10, 0, 0) 0 0) (10, 0, 0) 2 (nI m), ?_, ?_, ul40, ⟨t, L, V, h.eq ?_ (fun o k q => ?_) (fun o k q => ?_)⟩⟩
    · unfold f_X12_truncate f_X12_truncate_18
      rw [e2, iR1 hy, bnd_some, if_neg (by first | decide | simp), fzM0 hM1, bnd_some, if_pos (by first | decide | simp)]
      rfl
    · rw [uI_q (fun q => absurd q.2 (by first | decide | simp))]
      exact uI_at
    · have u : ∀ o k, (o ≠ (6, 0, 0) ∨ k ≠ 1) → (o ≠ (10, 0, 0) ∨ (k ≠ 0 ∧ k ≠ 2)) → (uI (uI (uL (uI M (6, 0, 0) 1 (nI m)) (40, 0, 0) 0 w) (10, 0, 0) 0 0) (10, 0, 0) 2 (nI m)).1 o k = M.1 o k := fun o k h1 h2 => by
        rw [uI_q (fun q => h2.elim (fun z => z q.1) (fun z => z.2 q.2)), uI_q (fun q => h2.elim (fun z => z q.1) (fun z => z.1 q.2))]
        exact uI_q (fun q => h1.elim (fun z => z q.1) (fun z => z q.2))
      refine hs.buf (n := m) (by omega) ?_ uI_at (fun i hi => ?_) ?_ ?_ (fun a j k ha => u _ _ (Or.inl (fun q => by cases q; cases ha)) (Or.inl (fun q => by cases q; cases ha))) (fun a j k ha => if_neg (fun q => by
        have q1 : a = 40 := congrArg Prod.fst q.1
        subst q1
        rcases ha with ha | ha
        · cases ha
        · cases ha))
      · rw [uI_no (by simp), uI_no (by simp)]
        show (uI M (6, 0, 0) 1 (nI m)).1 (6, 0, 0) 1 = nI m
        exact uI_at
      · rw [u _ _ (Or.inl (by simp)) (Or.inl (by simp)), u _ _ (Or.inl (by simp)) (Or.inl (by simp))]
        exact hs.2.1 i hi
      · rw [u _ _ (Or.inl (by simp)) (Or.inl (by simp)), u _ _ (Or.inl (by simp)) (Or.inr (by first | decide | simp))]
        exact hs.2.2.1
      · rw [u _ _ (Or.inl (by simp)) (Or.inl (by simp)), u _ _ (Or.inl (by simp)) (Or.inr (by first | decide | simp))]
        exact hs.2.2.2.1
    · rw [uI_q (q.n10 (by first | decide | simp)), uI_q (q.n10 (by first | decide | simp))]
      exact uI_q (fun z => q.ne (by simp) z.1)
    · exact if_neg (fun z => q.ne.1 z.1)
  · refine Or.inl ⟨1, 0, by rw [sp, if_neg hy], by decide, ?_, ⟨t, L, V, h⟩⟩
    unfold f_X12_truncate f_X12_truncate_18
    rw [n2, iR0 hy, bnd_some, if_pos rfl, fzM1 h.2.2.1, bnd_some, if_neg (by first | decide | simp)]
    rfl
/-! bytes of a word -/
theorem Bt.mk {y : Int32} : Bt (Int8.toInt32 (Int32.toInt8 (Int8.toInt32 (Int32.toInt8 y)))) (y &&& 255) := by
  have hv : (y.toBitVec &&& 255#32).toNat = y.toBitVec.toNat % 256 := by
    rw [BitVec.toNat_and]
    exact Nat.and_two_pow_sub_one_eq_mod _ 8
  refine ⟨(y.toBitVec &&& 255#32).toNat, by rw [hv]; exact Nat.mod_lt _ (by first | decide | simp), ?_, ?_⟩
  · apply Int32.toBitVec_inj.mp
    show y.toBitVec &&& 255#32 = BitVec.ofNat 32 _
    rw [BitVec.ofNat_toNat, BitVec.setWidth_eq]
  · rw [Int8.toInt8_toInt32]
    congr 1
    apply Int8.toBitVec_inj.mp
    rw [Int32.toBitVec_toInt8, Int32.toBitVec_toInt8, BitVec.signExtend_eq_setWidth_of_le _ (by first | decide | simp), BitVec.signExtend_eq_setWidth_of_le _ (by first | decide | simp)]
    show y.toBitVec.setWidth 8 = (BitVec.ofNat 32 (y.toBitVec &&& 255#32).toNat).setWidth 8
    apply BitVec.eq_of_toNat_eq
    rw [BitVec.toNat_setWidth, BitVec.toNat_setWidth, BitVec.toNat_ofNat, hv]
    omega
def shf (i : Nat) : Int32 := 24 - 8 * nI i
theorem pb_loop {a : Nat} {x : Int32} (ha : a + 4 ≤ 900) : ∀ (m i f : Nat) (M : Mem), i + m = 4 → m < f → M.1 (6, 0, 0) 1 = nI (a + i) → ∃ M', f_X7_addBytes_3 f x (shf i) M = some ((), M') ∧ M'.1 (6, 0, 0) 1 = nI (a + 4) ∧ (∀ o k, (o ≠ (22, 0, 0) ∨ k < a + i ∨ a + 4 ≤ k) → (o ≠ (6, 0, 0) ∨ k ≠ 1) → M'.1 o k = M.1 o k) ∧ (∀ j, i ≤ j → j < 4 → M'.1 (22, 0, 0) (a + j) = Int8.toInt32 (Int32.toInt8 (Int8.toInt32 (Int32.toInt8 (x >>> (shf j &&& 31)))))) ∧ M'.2 = M.2 := by
  intro m
  induction m with
  | zero =>
    intro i f M hi hf h2
    obtain ⟨f, rfl⟩ : ∃ k, f = k + 1 := ⟨f - 1, by omega⟩
    have e : i = 4 := by omega
    subst e
    refine ⟨M, ?_, h2, fun _ _ _ _ => rfl, fun j h1 h2 => by omega, rfl⟩
    rw [show f_X7_addBytes_3 (f + 1) x (shf 4) M = _ from Eq.trans (by unfold f_X7_addBytes_3; exact rfl) rfl, if_pos (by first | decide | simp)]
  | succ m ih =>
    intro i f M hi hf h2
    obtain ⟨f, rfl⟩ : ∃ k, f = k + 1 := ⟨f - 1, by omega⟩
    have es : shf i + (-8) = shf (i + 1) ∧ ¬ shf i < 0 := by
      rcases (show i = 0 ∨ i = 1 ∨ i = 2 ∨ i = 3 by omega) with rfl | rfl | rfl | rfl <;> decide
    obtain ⟨M', e1, e2, e3, e4, e5⟩ := ih (i + 1) f (uI (uI M (22, 0, 0) (a + i) (Int8.toInt32 (Int32.toInt8 (Int8.toInt32 (Int32.toInt8 (x >>> (shf i &&& 31))))))) (6, 0, 0) 1 (nI (a + (i + 1)))) (by omega) (by omega) uI_at
    refine ⟨M', ?_, e2, fun o k h q => ?_, fun j h1 h3 => ?_, e5⟩
    · rw [show f_X7_addBytes_3 (f + 1) x (shf i) M = _ from Eq.trans (by unfold f_X7_addBytes_3; exact rfl) rfl, if_neg es.2, h2, if_neg (show ¬ (900 : Int32) ≤ nI (a + i) from nI_ge (b := 900) (by omega) (by first | decide | simp)), if_neg (nbad (by omega) (by first | decide | simp)), nI_clamp (by omega)]
      dsimp only [nm]
      rw [uI_no (by simp), h2, nI_1, es.1]
      exact e1
    · rw [e3 o k (h.imp id (Or.imp (fun z => by omega) id)) q, uI_q (fun z => q.elim (fun y => y z.1) (fun y => y z.2))]
      exact uI_q (fun z => by
        rcases h with h | h
        · exact h z.1
        · omega)
    · by_cases z : j = i
      · subst z
        rw [e3 _ _ (Or.inr (Or.inl (by omega))) (Or.inl (by simp)), uI_no (by simp)]
        exact uI_at
      · exact e4 j (by omega) h3
theorem aw_loop {a : Nat} {x : Int32} (ha : a + 4 ≤ 900) : ∀ (m i f : Nat) (N : Mem), i + m = 4 → m < f → N.1 (10, 0, 0) 2 = nI (a + i) → ∃ N', f_X12_appendWord_3 f x (shf i) N = some ((), N') ∧ N'.1 (10, 0, 0) 2 = nI (a + 4) ∧ (∀ o k, (o ≠ (30, 0, 0) ∨ k < a + i ∨ a + 4 ≤ k) → (o ≠ (10, 0, 0) ∨ k ≠ 2) → N'.1 o k = N.1 o k) ∧ (∀ j, i ≤ j → j < 4 → N'.1 (30, 0, 0) (a + j) = (x >>> (shf j &&& 31)) &&& 255) ∧ N'.2 = N.2 := by
  intro m
  induction m with
  | zero =>
    intro i f N hi hf h2
    obtain ⟨f, rfl⟩ : ∃ k, f = k + 1 := ⟨f - 1, by omega⟩
    have e : i = 4 := by omega
    subst e
    refine ⟨N, ?_, h2, fun _ _ _ _ => rfl, fun j h1 h2 => by omega, rfl⟩
    rw [show f_X12_appendWord_3 (f + 1) x (shf 4) N = _ from Eq.trans (by unfold f_X12_appendWord_3; exact rfl) rfl, if_pos (by first | decide | simp)]
  | succ m ih =>
    intro i f N hi hf h2
    obtain ⟨f, rfl⟩ : ∃ k, f = k + 1 := ⟨f - 1, by omega⟩
    have es : shf i + (-8) = shf (i + 1) ∧ ¬ shf i < 0 := by
      rcases (show i = 0 ∨ i = 1 ∨ i = 2 ∨ i = 3 by omega) with rfl | rfl | rfl | rfl <;> decide
    obtain ⟨N', e1, e2, e3, e4, e5⟩ := ih (i + 1) f (uI (uI N (30, 0, 0) (a + i) ((x >>> (shf i &&& 31)) &&& 255)) (10, 0, 0) 2 (nI (a + (i + 1)))) (by omega) (by omega) uI_at
    refine ⟨N', ?_, e2, fun o k h q => ?_, fun j h1 h3 => ?_, e5⟩
    · rw [show f_X12_appendWord_3 (f + 1) x (shf i) N = _ from Eq.trans (by unfold f_X12_appendWord_3; exact rfl) rfl, if_neg es.2, h2, if_neg (nbad (by omega) (by first | decide | simp)), nI_clamp (by omega)]
      dsimp only [nm]
      rw [uI_no (by simp), h2, nI_1, es.1]
      exact e1
    · rw [e3 o k (h.imp id (Or.imp (fun z => by omega) id)) q, uI_q (fun z => q.elim (fun y => y z.1) (fun y => y z.2))]
      exact uI_q (fun z => by
        rcases h with h | h
        · exact h z.1
        · omega)
    · by_cases z : j = i
      · subst z
        rw [e3 _ _ (Or.inr (Or.inl (by omega))) (Or.inl (by simp)), uI_no (by simp)]
        exact uI_at
      · exact e4 j (by omega) h3
def BB (M N : Mem) : Prop := ∀ i, i < 900 → Bt (M.1 (22, 0, 0) i) (N.1 (30, 0, 0) i)
def FrA (M M' : Mem) : Prop := (∀ o k, o ≠ (22, 0, 0) → (o ≠ (6, 0, 0) ∨ k ≠ 1) → M'.1 o k = M.1 o k) ∧ M'.2 = M.2
def FrB (N N' : Mem) : Prop := (∀ o k, o ≠ (30, 0, 0) → (o ≠ (10, 0, 0) ∨ k ≠ 2) → N'.1 o k = N.1 o k) ∧ N'.2 = N.2
theorem FrA.trans {M M' M'' : Mem} (h : FrA M M') (k : FrA M' M'') : FrA M M'' := ⟨fun o i q r => (k.1 o i q r).trans (h.1 o i q r), k.2.trans h.2⟩
theorem FrB.trans {M M' M'' : Mem} (h : FrB M M') (k : FrB M' M'') : FrB M M'' := ⟨fun o i q r => (k.1 o i q r).trans (h.1 o i q r), k.2.trans h.2⟩
theorem word1 {a : Nat} {x : Int32} {M : Mem} (ha : a + 4 ≤ 900) (hM : M.1 (6, 0, 0) 1 = nI a) : ∃ M', f_X7_addBytes x M = some ((), M') ∧ M'.1 (6, 0, 0) 1 = nI (a + 4) ∧ FrA M M' ∧ ∀ N, BB M N → N.1 (10, 0, 0) 2 = nI a → ∃ N', f_X12_appendWord x N = some ((), N') ∧ BB M' N' ∧ N'.1 (10, 0, 0) 2 = nI (a + 4) ∧ FrB N N' := by
  obtain ⟨M', e1, e0, e2, e3, e4⟩ := pb_loop (x := x) ha 4 0 fuelN M rfl (by unfold fuelN; decide) hM
  refine ⟨M', e1, e0, ⟨fun o k h q => e2 o k (Or.inl h) q, e4⟩, fun N hb hN => ?_⟩
  obtain ⟨N', g1, g2, g3, g4, g5⟩ := aw_loop (x := x) ha 4 0 fuelN N rfl (by unfold fuelN; decide) hN
  refine ⟨N', g1, fun i hi => ?_, g2, ⟨fun o k h q => g3 o k (Or.inl h) q, g5⟩⟩
  by_cases z : i < a ∨ a + 4 ≤ i
  · rw [e2 _ _ (by omega) (Or.inl (by simp)), g3 _ _ (by omega) (Or.inl (by simp))]
    exact hb i hi
  · obtain ⟨j, rfl⟩ : ∃ j, i = a + j := ⟨i - a, by omega⟩
    rw [e3 j (by omega) (by omega), g4 j (by omega) (by omega)]
    exact Bt.mk
theorem A_append {B t : Nat} {M : Mem} {L V : LM} (h : InX B M t L V) (x1 x2 x3 x4 x5 : Int32) : Ans (cd1 0) (f_X11_append x1 x2 x3 x4 x5 M) (f_X12_append x1 x2 x3 x4 x5) M B := by
  have hs := h.2.2.2.2.2.2.2.2
  obtain ⟨n, hn, n1, n2⟩ := hs.1
  by_cases hl : n + 20 ≤ 900
  · obtain ⟨M1, a1, l1, b1, c1⟩ := word1 (a := n) (x := x1) (M := M) (by omega) n1
    obtain ⟨M2, a2, l2, b2, c2⟩ := word1 (a := n + 4) (x := x2) (M := M1) (by omega) l1
    obtain ⟨M3, a3, l3, b3, c3⟩ := word1 (a := n + 8) (x := x3) (M := M2) (by omega) l2
    obtain ⟨M4, a4, l4, b4, c4⟩ := word1 (a := n + 12) (x := x4) (M := M3) (by omega) l3
    obtain ⟨M5, a5, l5, b5, c5⟩ := word1 (a := n + 16) (x := x5) (M := M4) (by omega) l4
    have f5 := (((b1.trans b2).trans b3).trans b4).trans b5
    have p20 : nI n + 20 = nI (n + 20) := nI_add _ _
    refine Or.inr ⟨nI (n + 20), M5, ?_, fun w => ?_⟩
    · unfold f_X11_append
      rw [n1, if_pos (show nI n ≤ 880 from nI_le (b := 880) (by omega) (by first | decide | simp)), a1, bnd_some, a2, bnd_some, a3, bnd_some, a4, bnd_some, a5, bnd_some, l5]
    · have hN0 : ∀ o k, o.1 ≠ 22 → (o ≠ (6, 0, 0) ∨ k ≠ 1) → (o ≠ (10, 0, 0) ∨ k ≠ 0) → (uI (uL M5 (40, 0, 0) 0 w) (10, 0, 0) 0 0).1 o k = M.1 o k := fun o k h1 h2 h3 => by
        rw [uI_q (fun q => h3.elim (fun z => z q.1) (fun z => z q.2))]
        show M5.1 o k = M.1 o k
        rw [f5.1 _ _ (fun q => h1 (by rw [q])) h2]
      obtain ⟨N1, d1, g1, k1, r1⟩ := c1 (uI (uL M5 (40, 0, 0) 0 w) (10, 0, 0) 0 0) (fun i hi => by rw [hN0 _ _ (by simp) (Or.inl (by simp)) (Or.inl (by simp))]; exact hs.2.1 i hi) (by rw [hN0 _ _ (by simp) (Or.inl (by simp)) (Or.inr (by first | decide | simp))]; exact n2)
      obtain ⟨N2, d2, g2, k2, r2⟩ := c2 N1 g1 k1
      obtain ⟨N3, d3, g3, k3, r3⟩ := c3 N2 g2 k2
      obtain ⟨N4, d4, g4, k4, r4⟩ := c4 N3 g3 k3
      obtain ⟨N5, d5, g5, k5, r5⟩ := c5 N4 g4 k4
      have r := (((r1.trans r2).trans r3).trans r4).trans r5
      have hM0 : hasM 0 0 (uL M5 (40, 0, 0) 0 w) V := by
        refine (h.2.2.1.eq (M' := M5) (fun i hi => f5.1 _ _ (by simp) (Or.inl (by simp))) (fun i hi => f5.1 _ _ (by simp) (Or.inl (by simp))) (fun i hi => by rw [f5.2])).ul (by first | decide | simp)
      have e0 : (uL M5 (40, 0, 0) 0 w).1 (10, 0, 0) 2 = nI n := by
        show M5.1 (10, 0, 0) 2 = nI n
        rw [f5.1 _ _ (by simp) (Or.inl (by simp))]
        exact n2
      have e9 : (uI (uL M5 (40, 0, 0) 0 w) (10, 0, 0) 0 0).1 (6, 0, 0) 1 = nI (n + 20) := by
        rw [uI_no (by simp)]
        exact l5
      have e22 : ∀ i, (uI (uL M5 (40, 0, 0) 0 w) (10, 0, 0) 0 0).1 (22, 0, 0) i = M5.1 (22, 0, 0) i := fun i => by
        rw [uI_no (by simp)]
        rfl
      refine ⟨N5, ?_, ?_, ?_, ⟨t, L, V, h.eq (hs.buf (n := n + 20) (by omega) ?_ k5 (fun i hi => ?_) ?_ ?_ (fun a j k ha => ?_) (fun a j k ha => ?_)) (fun o k q => ?_) (fun o k q => ?_)⟩⟩
      · unfold f_X12_append f_X12_append_19
        rw [e0, p20, if_pos (show nI (n + 20) ≤ 900 from nI_le (b := 900) (by omega) (by first | decide | simp)), fzM0 hM0, bnd_some, if_pos rfl, d1, bnd_some, d2, bnd_some, d3, bnd_some, d4, bnd_some, d5, bnd_some, k5]
      · rw [r.1 _ _ (by simp) (Or.inr (by first | decide | simp))]; exact uI_at
      · rw [r.2]; exact ul40
      · rw [r.1 _ _ (by simp) (Or.inl (by simp))]; exact e9
      · rw [r.1 _ _ (by simp) (Or.inl (by simp)), e22]; exact g5 i hi
      · rw [r.1 _ _ (by simp) (Or.inl (by simp)), r.1 _ _ (by simp) (Or.inr (by first | decide | simp)), hN0 _ _ (by simp) (Or.inl (by simp)) (Or.inl (by simp)), hN0 _ _ (by simp) (Or.inl (by simp)) (Or.inr (by first | decide | simp))]
        exact hs.2.2.1
      · rw [r.1 _ _ (by simp) (Or.inl (by simp)), r.1 _ _ (by simp) (Or.inr (by first | decide | simp)), hN0 _ _ (by simp) (Or.inl (by simp)) (Or.inl (by simp)), hN0 _ _ (by simp) (Or.inl (by simp)) (Or.inr (by first | decide | simp))]
        exact hs.2.2.2.1
      · have z : ∀ q : Nat, cvK q = false → a ≠ q := fun q hq e => by rw [e, hq] at ha; cases ha
        rw [r.1 _ _ (fun q => z 30 rfl (congrArg Prod.fst q)) (Or.inl (fun q => z 10 rfl (congrArg Prod.fst q)))]
        exact hN0 _ _ (z 22 rfl) (Or.inl (fun q => z 6 rfl (congrArg Prod.fst q))) (Or.inl (fun q => z 10 rfl (congrArg Prod.fst q)))
      · have z : a ≠ 40 := fun e => by
          subst e
          rcases ha with ha | ha
          · cases ha
          · cases ha
        rw [r.2]
        show (if ((a, 0, j) : Oid) = (40, 0, 0) ∧ k = 0 then w else M5.2.1 (a, 0, j) k) = _
        rw [if_neg (fun q => z (congrArg Prod.fst q.1)), f5.2]
      · rw [r.1 _ _ (q.ne (by simp)) (by
          by_cases y : o = (10, 0, 0)
          · exact Or.inr (fun x => q.n10 (f := 2) (by first | decide | simp) ⟨y, x⟩)
          · exact Or.inl y)]
        rw [uI_q (q.n10 (by first | decide | simp))]
        show M5.1 o k = M.1 o k
        rw [f5.1 _ _ (q.ne (by simp)) (Or.inl (q.ne (by simp)))]
      · rw [r.2]
        show (if o = (40, 0, 0) ∧ k = 0 then w else M5.2.1 o k) = _
        rw [if_neg (fun z => q.ne.1 z.1), f5.2]
  · refine Or.inl ⟨0, 0, ?_, by decide, ?_, ⟨t, L, V, h⟩⟩
    · unfold f_X11_append
      rw [n1, if_neg (show ¬ nI n ≤ (880 : Int32) from (nI_ge (b := n) (a := 880) (by omega) (by omega)))]
    · unfold f_X12_append f_X12_append_19
      rw [n2, show nI n + 20 = nI (n + 20) from nI_add _ _, if_neg (show ¬ nI (n + 20) ≤ (900 : Int32) from (nI_ge (b := n + 20) (a := 900) (by omega) (by omega))), fzM1 h.2.2.1, bnd_some, if_neg (by first | decide | simp)]
      rfl
