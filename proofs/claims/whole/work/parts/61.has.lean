/-! ===== one memory: converters and blocks in it ===== -/
def hasC (c : Nat) (M : Mem) (L : LM) : Prop := putC c M L = M
def hasM (β σ : Nat) (M : Mem) (V : LM) : Prop := putM β σ M V = M
theorem putC_putC {c : Nat} {M : Mem} {L L' : LM} : putC c (putC c M L) L' = putC c M L' := by
  unfold putC
  refine Prod.ext (funext fun o => funext fun k => ?_) (Prod.ext (funext fun o => funext fun k => ?_) rfl)
  · dsimp only
    by_cases h : cvK o.1 = true ∧ o.2.1 = c
    · rw [if_pos h, if_pos h]
    · rw [if_neg h, if_neg h, if_neg h]
  · dsimp only
    by_cases h : cvK o.1 = true ∧ o.2.1 = c
    · rw [if_pos h, if_pos h]
    · rw [if_neg h, if_neg h, if_neg h]
theorem putC_comm {c d : Nat} {M : Mem} {L L' : LM} (hcd : c ≠ d) : putC c (putC d M L') L = putC d (putC c M L) L' := by
  unfold putC
  refine Prod.ext (funext fun o => funext fun k => ?_) (Prod.ext (funext fun o => funext fun k => ?_) rfl)
  · dsimp only
    by_cases h : cvK o.1 = true ∧ o.2.1 = c
    · rw [if_pos h, if_neg (c := cvK o.1 = true ∧ o.2.1 = d) (fun q => hcd (h.2.symm.trans q.2)), if_pos h]
    · rw [if_neg h]
      by_cases h2 : cvK o.1 = true ∧ o.2.1 = d
      · rw [if_pos h2, if_pos h2]
      · rw [if_neg h2, if_neg h2, if_neg h]
  · dsimp only
    by_cases h : cvK o.1 = true ∧ o.2.1 = c
    · rw [if_pos h, if_neg (c := cvK o.1 = true ∧ o.2.1 = d) (fun q => hcd (h.2.symm.trans q.2)), if_pos h]
    · rw [if_neg h]
      by_cases h2 : cvK o.1 = true ∧ o.2.1 = d
      · rw [if_pos h2, if_pos h2]
      · rw [if_neg h2, if_neg h2, if_neg h]
theorem cvK_no {o q : Oid} (h : cvK q.1 = false) (e : o = q) : ¬ cvK o.1 = true := by rw [e, h]; decide
theorem putC_putM {c β σ : Nat} {M : Mem} {L V : LM} : putC c (putM β σ M V) L = putM β σ (putC c M L) V := by
  unfold putC putM
  refine Prod.ext (funext fun o => funext fun k => ?_) (Prod.ext (funext fun o => funext fun k => ?_) rfl)
  · dsimp only
    by_cases h : cvK o.1 = true ∧ o.2.1 = c
    · rw [if_pos h, if_neg (fun q => cvK_no (q := (32, 0, 0)) rfl q.1 h.1), if_neg (fun q => cvK_no (q := (31, 0, 0)) rfl q.1 h.1)]
      first | rfl | rw [if_pos h]
    · rw [if_neg h, if_neg h]
  · dsimp only
    by_cases h : cvK o.1 = true ∧ o.2.1 = c
    · rw [if_pos h, if_neg (fun q => cvK_no (q := (33, 0, 0)) rfl q.1 h.1)]
      first | rfl | rw [if_pos h]
    · rw [if_neg h, if_neg h]
theorem putM_putM {β σ : Nat} {M : Mem} {V V' : LM} : putM β σ (putM β σ M V) V' = putM β σ M V' := by
  unfold putM
  refine Prod.ext (funext fun o => funext fun k => ?_) (Prod.ext (funext fun o => funext fun k => ?_) rfl)
  · dsimp only
    by_cases h : o = (32, 0, 0) ∧ 472 * β ≤ k ∧ k < 472 * β + 472
    · rw [if_pos h, if_pos h]
    · rw [if_neg h, if_neg h, if_neg h]
      by_cases h2 : o = (31, 0, 0) ∧ σ ≤ k ∧ k < σ + 52
      · rw [if_pos h2, if_pos h2]
      · rw [if_neg h2, if_neg h2, if_neg h2]
  · dsimp only
    by_cases h : o = (33, 0, 0) ∧ 10 * β ≤ k ∧ k < 10 * β + 10
    · rw [if_pos h, if_pos h]
    · rw [if_neg h, if_neg h, if_neg h]
theorem putC_uI {c k : Nat} {o : Oid} {x : Int32} {M : Mem} {L : LM} (h : cvK o.1 = true → o.2.1 ≠ c) : putC c (uI M o k x) L = uI (putC c M L) o k x := by
  unfold putC uI
  refine Prod.ext (funext fun q => funext fun f => ?_) rfl
  dsimp only
  by_cases h1 : q = o ∧ f = k
  · rw [if_pos h1, if_pos h1, if_neg (fun z => h (by rw [← h1.1]; exact z.1) (by rw [← h1.1]; exact z.2))]
  · rw [if_neg h1, if_neg h1]
theorem putC_uL {c k : Nat} {o : Oid} {x : Int64} {M : Mem} {L : LM} (h : cvK o.1 = true → o.2.1 ≠ c) : putC c (uL M o k x) L = uL (putC c M L) o k x := by
  unfold putC uL
  refine Prod.ext rfl (Prod.ext (funext fun q => funext fun f => ?_) rfl)
  dsimp only
  by_cases h1 : q = o ∧ f = k
  · rw [if_pos h1, if_pos h1, if_neg (fun z => h (by rw [← h1.1]; exact z.1) (by rw [← h1.1]; exact z.2))]
  · rw [if_neg h1, if_neg h1]
theorem putM_uI {β σ k : Nat} {o : Oid} {x : Int32} {M : Mem} {V : LM} (h1 : o ≠ (31, 0, 0)) (h2 : o ≠ (32, 0, 0)) : putM β σ (uI M o k x) V = uI (putM β σ M V) o k x := by
  unfold putM uI
  refine Prod.ext (funext fun q => funext fun f => ?_) rfl
  dsimp only
  by_cases h : q = o ∧ f = k
  · rw [if_pos h, if_pos h, if_neg (fun z => h2 (h.1.symm.trans z.1)), if_neg (fun z => h1 (h.1.symm.trans z.1))]
  · rw [if_neg h, if_neg h]
theorem putM_uL {β σ k : Nat} {o : Oid} {x : Int64} {M : Mem} {V : LM} (h1 : o ≠ (33, 0, 0)) : putM β σ (uL M o k x) V = uL (putM β σ M V) o k x := by
  unfold putM uL
  refine Prod.ext rfl (Prod.ext (funext fun q => funext fun f => ?_) rfl)
  dsimp only
  by_cases h : q = o ∧ f = k
  · rw [if_pos h, if_pos h, if_neg (fun z => h1 (h.1.symm.trans z.1))]
  · rw [if_neg h, if_neg h]
theorem putC_uD {c k : Nat} {o : Oid} {x : UInt64} {M : Mem} {L : LM} : putC c (uD M o k x) L = uD (putC c M L) o k x := rfl
theorem putM_uD {β σ k : Nat} {o : Oid} {x : UInt64} {M : Mem} {V : LM} : putM β σ (uD M o k x) V = uD (putM β σ M V) o k x := rfl
theorem hasC.new {c : Nat} {M : Mem} {L : LM} : hasC c (putC c M L) L := putC_putC
theorem hasC.c {c d : Nat} {M : Mem} {L L' : LM} (h : hasC c M L) (hcd : c ≠ d) : hasC c (putC d M L') L := by
  unfold hasC at *
  rw [putC_comm hcd, h]
theorem hasC.m {c β σ : Nat} {M : Mem} {L V : LM} (h : hasC c M L) : hasC c (putM β σ M V) L := by
  unfold hasC at *
  rw [putC_putM, h]
theorem hasC.ui {c k : Nat} {o : Oid} {x : Int32} {M : Mem} {L : LM} (h : hasC c M L) (ho : cvK o.1 = true → o.2.1 ≠ c) : hasC c (uI M o k x) L := by
  unfold hasC at *
  rw [putC_uI ho, h]
theorem hasC.ul {c k : Nat} {o : Oid} {x : Int64} {M : Mem} {L : LM} (h : hasC c M L) (ho : cvK o.1 = true → o.2.1 ≠ c) : hasC c (uL M o k x) L := by
  unfold hasC at *
  rw [putC_uL ho, h]
theorem hasC.ud {c k : Nat} {o : Oid} {x : UInt64} {M : Mem} {L : LM} (h : hasC c M L) : hasC c (uD M o k x) L := by
  unfold hasC at *
  rw [putC_uD, h]
theorem hasM.new {β σ : Nat} {M : Mem} {V : LM} : hasM β σ (putM β σ M V) V := putM_putM
theorem hasM.c {c β σ : Nat} {M : Mem} {L V : LM} (h : hasM β σ M V) : hasM β σ (putC c M L) V := by
  unfold hasM at *
  rw [← putC_putM, h]
theorem hasM.ui {β σ k : Nat} {o : Oid} {x : Int32} {M : Mem} {V : LM} (h : hasM β σ M V) (h1 : o ≠ (31, 0, 0)) (h2 : o ≠ (32, 0, 0)) : hasM β σ (uI M o k x) V := by
  unfold hasM at *
  rw [putM_uI h1 h2, h]
theorem hasM.ul {β σ k : Nat} {o : Oid} {x : Int64} {M : Mem} {V : LM} (h : hasM β σ M V) (h1 : o ≠ (33, 0, 0)) : hasM β σ (uL M o k x) V := by
  unfold hasM at *
  rw [putM_uL h1, h]
theorem hasM.ud {β σ k : Nat} {o : Oid} {x : UInt64} {M : Mem} {V : LM} (h : hasM β σ M V) : hasM β σ (uD M o k x) V := by
  unfold hasM at *
  rw [putM_uD, h]
theorem hasM.A {β σ i : Nat} {M : Mem} {V : LM} (h : hasM β σ M V) (hi : i < 472) : M.1 (32, 0, 0) (472 * β + i) = V.1 (cA i) := by
  have := rdA (β := β) (σ := σ) (N := M) (V := V) hi
  rw [h] at this
  exact this
theorem hasM.S {β σ i : Nat} {M : Mem} {V : LM} (h : hasM β σ M V) (hi : i < 52) : M.1 (31, 0, 0) (σ + i) = V.1 (cS i) := by
  have := rdS (β := β) (σ := σ) (N := M) (V := V) hi
  rw [h] at this
  exact this
theorem hasM.L {β σ i : Nat} {M : Mem} {V : LM} (h : hasM β σ M V) (hi : i < 10) : M.2.1 (33, 0, 0) (10 * β + i) = V.2 (cL i) := by
  have := rdL (β := β) (σ := σ) (N := M) (V := V) hi
  rw [h] at this
  exact this
theorem hasC.I {c k j f : Nat} {M : Mem} {L : LM} (h : hasC c M L) (hk : cvK k = true) : M.1 (k, c, j) f = L.1 (k, f, j) := by
  have : (putC c M L).1 (k, c, j) f = L.1 (k, f, j) := if_pos ⟨hk, rfl⟩
  rw [h] at this
  exact this
theorem hasC.L {c k j f : Nat} {M : Mem} {L : LM} (h : hasC c M L) (hk : cvK k = true) : M.2.1 (k, c, j) f = L.2 (k, f, j) := by
  have : (putC c M L).2.1 (k, c, j) f = L.2 (k, f, j) := if_pos ⟨hk, rfl⟩
  rw [h] at this
  exact this
/-- another block with the same settings -/
theorem hasM.m {β γ σ : Nat} {M : Mem} {V V' : LM} (h : hasM β σ M V) (hbg : β ≠ γ) (hs : ∀ i, i < 52 → V'.1 (cS i) = V.1 (cS i)) : hasM β σ (putM γ σ M V') V := by
  unfold hasM
  refine Prod.ext (funext fun o => funext fun k => ?_) (Prod.ext (funext fun o => funext fun k => ?_) rfl)
  · unfold putM
    dsimp only
    by_cases h1 : o = (32, 0, 0) ∧ 472 * β ≤ k ∧ k < 472 * β + 472
    · rw [if_pos h1, if_neg (fun q => hbg (by omega)), if_neg (fun q => absurd (h1.1.symm.trans q.1) (by first | decide | simp)), ← h.A (i := k - 472 * β) (by omega), h1.1, show 472 * β + (k - 472 * β) = k by omega]
    · rw [if_neg h1]
      by_cases h2 : o = (31, 0, 0) ∧ σ ≤ k ∧ k < σ + 52
      · rw [if_pos h2, if_neg (fun q => absurd (h2.1.symm.trans q.1) (by first | decide | simp)), if_pos h2, hs _ (by omega)]
      · rw [if_neg h2]
  · unfold putM
    dsimp only
    by_cases h1 : o = (33, 0, 0) ∧ 10 * β ≤ k ∧ k < 10 * β + 10
    · rw [if_pos h1, if_neg (fun q => hbg (by omega)), ← h.L (i := k - 10 * β) (by omega), h1.1, show 10 * β + (k - 10 * β) = k by omega]
    · rw [if_neg h1]
theorem putM_congr {β σ : Nat} {M : Mem} {V V' : LM} (h1 : ∀ i, i < 472 → V'.1 (cA i) = V.1 (cA i)) (h2 : ∀ i, i < 52 → V'.1 (cS i) = V.1 (cS i)) (h3 : ∀ i, i < 10 → V'.2 (cL i) = V.2 (cL i)) : putM β σ M V' = putM β σ M V := by
  unfold putM
  refine Prod.ext (funext fun o => funext fun k => ?_) (Prod.ext (funext fun o => funext fun k => ?_) rfl)
  · dsimp only
    by_cases q : o = (32, 0, 0) ∧ 472 * β ≤ k ∧ k < 472 * β + 472
    · rw [if_pos q, if_pos q, h1 _ (by omega)]
    · rw [if_neg q, if_neg q]
      by_cases q2 : o = (31, 0, 0) ∧ σ ≤ k ∧ k < σ + 52
      · rw [if_pos q2, if_pos q2, h2 _ (by omega)]
      · rw [if_neg q2, if_neg q2]
  · dsimp only
    by_cases q : o = (33, 0, 0) ∧ 10 * β ≤ k ∧ k < 10 * β + 10
    · rw [if_pos q, if_pos q, h3 _ (by omega)]
    · rw [if_neg q, if_neg q]
/-! a block is copied -/
def cbM (a b i l : Nat) (M : Mem) : Mem :=
  (fun o k => if o = (32, 0, 0) ∧ 472 * b ≤ k ∧ k < 472 * b + i then M.1 (32, 0, 0) (472 * a + (k - 472 * b)) else M.1 o k,
   fun o k => if o = (33, 0, 0) ∧ 10 * b ≤ k ∧ k < 10 * b + l then M.2.1 (33, 0, 0) (10 * a + (k - 10 * b)) else M.2.1 o k, M.2.2)
theorem cb_s {a b i : Nat} {M : Mem} (hab : a ≠ b) (hi : i < 472) : uI (cbM a b i 0 M) (32, 0, 0) (472 * b + i) ((cbM a b i 0 M).1 (32, 0, 0) (472 * a + i)) = cbM a b (i + 1) 0 M := by
  have e : (cbM a b i 0 M).1 (32, 0, 0) (472 * a + i) = M.1 (32, 0, 0) (472 * a + i) := by
    unfold cbM
    exact if_neg (fun q => hab (by omega))
  rw [e]
  unfold cbM uI
  refine Prod.ext (funext fun o => funext fun k => ?_) rfl
  dsimp only
  by_cases h : o = (32, 0, 0) ∧ k = 472 * b + i
  · rw [if_pos h, if_pos ⟨h.1, by omega, by omega⟩, h.2, show 472 * b + i - 472 * b = i by omega]
  · rw [if_neg h]
    by_cases h2 : o = (32, 0, 0) ∧ 472 * b ≤ k ∧ k < 472 * b + i
    · rw [if_pos h2, if_pos ⟨h2.1, h2.2.1, by omega⟩]
    · rw [if_neg h2, if_neg (fun q => h ⟨q.1, Decidable.byContradiction fun z => h2 ⟨q.1, q.2.1, by omega⟩⟩)]
theorem cb_l {a b i : Nat} {M : Mem} (hab : a ≠ b) (hi : i < 10) : uL (cbM a b 472 i M) (33, 0, 0) (10 * b + i) ((cbM a b 472 i M).2.1 (33, 0, 0) (10 * a + i)) = cbM a b 472 (i + 1) M := by
  have e : (cbM a b 472 i M).2.1 (33, 0, 0) (10 * a + i) = M.2.1 (33, 0, 0) (10 * a + i) := by
    unfold cbM
    exact if_neg (fun q => hab (by omega))
  rw [e]
  unfold cbM uL
  refine Prod.ext rfl (Prod.ext (funext fun o => funext fun k => ?_) rfl)
  dsimp only
  by_cases h : o = (33, 0, 0) ∧ k = 10 * b + i
  · rw [if_pos h, if_pos ⟨h.1, by omega, by omega⟩, h.2, show 10 * b + i - 10 * b = i by omega]
  · rw [if_neg h]
    by_cases h2 : o = (33, 0, 0) ∧ 10 * b ≤ k ∧ k < 10 * b + i
    · rw [if_pos h2, if_pos ⟨h2.1, h2.2.1, by omega⟩]
    · rw [if_neg h2, if_neg (fun q => h ⟨q.1, Decidable.byContradiction fun z => h2 ⟨q.1, q.2.1, by omega⟩⟩)]
theorem M_cb41 {a b : Nat} {M : Mem} (ha : a < 5) (hb : b < 5) (hab : a ≠ b) : ∀ (m i n : Nat), i + m = 10 → m < n → f_X12_copyBlock_41 n (nI a) (nI b) (nI i) (cbM a b 472 i M) = some ((), cbM a b 472 10 M) := by
  intro m
  induction m with
  | zero =>
    intro i n hi hn
    obtain ⟨n, rfl⟩ : ∃ k, n = k + 1 := ⟨n - 1, by omega⟩
    rw [show f_X12_copyBlock_41 (n + 1) (nI a) (nI b) (nI i) (cbM a b 472 i M) = _ from Eq.trans (by unfold f_X12_copyBlock_41; exact rfl) rfl, show i = 10 by omega, if_pos (show (10 : Int32) ≤ nI 10 by decide)]
  | succ m ih =>
    intro i n hi hn
    obtain ⟨n, rfl⟩ : ∃ k, n = k + 1 := ⟨n - 1, by omega⟩
    rw [show f_X12_copyBlock_41 (n + 1) (nI a) (nI b) (nI i) (cbM a b 472 i M) = _ from Eq.trans (by unfold f_X12_copyBlock_41; exact rfl) rfl, if_neg (show ¬ (10 : Int32) ≤ nI i from nI_ge (b := 10) (by omega) (by first | decide | simp)), ixs0, ixs0, if_neg (nbad (by omega) (by first | decide | simp)), if_neg (nbad (by omega) (by first | decide | simp)), nI_clamp (by omega), nI_clamp (by omega)]
    dsimp only [nm]
    rw [cb_l hab (by omega), nI_1]
    exact ih (i + 1) n (by omega) (by omega)
theorem M_cb2 {a b : Nat} {M : Mem} (ha : a < 5) (hb : b < 5) (hab : a ≠ b) : ∀ (m i n : Nat), i + m = 472 → m < n → f_X12_copyBlock_2 n (nI a) (nI b) (nI i) (cbM a b i 0 M) = some ((), cbM a b 472 10 M) := by
  intro m
  induction m with
  | zero =>
    intro i n hi hn
    obtain ⟨n, rfl⟩ : ∃ k, n = k + 1 := ⟨n - 1, by omega⟩
    rw [show f_X12_copyBlock_2 (n + 1) (nI a) (nI b) (nI i) (cbM a b i 0 M) = _ from Eq.trans (by unfold f_X12_copyBlock_2; exact rfl) rfl, show i = 472 by omega, if_pos (show (472 : Int32) ≤ nI 472 by decide)]
    exact M_cb41 ha hb hab 10 0 fuelN (by first | decide | simp) (by unfold fuelN; decide)
  | succ m ih =>
    intro i n hi hn
    obtain ⟨n, rfl⟩ : ∃ k, n = k + 1 := ⟨n - 1, by omega⟩
    rw [show f_X12_copyBlock_2 (n + 1) (nI a) (nI b) (nI i) (cbM a b i 0 M) = _ from Eq.trans (by unfold f_X12_copyBlock_2; exact rfl) rfl, if_neg (show ¬ (472 : Int32) ≤ nI i from nI_ge (b := 472) (by omega) (by first | decide | simp)), ix_blk, ix_blk, if_neg (nbad (by omega) (by first | decide | simp)), if_neg (nbad (by omega) (by first | decide | simp)), nI_clamp (by omega), nI_clamp (by omega)]
    dsimp only [nm]
    rw [cb_s hab (by omega), nI_1]
    exact ih (i + 1) n (by omega) (by omega)
theorem M_cb {a b : Nat} {M : Mem} (ha : a < 5) (hb : b < 5) (hab : a ≠ b) : f_X12_copyBlock (nI a) (nI b) M = some ((), cbM a b 472 10 M) := by
  have h := M_cb2 (M := M) ha hb hab 472 0 fuelN (by first | decide | simp) (by unfold fuelN; decide)
  have e : cbM a b 0 0 M = M := by
    unfold cbM
    refine Prod.ext (funext fun o => funext fun k => ?_) (Prod.ext (funext fun o => funext fun k => ?_) rfl)
    · exact if_neg (fun q => by omega)
    · exact if_neg (fun q => by omega)
  rw [e] at h
  exact h
theorem cb_has {a b σ : Nat} {M : Mem} {V : LM} (h : hasM a σ M V) : cbM a b 472 10 M = putM b σ M V := by
  unfold cbM putM
  refine Prod.ext (funext fun o => funext fun k => ?_) (Prod.ext (funext fun o => funext fun k => ?_) rfl)
  · dsimp only
    by_cases q : o = (32, 0, 0) ∧ 472 * b ≤ k ∧ k < 472 * b + 472
    · rw [if_pos q, if_pos q, h.A (by omega)]
    · rw [if_neg q, if_neg q]
      by_cases q2 : o = (31, 0, 0) ∧ σ ≤ k ∧ k < σ + 52
      · rw [if_pos q2, ← h.S (by omega), q2.1, show σ + (k - σ) = k by omega]
      · rw [if_neg q2]
  · dsimp only
    by_cases q : o = (33, 0, 0) ∧ 10 * b ≤ k ∧ k < 10 * b + 10
    · rw [if_pos q, if_pos q, h.L (by omega)]
    · rw [if_neg q, if_neg q]
