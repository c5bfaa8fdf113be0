/-! ===== tokens of a setup text on both sides ===== -/
def FT (M M' : Mem) : Prop := (∀ o k, (o ≠ (6, 0, 0) ∨ k = 1) → M'.1 o k = M.1 o k) ∧ (∀ o k, o ≠ (6, 0, 0) → M'.2.1 o k = M.2.1 o k) ∧ M'.2.2 = M.2.2
def GT (N N' : Mem) : Prop := (∀ o k, (o ≠ (10, 0, 0) ∨ k < 10 ∨ 15 < k) → N'.1 o k = N.1 o k) ∧ N'.2 = N.2
theorem FT.refl (M : Mem) : FT M M := ⟨fun _ _ _ => rfl, fun _ _ _ => rfl, rfl⟩
theorem GT.refl (M : Mem) : GT M M := ⟨fun _ _ _ => rfl, rfl⟩
theorem FT.trans {M M' M'' : Mem} (h : FT M M') (k : FT M' M'') : FT M M'' := ⟨fun o i q => (k.1 o i q).trans (h.1 o i q), fun o i q => (k.2.1 o i q).trans (h.2.1 o i q), k.2.2.trans h.2.2⟩
theorem GT.trans {M M' M'' : Mem} (h : GT M M') (k : GT M' M'') : GT M M'' := ⟨fun o i q => (k.1 o i q).trans (h.1 o i q), k.2.trans h.2⟩
theorem FT.u {M : Mem} {k : Nat} {x : Int32} (h : k ≠ 1) : FT M (uI M (6, 0, 0) k x) := ⟨fun o i q => uI_q (fun z => q.elim (fun y => y z.1) (fun y => h (by rw [← z.2]; exact y))), fun _ _ _ => rfl, rfl⟩
theorem FT.ul {M : Mem} {k : Nat} {x : Int64} : FT M (uL M (6, 0, 0) k x) := ⟨fun _ _ _ => rfl, fun o i q => if_neg (fun z => q z.1), rfl⟩
theorem GT.u {M : Mem} {k : Nat} {x : Int32} (h1 : 10 ≤ k) (h2 : k ≤ 15) : GT M (uI M (10, 0, 0) k x) := ⟨fun o i q => uI_q (fun z => q.elim (fun y => y z.1) (fun y => by have := z.2; omega)), rfl⟩
/-- what stays while a text is read -/
def Er (M N : Mem) : Prop := M.1 (3, 0, 0) 8 = 0 ∧ M.1 (3, 0, 0) 9 = -1 ∧ N.1 (10, 0, 0) 17 = -1
theorem Er.of {M N M' N' : Mem} (h : Er M N) (a : M'.1 (3, 0, 0) 8 = M.1 (3, 0, 0) 8) (b : M'.1 (3, 0, 0) 9 = M.1 (3, 0, 0) 9) (c : N'.1 (10, 0, 0) 17 = N.1 (10, 0, 0) 17) : Er M' N' := ⟨a.trans h.1, b.trans h.2.1, c.trans h.2.2⟩
def Sta (len : Nat) (M N : Mem) : Prop := len ≤ 900 ∧ M.1 (6, 0, 0) 1 = nI len ∧ N.1 (10, 0, 0) 9 = nI len ∧ BB M N ∧ ((∀ i, i < 25 → N.2.1 (35, 0, 0) i = kwN.getD i 0) ∧ Er M N)
theorem Sta.of {len : Nat} {M N M' N' : Mem} (h : Sta len M N) (f : FT M M') (g : GT N N') : Sta len M' N' := ⟨h.1, by rw [f.1 _ _ (Or.inr rfl)]; exact h.2.1, by rw [g.1 _ _ (Or.inr (Or.inl (by first | decide | simp)))]; exact h.2.2.1, fun i hi => by rw [f.1 _ _ (Or.inl (by simp)), g.1 _ _ (Or.inl (by simp))]; exact h.2.2.2.1 i hi, fun i hi => by rw [g.2]; exact h.2.2.2.2.1 i hi, h.2.2.2.2.2.of (f.1 _ _ (Or.inl (by simp))) (f.1 _ _ (Or.inl (by simp))) (g.1 _ _ (Or.inr (Or.inr (by first | decide | simp))))⟩
theorem sv_cs : ∀ v, v < 256 → (v < 128 → Int8.toInt32 (Int32.toInt8 (nI v)) = nI v) ∧ (128 ≤ v → Int8.toInt32 (Int32.toInt8 (nI v)) < 0) := by decide +kernel
theorem Bt.cs {b n : Int32} (h : Bt b n) : (∃ v, v < 128 ∧ b = nI v ∧ n = nI v) ∨ (∃ v, 128 ≤ v ∧ v < 256 ∧ n = nI v ∧ b < 0) := by
  obtain ⟨v, hv, h1, h2⟩ := h
  by_cases q : v < 128
  · exact Or.inl ⟨v, q, by rw [h2]; exact (sv_cs v hv).1 q, h1⟩
  · exact Or.inr ⟨v, by omega, hv, h1, by rw [h2]; exact (sv_cs v hv).2 (by omega)⟩
theorem bA_in {len p : Nat} {N : Mem} (h : N.1 (10, 0, 0) 9 = nI len) (hl : len ≤ 900) (hp : p < len) : f_X12_byteAt (nI p) N = some (N.1 (30, 0, 0) p, N) := by
  unfold f_X12_byteAt
  rw [h, if_neg (nI_ge hp (by omega)), if_neg (nbad (by omega) (by first | decide | simp)), nI_clamp (by omega)]
theorem bA_out {len : Nat} {N : Mem} (h : N.1 (10, 0, 0) 9 = nI len) (hl : len ≤ 900) : f_X12_byteAt (nI len) N = some (-1, N) := by
  unfold f_X12_byteAt
  rw [h, if_pos (nI_le (by omega) (by omega))]
theorem lg0 {x y : Int64} : lg_cmp x y = 0 ↔ x = y := by
  unfold lg_cmp
  by_cases h : x > y
  · rw [if_pos h]
    exact ⟨fun q => absurd q (by first | decide | simp), fun q => by rw [q] at h; exact absurd h Int64.lt_irrefl⟩
  · rw [if_neg h]
    by_cases h2 : x = y
    · rw [if_pos h2]; exact ⟨fun _ => h2, fun _ => rfl⟩
    · rw [if_neg h2]; exact ⟨fun q => absurd q (by first | decide | simp), fun q => absurd q h2⟩
/-! the words -/
def kmap (w : Nat) : Int32 := if w < 25 then nI ([0, 6, 7, 8, 9, 10, 11, 14, 19, 22, 24, 1, 2, 3, 4, 5, 12, 13, 15, 16, 17, 18, 20, 21, 23].getD w 0) else -1
def srch (y : Int64) : Nat → Nat → Int32 → Int32
  | 0, _, d => d
  | m + 1, i, d => srch y m (i + 1) (if kwN.getD i 0 = y then nI i else d)
def fnd (y : Int64) : Nat → Nat → Nat
  | 0, _ => 25
  | m + 1, i => if wLet.getD i 0 = y then i else fnd y m (i + 1)
theorem sw_loop {y : Int64} : ∀ (m i f : Nat) (N : Mem), i + m = 25 → m < f → (∀ j, j < 25 → N.2.1 (35, 0, 0) j = kwN.getD j 0) → ∃ N', f_X12_scanWord_86 f y (nI i) N = some ((), N') ∧ (∀ o k, (o ≠ (10, 0, 0) ∨ k ≠ 15) → N'.1 o k = N.1 o k) ∧ N'.2 = N.2 ∧ N'.1 (10, 0, 0) 15 = srch y m i (N.1 (10, 0, 0) 15) := by
  intro m
  induction m with
  | zero =>
    intro i f N hi hf hk
    obtain ⟨f, rfl⟩ : ∃ k, f = k + 1 := ⟨f - 1, by omega⟩
    refine ⟨N, ?_, fun _ _ _ => rfl, rfl, rfl⟩
    rw [show f_X12_scanWord_86 (f + 1) y (nI i) N = _ from Eq.trans (by unfold f_X12_scanWord_86; exact rfl) rfl, if_pos (show (25 : Int32) ≤ nI i by rw [show i = 25 by omega]; decide)]
  | succ m ih =>
    intro i f N hi hf hk
    obtain ⟨f, rfl⟩ : ∃ k, f = k + 1 := ⟨f - 1, by omega⟩
    by_cases z : kwN.getD i 0 = y
    · obtain ⟨N', e1, e2, e3, e4⟩ := ih (i + 1) f (uI N (10, 0, 0) 15 (nI i)) (by omega) (by omega) hk
      refine ⟨N', ?_, fun o k h => ?_, e3, ?_⟩
      · rw [show f_X12_scanWord_86 (f + 1) y (nI i) N = _ from Eq.trans (by unfold f_X12_scanWord_86; exact rfl) rfl, if_neg (show ¬ (25 : Int32) ≤ nI i from nI_ge (b := 25) (by omega) (by first | decide | simp)), if_neg (nbad (by omega) (by first | decide | simp)), nI_clamp (by omega), hk i (by omega), if_pos (lg0.mpr z)]
        unfold f_X12_scanWord_108
        dsimp only [nm]
        rw [nI_1]
        exact e1
      · rw [e2 o k h]
        exact uI_q (fun q => h.elim (fun x => x q.1) (fun x => x q.2))
      · rw [e4, uI_at]
        show _ = srch y m (i + 1) (if kwN.getD i 0 = y then nI i else N.1 (10, 0, 0) 15)
        rw [if_pos z]
    · obtain ⟨N', e1, e2, e3, e4⟩ := ih (i + 1) f N (by omega) (by omega) hk
      refine ⟨N', ?_, e2, e3, ?_⟩
      · rw [show f_X12_scanWord_86 (f + 1) y (nI i) N = _ from Eq.trans (by unfold f_X12_scanWord_86; exact rfl) rfl, if_neg (show ¬ (25 : Int32) ≤ nI i from nI_ge (b := 25) (by omega) (by first | decide | simp)), if_neg (nbad (by omega) (by first | decide | simp)), nI_clamp (by omega), hk i (by omega), if_neg (fun q => z (lg0.mp q))]
        unfold f_X12_scanWord_108
        dsimp only [nm]
        rw [nI_1]
        exact e1
      · rw [e4]
        show _ = srch y m (i + 1) (if kwN.getD i 0 = y then nI i else N.1 (10, 0, 0) 15)
        rw [if_neg z]
theorem of_loop {y : Int64} {M : Mem} : ∀ (m i f : Nat), i + m = 26 → m < f → f_X10_of_10 f y 26 (nI i) M = some (fnd y m i, M) := by
  intro m
  induction m with
  | zero =>
    intro i f hi hf
    obtain ⟨f, rfl⟩ : ∃ k, f = k + 1 := ⟨f - 1, by omega⟩
    rw [show f_X10_of_10 (f + 1) y 26 (nI i) M = _ from Eq.trans (by unfold f_X10_of_10; exact rfl) rfl, if_pos (show (26 : Int32) ≤ nI i by rw [show i = 26 by omega]; decide)]
    rfl
  | succ m ih =>
    intro i f hi hf
    obtain ⟨f, rfl⟩ : ∃ k, f = k + 1 := ⟨f - 1, by omega⟩
    rw [show f_X10_of_10 (f + 1) y 26 (nI i) M = _ from Eq.trans (by unfold f_X10_of_10; exact rfl) rfl, if_neg (show ¬ (26 : Int32) ≤ nI i from nI_ge (b := 26) (by omega) (by first | decide | simp)), if_neg (nbad (by omega) (by first | decide | simp)), nI_clamp (by omega)]
    show _ = some (if wLet.getD i 0 = y then i else fnd y m (i + 1), M)
    by_cases z : wLet.getD i 0 = y
    · rw [if_pos z, if_pos (lg0.mpr z)]
    · rw [if_neg z, if_neg (fun q => z (lg0.mp q))]
      dsimp only [nm]
      rw [nI_1]
      exact ih (i + 1) f (by omega) (by omega)
theorem kw_in : ∀ w, w < 25 → fnd (wLet.getD w 0) 26 0 = w ∧ srch (wLet.getD w 0) 25 0 (-1) = kmap w := by decide +kernel
theorem kw_sub : ∀ i, i < 25 → ∃ w, w < 25 ∧ kwN.getD i 0 = wLet.getD w 0 := by decide +kernel
theorem srch_no {y : Int64} (h : ∀ i, i < 25 → ¬ kwN.getD i 0 = y) : ∀ (m i : Nat) (d : Int32), i + m = 25 → srch y m i d = d := by
  intro m
  induction m with
  | zero => intro i d _; rfl
  | succ m ih =>
    intro i d hi
    show srch y m (i + 1) (if kwN.getD i 0 = y then nI i else d) = d
    rw [if_neg (h i (by omega)), ih (i + 1) d (by omega)]
theorem fnd_no {y : Int64} (h : ∀ i, i < 25 → ¬ wLet.getD i 0 = y) : ∀ (m i : Nat), i + m = 26 → fnd y m i = 25 := by
  intro m
  induction m with
  | zero => intro i _; rfl
  | succ m ih =>
    intro i hi
    show (if wLet.getD i 0 = y then i else fnd y m (i + 1)) = 25
    by_cases q : i = 25
    · subst q
      by_cases z : wLet.getD 25 0 = y
      · rw [if_pos z]
      · rw [if_neg z, ih 26 (by omega)]
    · rw [if_neg (h i (by omega)), ih (i + 1) (by omega)]
/-- both sides find the same word -/
theorem kw_same (y : Int64) : fnd y 26 0 < 26 ∧ srch y 25 0 (-1) = kmap (fnd y 26 0) := by
  by_cases h : ∃ w, w < 25 ∧ wLet.getD w 0 = y
  · obtain ⟨w, hw, rfl⟩ := h
    obtain ⟨h1, h2⟩ := kw_in w hw
    rw [h1]
    exact ⟨by omega, h2⟩
  · have h1 : ∀ i, i < 25 → ¬ wLet.getD i 0 = y := fun i hi q => h ⟨i, hi, q⟩
    have h2 : ∀ i, i < 25 → ¬ kwN.getD i 0 = y := fun i hi q => by
      obtain ⟨w, hw, e⟩ := kw_sub i hi
      exact h1 w hw (e.symm.trans q)
    rw [fnd_no h1 26 0 rfl, srch_no h2 25 0 _ rfl]
    exact ⟨by decide, by decide⟩
