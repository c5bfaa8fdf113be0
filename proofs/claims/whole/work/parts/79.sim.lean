/-! ===== parsing: both sides step together, or fail together ===== -/
def wC (o : Oid) (k : Nat) : Prop := (o = (6, 0, 0) ∧ k ≠ 1) ∨ o = (3, 0, 0) ∨ (cvK o.1 = true ∧ o.2.1 = 2 ∧ ¬ (o.1 = 4 ∧ k = 1))
def wM (o : Oid) (k : Nat) : Prop := (o = (10, 0, 0) ∧ 10 ≤ k) ∨ (o = (31, 0, 0) ∧ 52 ≤ k) ∨ (o = (32, 0, 0) ∧ 1888 ≤ k) ∨ o.1 = 36 ∨ o.1 = 37 ∨ o.1 = 38
def FC (M M' : Mem) : Prop := (∀ o k, ¬ wC o k → M'.1 o k = M.1 o k) ∧ (∀ o k, o ≠ (6, 0, 0) → M'.2.1 o k = M.2.1 o k) ∧ M'.2.2 = M.2.2
def FM (N N' : Mem) : Prop := (∀ o k, ¬ wM o k → N'.1 o k = N.1 o k) ∧ N'.2 = N.2
theorem FC.refl (M : Mem) : FC M M := ⟨fun _ _ _ => rfl, fun _ _ _ => rfl, rfl⟩
theorem FM.refl (N : Mem) : FM N N := ⟨fun _ _ _ => rfl, rfl⟩
theorem FC.trans {M M' M'' : Mem} (h : FC M M') (k : FC M' M'') : FC M M'' := ⟨fun o i q => (k.1 o i q).trans (h.1 o i q), fun o i q => (k.2.1 o i q).trans (h.2.1 o i q), k.2.2.trans h.2.2⟩
theorem FM.trans {N N' N'' : Mem} (h : FM N N') (k : FM N' N'') : FM N N'' := ⟨fun o i q => (k.1 o i q).trans (h.1 o i q), k.2.trans h.2⟩
theorem FC.u {M : Mem} {o : Oid} {k : Nat} {x : Int32} (h : wC o k) : FC M (uI M o k x) := ⟨fun q i z => uI_q (fun y => z (by rw [y.1, y.2]; exact h)), fun _ _ _ => rfl, rfl⟩
theorem FM.u {N : Mem} {o : Oid} {k : Nat} {x : Int32} (h : wM o k) : FM N (uI N o k x) := ⟨fun q i z => uI_q (fun y => z (by rw [y.1, y.2]; exact h)), rfl⟩
theorem FT.c {M M' : Mem} (h : FT M M') : FC M M' := ⟨fun o k z => h.1 o k (by
  by_cases q : o = (6, 0, 0)
  · exact Or.inr (Classical.byContradiction (fun y => z (Or.inl ⟨q, y⟩)))
  · exact Or.inl q), h.2.1, h.2.2⟩
theorem GT.m {N N' : Mem} (h : GT N N') : FM N N' := ⟨fun o k z => h.1 o k (by
  by_cases q : o = (10, 0, 0)
  · exact Or.inr (Or.inl (Nat.lt_of_not_le (fun y => z (Or.inl ⟨q, y⟩))))
  · exact Or.inl q), h.2⟩
theorem Sta.fr {len : Nat} {M N M' N' : Mem} (h : Sta len M N) (f : FC M M') (g : FM N N') (e7 : M'.1 (3, 0, 0) 8 = M.1 (3, 0, 0) 8) (e8 : M'.1 (3, 0, 0) 9 = M.1 (3, 0, 0) 9) (e17 : N'.1 (10, 0, 0) 17 = N.1 (10, 0, 0) 17) : Sta len M' N' := by
  have n1 : ¬ wC (6, 0, 0) 1 := by rintro (⟨_, q⟩ | q | ⟨q, _⟩) <;> first | exact q rfl | cases q
  have n2 : ∀ i, ¬ wC (22, 0, 0) i := by rintro i (⟨q, _⟩ | q | ⟨q, _⟩) <;> cases q
  have n3 : ¬ wM (10, 0, 0) 9 := by rintro (⟨_, q⟩ | ⟨q, _⟩ | ⟨q, _⟩ | q | q | q) <;> first | omega | cases q
  have n4 : ∀ i, ¬ wM (30, 0, 0) i := by rintro i (⟨q, _⟩ | ⟨q, _⟩ | ⟨q, _⟩ | q | q | q) <;> cases q
  exact ⟨h.1, by rw [f.1 _ _ n1]; exact h.2.1, by rw [g.1 _ _ n3]; exact h.2.2.1, fun i hi => by rw [f.1 _ _ (n2 i), g.1 _ _ (n4 i)]; exact h.2.2.2.1 i hi, fun i hi => by rw [g.2]; exact h.2.2.2.2.1 i hi, h.2.2.2.2.2.of e7 e8 e17⟩
/-- a token stands there on both sides, nothing has failed -/
def TS (len p k w : Nat) (M N : Mem) : Prop := Sta len M N ∧ (∃ s, Tok len s p k w M N) ∧ N.1 (10, 0, 0) 16 = 0
/-- both have failed alike -/
def Fb (M N : Mem) : Prop := M.1 (3, 0, 0) 8 = N.1 (10, 0, 0) 16 ∧ M.1 (3, 0, 0) 9 = N.1 (10, 0, 0) 17 ∧ ¬ N.1 (10, 0, 0) 16 = 0
/-- what is kept once the reference has failed -/
def FN (N N' : Mem) : Prop := FM N N' ∧ N'.1 (10, 0, 0) 16 = N.1 (10, 0, 0) 16 ∧ N'.1 (10, 0, 0) 17 = N.1 (10, 0, 0) 17
theorem FN.refl (N : Mem) : FN N N := ⟨FM.refl N, rfl, rfl⟩
theorem FN.trans {N N' N'' : Mem} (h : FN N N') (k : FN N' N'') : FN N N'' := ⟨h.1.trans k.1, k.2.1.trans h.2.1, k.2.2.trans h.2.2⟩
theorem FN.u {N : Mem} {o : Oid} {k : Nat} {x : Int32} (h : wM o k) (h2 : o.1 ≠ 10) : FN N (uI N o k x) := ⟨FM.u h, uI_no (fun q => h2 q.symm), uI_no (fun q => h2 q.symm)⟩
theorem Fb.n {M N N' : Mem} (h : Fb M N) (k : FN N N') : Fb M N' := ⟨h.1.trans k.2.1.symm, h.2.1.trans k.2.2.symm, by rw [k.2.1]; exact h.2.2⟩
theorem FN.z {N N' : Mem} (k : FN N N') (h : ¬ N.1 (10, 0, 0) 16 = 0) : ¬ N'.1 (10, 0, 0) 16 = 0 := by rw [k.2.1]; exact h
/-- small frames: tokens, the number read, what failed -/
def SC (M M' : Mem) : Prop := (∀ o k, o ≠ (6, 0, 0) → (o ≠ (3, 0, 0) ∨ k = 4 ∨ k = 5 ∨ k = 6 ∨ k = 7) → M'.1 o k = M.1 o k) ∧ FC M M'
def SM (N N' : Mem) : Prop := (∀ o k, o ≠ (10, 0, 0) → N'.1 o k = N.1 o k) ∧ FM N N'
theorem SC.refl (M : Mem) : SC M M := ⟨fun _ _ _ _ => rfl, FC.refl M⟩
theorem SM.refl (M : Mem) : SM M M := ⟨fun _ _ _ => rfl, FM.refl M⟩
theorem SC.trans {M M' M'' : Mem} (h : SC M M') (k : SC M' M'') : SC M M'' := ⟨fun o i q r => (k.1 o i q r).trans (h.1 o i q r), h.2.trans k.2⟩
theorem SM.trans {M M' M'' : Mem} (h : SM M M') (k : SM M' M'') : SM M M'' := ⟨fun o i q => (k.1 o i q).trans (h.1 o i q), h.2.trans k.2⟩
theorem FT.s {M M' : Mem} (h : FT M M') : SC M M' := ⟨fun o k q _ => h.1 o k (Or.inl q), h.c⟩
theorem GT.s {N N' : Mem} (h : GT N N') : SM N N' := ⟨fun o k q => h.1 o k (Or.inl q), h.m⟩
theorem SC.u3 {M : Mem} {k : Nat} {x : Int32} (h : k = 3 ∨ k = 8 ∨ k = 9) : SC M (uI M (3, 0, 0) k x) := ⟨fun o i _ q => uI_q (fun y => q.elim (fun z => z y.1) (fun z => by have := y.2; omega)), FC.u (Or.inr (Or.inl rfl))⟩
theorem SM.u {N : Mem} {k : Nat} {x : Int32} (h : 10 ≤ k) : SM N (uI N (10, 0, 0) k x) := ⟨fun o i q => uI_q (fun y => q y.1), FM.u (Or.inl ⟨rfl, h⟩)⟩
theorem ok1 {N : Mem} (h : N.1 (10, 0, 0) 16 = 0) : f_X12_ok N = some (1, N) := by unfold f_X12_ok; rw [if_pos h]
theorem ok0 {N : Mem} (h : ¬ N.1 (10, 0, 0) 16 = 0) : f_X12_ok N = some (0, N) := by unfold f_X12_ok; rw [if_neg h]
theorem mfk {N : Mem} {x : Int32} (h : ¬ N.1 (10, 0, 0) 16 = 0) : f_X12_fail x N = some ((), N) := by unfold f_X12_fail; rw [if_neg h]
/-- both fail at the token that stands there -/
theorem fail2 {len p k w : Nat} {M N : Mem} {x : Int32} (h : TS len p k w M N) (hx : ¬ x = 0) : ∃ M' N', f_X4_fail x M = some (0, M') ∧ f_X12_fail x N = some ((), N') ∧ SC M M' ∧ SM N N' ∧ Fb M' N' := by
  obtain ⟨hs, ⟨s, ht⟩, h16⟩ := h
  have t4 := ht.2.2.2.2.1
  have t12 := ht.2.2.2.2.2.1
  refine ⟨uI (uI M (3, 0, 0) 8 x) (3, 0, 0) 9 (nI s), uI (uI N (10, 0, 0) 16 x) (10, 0, 0) 17 (nI s), ?_, ?_, (SC.u3 (by first | decide | simp)).trans (SC.u3 (by first | decide | simp)), (SM.u (by first | decide | simp)).trans (SM.u (by first | decide | simp)), ?_, ?_, ?_⟩
  · unfold f_X4_fail
    dsimp only [nm]
    rw [uI_no (by simp), t4]
  · unfold f_X12_fail
    rw [if_pos h16]
    dsimp only [nm]
    rw [uIr, t12]
  · rw [uIr, uI_at, uIr, uI_at]
  · rw [uI_at, uI_at]
  · rw [uIr, uI_at]; exact hx
theorem nx_ts {len p k w : Nat} {M N : Mem} (h : TS len p k w M N) : ∃ M' N' p' k' w', f_X7_next M = some ((), M') ∧ f_X12_next N = some ((), N') ∧ FT M M' ∧ GT N N' ∧ TS len p' k' w' M' N' ∧ p ≤ p' ∧ (k' = 0 ∨ p < p') := by
  obtain ⟨hs, ⟨s, ht⟩, h16⟩ := h
  obtain ⟨M', N', s', p', k', w', q1, q2, q3, q4, q5, q6, q7⟩ := nx_both hs ht.2.2.2.2.2.2.1 ht.2.2.2.2.2.2.2.1 ht.2.1
  exact ⟨M', N', p', k', w', q1, q2, q3, q4, ⟨hs.of q3 q4, ⟨s', q5⟩, by rw [q4.1 _ _ (Or.inr (Or.inr (by first | decide | simp)))]; exact h16⟩, q6, q7⟩
theorem TS.k {len p k w : Nat} {M N : Mem} (h : TS len p k w M N) : M.1 (6, 0, 0) 5 = nI k ∧ N.1 (10, 0, 0) 11 = nI k ∧ k ≤ 4 := by
  obtain ⟨hs, ⟨s, ht⟩, h16⟩ := h
  exact ⟨ht.2.2.2.2.2.2.2.2.1, ht.2.2.2.2.2.2.2.2.2.1, ht.2.2.1⟩
theorem TS.num {len p w : Nat} {M N : Mem} (h : TS len p 2 w M N) : ∃ v, v ≤ 99999 ∧ M.1 (6, 0, 0) 6 = nI v ∧ N.1 (10, 0, 0) 13 = nI v := by
  obtain ⟨hs, ⟨s, ht⟩, h16⟩ := h
  exact ht.2.2.2.2.2.2.2.2.2.2.2.2.2.1 rfl
theorem kI {k : Nat} (hk : k ≤ 4) {n : Nat} (hn : n ≤ 4) : (nI k = nI n) = (k = n) := propext ⟨fun q => nIi q (by omega) (by omega), fun q => by rw [q]⟩
/-- the outcome of reading a number -/
def NumO (len p lo hi : Nat) (c : Option (Int32 × Mem)) (M' : Mem) (r : Int32) (N' : Mem) : Prop :=
  (c = some (1, M') ∧ ∃ v p' k' w', lo ≤ v ∧ v ≤ hi ∧ r = nI v ∧ M'.1 (3, 0, 0) 3 = nI v ∧ TS len p' k' w' M' N' ∧ p ≤ p' ∧ (k' = 0 ∨ p < p')) ∨ (c = some (0, M') ∧ Fb M' N')
theorem rn_f {lo hi : Int32} {N : Mem} (h : ¬ N.1 (10, 0, 0) 16 = 0) : f_X12_readNumber lo hi N = some (lo, N) := by
  unfold f_X12_readNumber
  rw [ok0 h, bnd_some, if_pos rfl]
theorem rn42_f {lo : Int32} {N : Mem} (h : ¬ N.1 (10, 0, 0) 16 = 0) : f_X12_readNumber_42 lo N = some (lo, N) := by
  unfold f_X12_readNumber_42
  dsimp only [nm]
  rw [ok0 h, bnd_some, if_pos rfl]
  unfold f_X12_readNumber_58
  rw [ok0 h, bnd_some, if_pos rfl]
theorem lo_iff {a b : Nat} (ha : a < 2 ^ 31) (hb : b < 2 ^ 31) : nI a ≤ nI b ↔ a ≤ b := ⟨fun q => Nat.le_of_not_lt (fun z => nI_ge z ha q), fun q => nI_le q hb⟩
theorem al_iff {w v lo hi : Nat} {M : Mem} (hv : v ≤ 99999) (hlo : ∀ v : Nat, v ≤ 99999 → (wLeast.getD w 0 ≤ nI v ↔ lo ≤ v)) (hhi : wMost.getD w 0 = nI hi) (hb : hi < 2 ^ 31) : f_X10_allows w (nI v) M = some (if lo ≤ v ∧ v ≤ hi then 1 else 0, M) := by
  by_cases q : lo ≤ v ∧ v ≤ hi
  · rw [al1 ⟨(hlo v hv).mpr q.1, by rw [hhi]; exact nI_le q.2 hb⟩, if_pos q]
  · rw [al0 (fun z => q ⟨(hlo v hv).mp z.1, by have := z.2; rw [hhi] at this; exact (lo_iff (by omega) hb).mp this⟩), if_neg q]
theorem Tok.c {len s p k w : Nat} {M M' N : Mem} (h : Tok len s p k w M N) (e : ∀ k, M'.1 (6, 0, 0) k = M.1 (6, 0, 0) k) : Tok len s p k w M' N := by
  unfold Tok at *
  rw [e, e, e, e, e]
  exact h
theorem Tok.m {len s p k w : Nat} {M N N' : Mem} (h : Tok len s p k w M N) (e : ∀ k, k < 16 → N'.1 (10, 0, 0) k = N.1 (10, 0, 0) k) : Tok len s p k w M N' := by
  unfold Tok at *
  rw [e 12 (by first | decide | simp), e 10 (by first | decide | simp), e 11 (by first | decide | simp), e 13 (by first | decide | simp), e 14 (by first | decide | simp), e 15 (by first | decide | simp)]
  exact h
theorem TS.c3 {len p k w j : Nat} {x : Int32} {M N : Mem} (h : TS len p k w M N) (hj : j = 3 := by rfl) : TS len p k w (uI M (3, 0, 0) j x) N := by
  obtain ⟨hs, ⟨s, ht⟩, h16⟩ := h
  exact ⟨hs.fr (FC.u (Or.inr (Or.inl rfl))) (FM.refl N) (if_neg (fun q => by have := q.2; omega)) (if_neg (fun q => by have := q.2; omega)) rfl, ⟨s, ht.c (fun k => uI_no (by simp))⟩, h16⟩
theorem TN {len p k w lo hi wd : Nat} {x2 : Int32} {M N : Mem} (h : TS len p k w M N) (hlo : ∀ v : Nat, v ≤ 99999 → (wLeast.getD wd 0 ≤ nI v ↔ lo ≤ v)) (hhi : wMost.getD wd 0 = nI hi) (hb : hi < 2 ^ 31) (hl : lo < 2 ^ 31)
    (hm : ∀ v : Nat, k = 2 → M.1 (6, 0, 0) 6 = nI v → lo ≤ v → v ≤ hi → ((x2 >>> (nI v &&& 31)) &&& 1) = 0) : ∃ M' r N', f_X12_readNumber (nI lo) (nI hi) N = some (r, N') ∧ SC M M' ∧ SM N N' ∧ NumO len p lo hi (f_X4_takeNumber wd x2 M) M' r N' := by
  obtain ⟨k1, k2, k3⟩ := h.k
  have z01 : ¬ ¬ ((0 : Int32) = 0 ∨ (0 : Int32) = 1) := fun q => q (Or.inl rfl)
  by_cases q : k = 2
  · subst q
    obtain ⟨v, hv, v1, v2⟩ := h.num
    by_cases r : lo ≤ v ∧ v ≤ hi
    · obtain ⟨M', N', p', k', w', n1, n2, n3, n4, n5, n6, n7⟩ := nx_ts (h.c3 (j := 3) (x := nI v))
      refine ⟨M', nI v, N', ?_, (SC.u3 (Or.inl rfl)).trans n3.s, n4.s, Or.inl ⟨?_, v, p', k', w', r.1, r.2, rfl, ?_, n5, n6, n7⟩⟩
      · unfold f_X12_readNumber f_X12_readNumber_42 f_X12_readNumber_58
        dsimp only [nm]
        rw [ok1 h.2.2, bnd_some, if_neg (by first | decide | simp), k2, if_pos (by first | decide | simp), v2, iR1 ⟨nI_le r.1 (by omega), nI_le r.2 hb⟩, bnd_some, if_neg (by first | decide | simp), v2, ok1 h.2.2, bnd_some, if_neg (by first | decide | simp), n2, bnd_some, ok1 n5.2.2, bnd_some, if_neg (by first | decide | simp)]
      · unfold f_X4_takeNumber
        dsimp only [nm]
        rw [k1, if_pos (by first | decide | simp), v1, al_iff hv hlo hhi hb, if_pos r, bnd_some, if_neg (by first | decide | simp), v1, if_pos (hm v rfl v1 r.1 r.2), n1, bnd_some]
      · rw [n3.1 _ _ (Or.inl (by simp))]
        exact uI_at
    · obtain ⟨M', N', f1, f2, f3, f4, f5⟩ := fail2 (x := 2) h (by first | decide | simp)
      refine ⟨M', nI lo, N', ?_, f3, f4, Or.inr ⟨?_, f5⟩⟩
      · unfold f_X12_readNumber
        rw [ok1 h.2.2, bnd_some, if_neg (by first | decide | simp), k2, if_pos (by first | decide | simp), v2, iR0 (fun z => r ⟨(lo_iff hl (by omega)).mp z.1, (lo_iff (by omega) hb).mp z.2⟩), bnd_some, if_pos rfl, f2, bnd_some, rn42_f f5.2.2]
      · unfold f_X4_takeNumber
        dsimp only [nm]
        rw [k1, if_pos (by first | decide | simp), v1, al_iff hv hlo hhi hb, if_neg r, bnd_some, if_pos rfl, f1, bnd_some, if_neg z01]
  · obtain ⟨M', N', f1, f2, f3, f4, f5⟩ := fail2 (x := 1) h (by first | decide | simp)
    have q2 : ¬ nI k = 2 := fun z => q (nIi (b := 2) z (by omega) (by first | decide | simp))
    refine ⟨M', nI lo, N', ?_, f3, f4, Or.inr ⟨?_, f5⟩⟩
    · unfold f_X12_readNumber
      rw [ok1 h.2.2, bnd_some, if_neg (by first | decide | simp), k2, if_neg q2, f2, bnd_some, rn42_f f5.2.2]
    · unfold f_X4_takeNumber
      dsimp only [nm]
      rw [k1, if_neg q2, f1, bnd_some, if_neg z01]
