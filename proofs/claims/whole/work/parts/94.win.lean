/-! ===== entries from the start; window ===== -/
theorem wI_sf {V : LM} {a : Cl} {x : Int32} (h : V.1 a = x) : wI V a x = V := by
  refine Prod.ext (funext fun b => ?_) rfl
  show (wI V a x).1 b = V.1 b
  rw [rdw]
  by_cases q : b = a
  · rw [if_pos q, q, h]
  · rw [if_neg q]
theorem B_entries {len p k w s : Nat} {M N : Mem} {L V : LM} (hs : s < 2) (h : PT len p k w M N L V) : ∃ M' N', f_X12_parseEntries (nI s) (nI (capE s)) N = some ((), N') ∧ FC M M' ∧ FM N N' ∧ BodyO len p (f_X4_readEntries 2 s M) M' N' := by
  have hc8 := capE8 (j := s)
  obtain ⟨M', N', a1, a2, a3, a4⟩ := en_loop hs fuelN fuelN p k w 0 1 M N L V (by unfold fuelN; omega) (by unfold fuelN; omega) (Nat.zero_le _) ⟨h.1, h.2.1, h.2.2.1, by rw [wI_sf (h.2.2.2.1.1.1 (5, 1, s) rfl)]; exact h.2.2.2.1, h.2.2.2.2⟩ (fun z => absurd z (by first | decide | simp)) (fun _ => (by first | decide | simp))
  refine ⟨M', N', a1, a2, a3, ?_⟩
  unfold f_X4_readEntries
  dsimp only [nm]
  rw [capE_ak hs]
  exact a4
def wE5 (r1 : Int32) (M40 : Mem) : Option (Unit × Mem) := bnd (f_X12_require 18 M40) (fun _ M42 => bnd (f_X12_parseMask r1 M42) (fun r44 M45 => some ((), M45)))
def wE4 (r1 : Int32) (M30 : Mem) : Option (Unit × Mem) := bnd (f_X12_require 17 M30) (fun _ M32 => bnd (f_X12_drafts (42 + r1) M32) (fun r34 M35 => bnd (f_X12_readNumber 1 15 M35) (fun r37 M38 => if bad r34 104 then none else nm (uI M38 (31, 0, 0) (Int32.toNatClampNeg r34) r37) (fun M40 => wE5 r1 M40))))
def wE3 (r1 r14 r20 : Int32) (M21 : Mem) : Option (Unit × Mem) := bnd (f_X12_win r1 0 M21) (fun r23 M24 => if bad (1888 + r23) 2360 then none else nm (uI M24 (32, 0, 0) (Int32.toNatClampNeg (1888 + r23)) r14) (fun M26 => bnd (f_X12_win r1 1 M26) (fun r27 M28 => if bad (1888 + r27) 2360 then none else nm (uI M28 (32, 0, 0) (Int32.toNatClampNeg (1888 + r27)) r20) (fun M30 => wE4 r1 M30))))
def wE2 (r1 r14 : Int32) (M15 : Mem) : Option (Unit × Mem) := bnd (f_X12_require 16 M15) (fun _ M18 => bnd (f_X12_readNumber r14 65535 M18) (fun r20 M21 => wE3 r1 r14 r20 M21))
def wE1 (r1 : Int32) (M10 : Mem) : Option (Unit × Mem) := bnd (f_X12_require 15 M10) (fun _ M12 => bnd (f_X12_readNumber 0 65535 M12) (fun r14 M15 => wE2 r1 r14 M15))
theorem pw40_eq {f : Int32} {N : Mem} : f_X12_parseWindow_40 f N = bnd (f_X12_readOnce 2 f N) (fun r1 M2 => bnd (f_X12_ok M2) (fun r4 M5 => if r4 = 0 then some ((), M5) else bnd (f_X12_drafts (48 + r1) M5) (fun r7 M8 => if bad r7 104 then none else nm (uI M8 (31, 0, 0) (Int32.toNatClampNeg r7) 1) (fun M10 => wE1 r1 M10)))) := Eq.trans (by unfold f_X12_parseWindow_40; exact rfl) rfl
theorem wE5_f {a : Nat} (ha : a < 3) {N : Mem} (h : ¬ N.1 (10, 0, 0) 16 = 0) : ∃ N', wE5 (nI a) N = some ((), N') ∧ FN N N' := by
  refine ⟨uI N (31, 0, 0) (52 + (45 + a)) 0, ?_, (LN.S (by omega)).n⟩
  unfold wE5 f_X12_parseMask
  rw [req_f h, bnd_some, show f_X12_parseMask_4 fuelN (nI a) 0 1 N = _ from Eq.trans (by unfold fuelN f_X12_parseMask_4; exact rfl) rfl, ok0 h, bnd_some, if_pos rfl]
  unfold f_X12_parseMask_111
  rw [drf, bnd_some, show (45 : Int32) = nI 45 from rfl, ix2, if_neg (nbad (by omega) (by first | decide | simp)), nI_clamp (by omega)]
  rfl
theorem wE4_f {a : Nat} (ha : a < 3) {N : Mem} (h : ¬ N.1 (10, 0, 0) 16 = 0) : ∃ N', wE4 (nI a) N = some ((), N') ∧ FN N N' := by
  have f1 : FN N (uI N (31, 0, 0) (52 + (42 + a)) 1) := (LN.S (by omega)).n
  obtain ⟨N', e1, e2⟩ := wE5_f ha (f1.z h)
  refine ⟨N', ?_, f1.trans e2⟩
  unfold wE4
  rw [req_f h, bnd_some, drf, bnd_some, rn_f h, bnd_some, show (42 : Int32) = nI 42 from rfl, ix2, if_neg (nbad (by omega) (by first | decide | simp)), nI_clamp (by omega)]
  exact e1
theorem ixw {a k : Nat} : (1888 : Int32) + kWn a k = nI (1888 + (108 + 8 * a + k)) := by
  unfold kWn
  rw [show (1888 : Int32) = nI 1888 from rfl, nI_add]
theorem wE3_eq {a : Nat} (ha : a < 3) {r14 r20 : Int32} {N : Mem} : wE3 (nI a) r14 r20 N = wE4 (nI a) (uI (uI N (32, 0, 0) (1888 + (108 + 8 * a + 0)) r14) (32, 0, 0) (1888 + (108 + 8 * a + 1)) r20) := by
  unfold wE3
  rw [win_0, bnd_some, ixw, if_neg (nbad (by omega) (by first | decide | simp)), nI_clamp (by omega)]
  dsimp only [nm]
  rw [win_1, bnd_some, ixw, if_neg (nbad (by omega) (by first | decide | simp)), nI_clamp (by omega)]
theorem wE3_f {a : Nat} (ha : a < 3) {r14 r20 : Int32} {N : Mem} (h : ¬ N.1 (10, 0, 0) 16 = 0) : ∃ N', wE3 (nI a) r14 r20 N = some ((), N') ∧ FN N N' := by
  have f1 : FN N (uI (uI N (32, 0, 0) (1888 + (108 + 8 * a + 0)) r14) (32, 0, 0) (1888 + (108 + 8 * a + 1)) r20) := (LN.A (by omega)).n.trans (LN.A (by omega)).n
  obtain ⟨N', e1, e2⟩ := wE4_f ha (f1.z h)
  exact ⟨N', by rw [wE3_eq ha]; exact e1, f1.trans e2⟩
theorem wE2_f {a : Nat} (ha : a < 3) {r14 : Int32} {N : Mem} (h : ¬ N.1 (10, 0, 0) 16 = 0) : ∃ N', wE2 (nI a) r14 N = some ((), N') ∧ FN N N' := by
  obtain ⟨N', e1, e2⟩ := wE3_f ha (r14 := r14) (r20 := r14) h
  refine ⟨N', ?_, e2⟩
  unfold wE2
  rw [req_f h, bnd_some, rn_f h, bnd_some]
  exact e1
theorem wE1_f {a : Nat} (ha : a < 3) {N : Mem} (h : ¬ N.1 (10, 0, 0) 16 = 0) : ∃ N', wE1 (nI a) N = some ((), N') ∧ FN N N' := by
  obtain ⟨N', e1, e2⟩ := wE2_f ha (r14 := 0) h
  refine ⟨N', ?_, e2⟩
  unfold wE1
  rw [req_f h, bnd_some, rn_f h, bnd_some]
  exact e1
/-- the class's high bound against a number from the low bound on -/
theorem HB {len p k w lo : Nat} {M N : Mem} (h : TS len p k w M N) (hl : lo ≤ 65535) : ∃ M' r N', f_X12_readNumber (nI lo) (nI 65535) N = some (r, N') ∧ SC M M' ∧ SM N N' ∧ NumO len p lo 65535 (f_X4_takeHighBound (nI lo) M) M' r N' := by
  have z1 : ∀ {M : Mem}, (if ¬ ((1 : Int32) = 0 ∨ (1 : Int32) = 1) then none else some ((1 : Int32), M)) = some (1, M) := fun {M} => if_neg (fun q => q (Or.inr rfl))
  have z0 : ∀ {M : Mem}, (if ¬ ((0 : Int32) = 0 ∨ (0 : Int32) = 1) then none else some ((0 : Int32), M)) = some (0, M) := fun {M} => if_neg (fun q => q (Or.inl rfl))
  obtain ⟨k1, k2, k3⟩ := h.k
  by_cases q : k = 2 ∧ ∃ v, v < lo ∧ M.1 (6, 0, 0) 6 = nI v ∧ N.1 (10, 0, 0) 13 = nI v
  · obtain ⟨rfl, v, hv, v1, v2⟩ := q
    obtain ⟨M', N', f1, f2, f3, f4, f5⟩ := fail2 (x := 2) h (by first | decide | simp)
    refine ⟨M', nI lo, N', ?_, f3, f4, Or.inr ⟨?_, f5⟩⟩
    · unfold f_X12_readNumber
      rw [ok1 h.2.2, bnd_some, if_neg (by first | decide | simp), k2, if_pos (by first | decide | simp), v2, iR0 (fun z => nI_ge hv (by omega) z.1), bnd_some, if_pos rfl, f2, bnd_some, rn42_f f5.2.2]
    · unfold f_X4_takeHighBound
      rw [k1, if_pos (show nI 2 = (2 : Int32) from rfl), v1, if_neg (nI_ge hv (by omega)), f1, bnd_some, z0]
  · by_cases kk : k = 2
    · subst kk
      obtain ⟨v, hv, v1, v2⟩ := h.num
      have hlv : lo ≤ v := Nat.le_of_not_lt (fun z => q ⟨rfl, v, z, v1, v2⟩)
      have ec : f_X4_takeHighBound (nI lo) M = bnd (f_X4_takeNumber 19 0 M) (fun r4 M5 => if ¬ (r4 = 0 ∨ r4 = 1) then none else some (r4, M5)) := by
        unfold f_X4_takeHighBound
        rw [k1, if_pos (show nI 2 = (2 : Int32) from rfl), v1, if_pos (nI_le hlv (by omega))]
      by_cases hr : v ≤ 65535
      · obtain ⟨M', N', p', k', w', n1, n2, n3, n4, n5, n6, n7⟩ := nx_ts (h.c3 (j := 3) (x := nI v))
        refine ⟨M', nI v, N', ?_, (SC.u3 (Or.inl rfl)).trans n3.s, n4.s, Or.inl ⟨?_, v, p', k', w', hlv, hr, rfl, ?_, n5, n6, n7⟩⟩
        · unfold f_X12_readNumber f_X12_readNumber_42 f_X12_readNumber_58
          dsimp only [nm]
          rw [ok1 h.2.2, bnd_some, if_neg (by first | decide | simp), k2, if_pos (by first | decide | simp), v2, iR1 ⟨nI_le hlv (by omega), nI_le hr (by first | decide | simp)⟩, bnd_some, if_neg (by first | decide | simp), v2, ok1 h.2.2, bnd_some, if_neg (by first | decide | simp), n2, bnd_some, ok1 n5.2.2, bnd_some, if_neg (by first | decide | simp)]
        · rw [ec, tk_ok h v1 hv (zlo (wd := 19) rfl) (hi := 65535) rfl (by first | decide | simp) ⟨Nat.zero_le v, hr⟩ (m0 (k := 2) (M := M) (lo := 0) (hi := v) v rfl v1 (Nat.zero_le v) (Nat.le_refl v)), n1, bnd_some, bnd_some, z1]
        · rw [n3.1 _ _ (Or.inl (by simp))]
          exact uI_at
      · obtain ⟨M', N', f1, f2, f3, f4, f5⟩ := fail2 (x := 2) h (by first | decide | simp)
        refine ⟨M', nI lo, N', ?_, f3, f4, Or.inr ⟨?_, f5⟩⟩
        · unfold f_X12_readNumber
          rw [ok1 h.2.2, bnd_some, if_neg (by first | decide | simp), k2, if_pos (by first | decide | simp), v2, iR0 (fun z => hr ((lo_iff (by omega) (by first | decide | simp)).mp z.2)), bnd_some, if_pos rfl, f2, bnd_some, rn42_f f5.2.2]
        · rw [ec, tk_no h v1 hv (zlo (wd := 19) rfl) (hi := 65535) rfl (by first | decide | simp) (by omega), f1, bnd_some, z0, bnd_some, z0]
    · obtain ⟨M', N', f1, f2, f3, f4, f5⟩ := fail2 (x := 1) h (by first | decide | simp)
      have q2 : ¬ nI k = 2 := fun z => kk (nIi (b := 2) z (by omega) (by first | decide | simp))
      refine ⟨M', nI lo, N', ?_, f3, f4, Or.inr ⟨?_, f5⟩⟩
      · unfold f_X12_readNumber
        rw [ok1 h.2.2, bnd_some, if_neg (by first | decide | simp), k2, if_neg q2, f2, bnd_some, rn42_f f5.2.2]
      · unfold f_X4_takeHighBound
        rw [k1, if_neg q2, tk_k h kk, f1, bnd_some, z0, bnd_some, z0]
