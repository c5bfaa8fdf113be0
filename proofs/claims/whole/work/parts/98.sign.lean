/-! ===== a statement's end ===== -/
def sE (M9 : Mem) : Option (Unit × Mem) := bnd (f_X12_ok M9) (fun r11 M12 => if r11 = 0 then some ((), M12) else bnd (f_X12_isSign 59 M12) (fun r14 M15 => if r14 = 0 then bnd (f_X12_fail 1 M15) (fun r17 M18 => some ((), M18)) else bnd (f_X12_next M15) (fun r20 M21 => some ((), M21))))
theorem ps50_eq {x : Int32} {N : Mem} : f_X12_parseStatement_50 x N = if bad x 25 then none else nm (uI N (36, 0, 0) (Int32.toNatClampNeg x) (1 &&& 1)) (fun M1 => bnd (f_X12_ok M1) (fun r2 M3 => if r2 = 0 then some ((), M3) else bnd (f_X12_next M3) (fun r5 M6 => bnd (f_X12_parseBehind x M6) (fun r8 M9 => sE M9)))) := Eq.trans (by unfold f_X12_parseStatement_50; exact rfl) rfl
/-- a statement with its semicolon: c what the class's statement says -/
def StmO (len p : Nat) (c : Option (Int32 × Mem)) (M' N' : Mem) : Prop :=
  (∃ M1, c = some (1, M1) ∧ f_X4_takeSign 59 M1 = some (1, M') ∧ ∃ p' k' w' L' V', PT len p' k' w' M' N' L' V' ∧ p ≤ p' ∧ (k' = 0 ∨ p < p')) ∨ ((c = some (0, M') ∨ ∃ M1, c = some (1, M1) ∧ f_X4_takeSign 59 M1 = some (0, M')) ∧ Fb M' N')
theorem cfail {x : Int32} {M : Mem} : f_X4_fail x M = some (0, uI (uI M (3, 0, 0) 8 x) (3, 0, 0) 9 (M.1 (6, 0, 0) 4)) := by
  unfold f_X4_fail
  dsimp only [nm]
  rw [uI_no (by simp)]
theorem SG {len p : Nat} {c : Option (Int32 × Mem)} {M N : Mem} (o : BodyO len p c M N) : ∃ M' N', sE N = some ((), N') ∧ FC M M' ∧ FM N N' ∧ StmO len p c M' N' := by
  rcases o with ⟨c1, p1, k1, w1, L1, V1, h, hp⟩ | ⟨c1, fb⟩ | ⟨c1, z1, z2, z3⟩
  · unfold sE
    rcases isG h.1 (c := 59) (Or.inr rfl) with ⟨g1, g2⟩ | ⟨g1, g2⟩
    · obtain ⟨M', N', p', k', w', n1, n2, n3, n4, n5, n6, n7⟩ := nx_ts h.1
      refine ⟨M', N', ?_, n3.c, n4.m, Or.inl ⟨M, c1, ?_, p', k', w', L1, V1, B_step h n3.s n4.s n5, by omega, n7.imp id (fun z => by omega)⟩⟩
      · rw [ok1 h.1.2.2, bnd_some, if_neg (by first | decide | simp), g2, bnd_some, if_neg (by first | decide | simp), n2, bnd_some]
      · unfold f_X4_takeSign f_X4_takeSign_16
        rw [g1, n1, bnd_some, bnd_some, if_neg (by first | decide | simp)]
    · obtain ⟨M', N', f1, f2, f3, f4, f5⟩ := fail2 (x := 1) h.1 (by first | decide | simp)
      refine ⟨M', N', ?_, f3.2, f4.2, Or.inr ⟨Or.inr ⟨M, c1, ?_⟩, f5⟩⟩
      · rw [ok1 h.1.2.2, bnd_some, if_neg (by first | decide | simp), g2, bnd_some, if_pos rfl, f2, bnd_some]
      · unfold f_X4_takeSign
        rw [g1, bnd_some, if_pos rfl, f1, bnd_some, if_pos rfl]
  · refine ⟨M, N, ?_, FC.refl M, FM.refl N, Or.inr ⟨Or.inl c1, fb⟩⟩
    unfold sE
    rw [ok0 fb.2.2, bnd_some, if_pos rfl]
  · have h16 : ¬ N.1 (10, 0, 0) 16 = 0 := by rw [z2]; decide
    refine ⟨uI (uI M (3, 0, 0) 8 1) (3, 0, 0) 9 (M.1 (6, 0, 0) 4), N, ?_, (FC.u (Or.inr (Or.inl rfl))).trans (FC.u (Or.inr (Or.inl rfl))), FM.refl N, Or.inr ⟨Or.inr ⟨M, c1, ?_⟩, ?_, ?_, h16⟩⟩
    · unfold sE
      rw [ok0 h16, bnd_some, if_pos rfl]
    · unfold f_X4_takeSign f_X4_skipSign
      rw [z1, if_neg (by first | decide | simp), bnd_some, if_pos rfl, cfail, bnd_some, if_pos rfl]
    · rw [uIr, uI_at, z2]
    · rw [uI_at, z3]
theorem kn_inj : ∀ a, a < 25 → ∀ b, b < 25 → kn a = kn b → a = b := by decide +kernel
theorem fw_lt {w : Nat} (h : fw w = true) : w < 25 := by
  unfold fw at h
  split at h <;> first | decide | cases h
/-- a statement's word is noted: by the reference alone, or by both -/
theorem PT.m36 {len p k w a : Nat} {M N : Mem} {L V : LM} (h : PT len p k w M N L V) (ha : a < 25) (hf : fw a = false) : PT len p k w M (uI N (36, 0, 0) (kn a) 1) L V ∧ FM N (uI N (36, 0, 0) (kn a) 1) := by
  obtain ⟨⟨hs, ⟨s, hk⟩, h16⟩, hC, hM, hQ, ka, kb, kc, kd⟩ := h
  have f2 : FM N (uI N (36, 0, 0) (kn a) 1) := FM.u (Or.inr (Or.inr (Or.inr (Or.inl rfl))))
  have n : ∀ o k, o.1 ≠ 36 → (uI N (36, 0, 0) (kn a) 1).1 o k = N.1 o k := fun o k ho => uI_no ho
  refine ⟨⟨⟨hs.fr (FC.refl M) f2 rfl rfl (n _ _ (by simp)), ⟨s, hk.m (fun k _ => n _ _ (by simp))⟩, by rw [n _ _ (by simp)]; exact h16⟩, hC, hM.ui (by simp) (by simp), hQ, ?_, ?_, kc, ?_⟩, f2⟩
  · refine ka.iff (fun i _ => ?_)
    by_cases y : fw i = true
    · rw [show (uI N (36, 0, 0) (kn a) 1).1 (36, 0, 0) (kn i) = N.1 (36, 0, 0) (kn i) from uI_q (fun q => by
        have := kn_inj i (fw_lt y) a ha q.2
        rw [this, hf] at y
        cases y)]
    · exact ⟨fun q => absurd q.1 y, fun q => absurd q.1 y⟩
  · exact kb.iff (fun i _ => by rw [n _ _ (by simp)])
  · exact kd.iff (fun i _ => by rw [n _ _ (by simp)])
theorem PT.m3 {len p k w a : Nat} {M N : Mem} {L V : LM} (h : PT len p k w M N L V) (hf : fw a = true) : PT len p k w (uI M (3, 0, 0) 4 ((M.1 (3, 0, 0) 4) ||| (wBit.getD a 0))) (uI N (36, 0, 0) (kn a) 1) L V ∧ FC M (uI M (3, 0, 0) 4 ((M.1 (3, 0, 0) 4) ||| (wBit.getD a 0))) ∧ FM N (uI N (36, 0, 0) (kn a) 1) := by
  obtain ⟨⟨hs, ⟨s, hk⟩, h16⟩, hC, hM, hQ, ka, kb, kc, kd⟩ := h
  have ha := fw_lt hf
  have f1 : FC M (uI M (3, 0, 0) 4 ((M.1 (3, 0, 0) 4) ||| (wBit.getD a 0))) := FC.u (Or.inr (Or.inl rfl))
  have f2 : FM N (uI N (36, 0, 0) (kn a) 1) := FM.u (Or.inr (Or.inr (Or.inr (Or.inl rfl))))
  have u : ∀ k, k ≠ 4 → (uI M (3, 0, 0) 4 ((M.1 (3, 0, 0) 4) ||| (wBit.getD a 0))).1 (3, 0, 0) k = M.1 (3, 0, 0) k := fun k hk => uI_q (fun q => hk q.2)
  have n : ∀ o k, o.1 ≠ 36 → (uI N (36, 0, 0) (kn a) 1).1 o k = N.1 o k := fun o k ho => uI_no ho
  refine ⟨⟨⟨hs.fr f1 f2 (u 8 (by first | decide | simp)) (u 9 (by first | decide | simp)) (n _ _ (by simp)), ⟨s, (hk.c (fun k => uI_no (by simp))).m (fun k _ => n _ _ (by simp))⟩, by rw [n _ _ (by simp)]; exact h16⟩, hC.u0 rfl, hM.ui (by simp) (by simp), hQ, ?_, ?_, ?_, ?_⟩, f1, f2⟩
  · rw [uI_at]
    refine (ka.wo (show a < 26 by omega)).iff (fun i _ => ?_)
    by_cases z : i = a
    · subst z
      rw [uI_at]
      exact ⟨fun _ => ⟨hf, by decide⟩, fun _ => Or.inr rfl⟩
    · by_cases y : fw i = true
      · rw [show (uI N (36, 0, 0) (kn a) 1).1 (36, 0, 0) (kn i) = N.1 (36, 0, 0) (kn i) from uI_q (fun q => z (kn_inj i (fw_lt y) a ha q.2))]
        exact ⟨fun q => q.resolve_right z, Or.inl⟩
      · exact ⟨fun q => q.elim (fun t => absurd t.1 y) (fun t => absurd t z), fun q => absurd q.1 y⟩
  · rw [u 5 (by first | decide | simp)]; exact kb.iff (fun i _ => by rw [n _ _ (by simp)])
  · rw [u 6 (by first | decide | simp)]; exact kc
  · rw [u 7 (by first | decide | simp)]; exact kd.iff (fun i _ => by rw [n _ _ (by simp)])
