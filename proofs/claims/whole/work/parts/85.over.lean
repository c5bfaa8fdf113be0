/-! ===== over, auto, discontinuous ===== -/
theorem B_word {len p k w a : Nat} {M N : Mem} {L V : LM} (h : PT len p k w M N L V) (ha : a < 25) : ∃ M' N', f_X12_require (kmap a) N = some ((), N') ∧ FC M M' ∧ FM N N' ∧ ((f_X4_takeWord a M = some (1, M') ∧ ∃ p' k' w', PT len p' k' w' M' N' L V ∧ p ≤ p') ∨ (f_X4_takeWord a M = some (0, M') ∧ Fb M' N')) := by
  obtain ⟨hT, hC, hM, hQ, hK⟩ := h
  obtain ⟨M', N', e1, e2, e3, o⟩ := TW hT ha
  refine ⟨M', N', e1, e2.2, e3.2, ?_⟩
  rcases o with ⟨c, p', k', w', t, t1, t2⟩ | ⟨c, fb⟩
  · exact Or.inl ⟨c, p', k', w', ⟨t, hC.s e2, hM.s e3, hQ, hK.s e2 e3⟩, t1⟩
  · exact Or.inr ⟨c, fb⟩
def oE4 (M17 : Mem) : Option (Unit × Mem) := bnd (f_X12_drafts 4 M17) (fun r18 M19 => bnd (f_X12_accepts 13 M19) (fun r21 M22 => if r21 = 0 then if bad r18 104 then none else nm (uI M22 (31, 0, 0) (Int32.toNatClampNeg r18) 0) (fun M24 => some ((), M24)) else if bad r18 104 then none else nm (uI M22 (31, 0, 0) (Int32.toNatClampNeg r18) 1) (fun M25 => some ((), M25))))
def oE3 (M9 : Mem) : Option (Unit × Mem) := bnd (f_X12_drafts 3 M9) (fun r11 M12 => bnd (f_X12_readNumber 0 4 M12) (fun r14 M15 => if bad r11 104 then none else nm (uI M15 (31, 0, 0) (Int32.toNatClampNeg r11) r14) (fun M17 => oE4 M17)))
def oE2 (M7 : Mem) : Option (Unit × Mem) := bnd (f_X12_require 12 M7) (fun r8 M9 => oE3 M9)
theorem parseOver_eq {N : Mem} : f_X12_parseOver N = bnd (f_X12_drafts 2 N) (fun r1 M2 => bnd (f_X12_readNumber 0 4 M2) (fun r4 M5 => if bad r1 104 then none else nm (uI M5 (31, 0, 0) (Int32.toNatClampNeg r1) r4) (fun M7 => oE2 M7))) := Eq.trans (by unfold f_X12_parseOver; exact rfl) rfl
theorem oE4_f {N : Mem} (h : ¬ N.1 (10, 0, 0) 16 = 0) : ∃ N', oE4 N = some ((), N') ∧ FN N N' := by
  refine ⟨uI N (31, 0, 0) (52 + 4) 0, ?_, (LN.S (by first | decide | simp)).n⟩
  unfold oE4
  rw [drf, bnd_some, acc_f h, bnd_some, if_pos rfl, if_neg (by first | decide | simp)]
  rfl
theorem oE3_f {N : Mem} (h : ¬ N.1 (10, 0, 0) 16 = 0) : ∃ N', oE3 N = some ((), N') ∧ FN N N' := by
  have f1 : FN N (uI N (31, 0, 0) (52 + 3) 0) := (LN.S (by first | decide | simp)).n
  obtain ⟨N', e1, e2⟩ := oE4_f (f1.z h)
  refine ⟨N', ?_, f1.trans e2⟩
  unfold oE3
  rw [drf, bnd_some, rn_f h, bnd_some, if_neg (by first | decide | simp)]
  exact e1
theorem oE2_f {N : Mem} (h : ¬ N.1 (10, 0, 0) 16 = 0) : ∃ N', oE2 N = some ((), N') ∧ FN N N' := by
  obtain ⟨N', e1, e2⟩ := oE3_f h
  refine ⟨N', ?_, e2⟩
  unfold oE2
  rw [req_f h, bnd_some]
  exact e1
theorem B_over {len p k w : Nat} {M N : Mem} {L V : LM} (h : PT len p k w M N L V) : ∃ M' N', f_X12_parseOver N = some ((), N') ∧ FC M M' ∧ FM N N' ∧ BodyO len p (f_X4_readOver M) M' N' := by
  obtain ⟨M1, r, N1, e1, o⟩ := B_num (wd := 6) (lo := 0) (hi := 4) (a := (2, 12, 0)) h rfl rfl (by first | decide | simp) (by first | decide | simp) rfl (by first | decide | simp) (by first | decide | simp) rfl (fun v v1 v2 => h.2.2.2.1.2.1.q (by first | decide | simp) (by first | decide | simp) (by first | decide | simp) (by simp) (by simp) (by simp) (fun _ => ⟨v, v2, rfl⟩) (by simp) (by simp) (by simp) (by simp) (by simp) (by simp) (by simp) (by simp)) (W_S (i := 2) rfl (by first | decide | simp))
  rw [show nI 0 = (0 : Int32) from rfl, show nI 4 = (4 : Int32) from rfl] at e1
  have em : f_X12_parseOver N = oE2 (uI N1 (31, 0, 0) (52 + 2) r) := by
    rw [parseOver_eq, drf, bnd_some, e1, bnd_some, if_neg (by first | decide | simp)]
    rfl
  unfold f_X4_readOver
  rcases o with ⟨c, v, p1, k1, w1, v1, v2, v3, q, v5, v6, v7⟩ | ⟨c, fb, f1, f2⟩
  rotate_left
  · obtain ⟨N', g1, g2⟩ := oE2_f fb.2.2
    exact ⟨M1, N', by rw [em, g1], f1, f2.trans g2.1, Or.inr (Or.inl ⟨by rw [c, bnd_some, if_pos rfl], fb.n g2⟩)⟩
  obtain ⟨M2, N2, d1, d2, d3, o2⟩ := B_word (a := 16) q (by first | decide | simp)
  rw [show kmap 16 = (12 : Int32) by decide] at d1
  have em2 : f_X12_parseOver N = oE3 N2 := by
    rw [em]
    unfold oE2
    rw [d1, bnd_some]
  have ec : ∀ K : Int32 → Mem → Option (Int32 × Mem), (bnd (f_X4_takeNumber 6 0 M) fun r1 M2 => if r1 = 0 then some (0, M2) else nm (uI M2 (2, 2, 0) 12 (M2.1 (3, 0, 0) 3)) (fun M4 => bnd (f_X4_takeWord 16 M4) K)) = bnd (f_X4_takeWord 16 (uI M1 (2, 2, 0) 12 (nI v))) K := fun K => by
    rw [c, bnd_some, if_neg (by first | decide | simp)]
    dsimp only [nm]
    rw [v3]
  rw [ec]
  rcases o2 with ⟨c2, p2, k2, w2, q2, u1⟩ | ⟨c2, fb⟩
  rotate_left
  · obtain ⟨N', g1, g2⟩ := oE3_f fb.2.2
    exact ⟨M2, N', by rw [em2, g1], v6.trans d2, (v7.trans d3).trans g2.1, Or.inr (Or.inl ⟨by rw [c2, bnd_some, if_pos rfl], fb.n g2⟩)⟩
  rw [c2, bnd_some, if_neg (by first | decide | simp)]
  obtain ⟨M3, r3, N3, e3, o3⟩ := B_num (wd := 16) (lo := 0) (hi := 4) (a := (2, 13, 0)) q2 rfl rfl (by first | decide | simp) (by first | decide | simp) rfl (by first | decide | simp) (by first | decide | simp) rfl (fun v v1 v2 => q2.2.2.2.1.2.1.q (by first | decide | simp) (by first | decide | simp) (by first | decide | simp) (by simp) (by simp) (by simp) (by simp) (by simp) (by simp) (by simp) (by simp) (by simp) (by simp) (by simp) (by simp)) (W_S (i := 3) rfl (by first | decide | simp))
  rw [show nI 0 = (0 : Int32) from rfl, show nI 4 = (4 : Int32) from rfl] at e3
  have em3 : f_X12_parseOver N = oE4 (uI N3 (31, 0, 0) (52 + 3) r3) := by
    rw [em2]
    unfold oE3
    rw [drf, bnd_some, e3, bnd_some, if_neg (by first | decide | simp)]
    rfl
  rcases o3 with ⟨c3, x, p3, k3, w3, x1, x2, x3, q3, x5, x6, x7⟩ | ⟨c3, fb, f1, f2⟩
  rotate_left
  · obtain ⟨N', g1, g2⟩ := oE4_f fb.2.2
    exact ⟨M3, N', by rw [em3, g1], (v6.trans d2).trans f1, ((v7.trans d3).trans f2).trans g2.1, Or.inr (Or.inl ⟨by rw [c3, bnd_some, if_pos rfl], fb.n g2⟩)⟩
  obtain ⟨M4, N4, b, p4, k4, w4, g1, g2, g3, g4, g5, g6, g7⟩ := B_flag (a := 17) (b := (2, 11, 0)) (i := 4) q3 (by first | decide | simp) (by first | decide | simp) rfl rfl (by first | decide | simp) (by first | decide | simp) rfl (fun x hx => q3.2.2.2.1.2.1.q (by first | decide | simp) (by first | decide | simp) (by first | decide | simp) (by simp) (by simp) (by simp) (by simp) (fun _ => hx) (by simp) (by simp) (by simp) (by simp) (by simp) (by simp) (by simp))
  rw [show kmap 17 = (13 : Int32) by decide] at g1
  refine ⟨_, _, ?_, ((v6.trans d2).trans x6).trans g6, ((v7.trans d3).trans x7).trans g7, Or.inl ⟨?_, p4, k4, w4, _, _, g4, by omega⟩⟩
  · rw [em3]
    unfold oE4
    rw [drf, bnd_some, g1, bnd_some]
    rcases g3 with rfl | rfl
    · rw [if_pos rfl, if_neg (by first | decide | simp)]; rfl
    · rw [if_neg (by first | decide | simp), if_neg (by first | decide | simp)]; rfl
  · rw [c3, bnd_some, if_neg (by first | decide | simp)]
    dsimp only [nm]
    rw [x3, g2, bnd_some, if_neg (nbz g3)]
