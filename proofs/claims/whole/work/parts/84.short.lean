/-! ===== pace, group, queue, over ===== -/
theorem B_pace {len p k w : Nat} {M N : Mem} {L V : LM} (h : PT len p k w M N L V) : ∃ M' N', (bnd (f_X12_readNumber 0 999 N) (fun r47 M48 => if bad 1898 2360 then none else nm (uI M48 (32, 0, 0) (Int32.toNatClampNeg 1898) r47) (fun M50 => some ((), M50)))) = some ((), N') ∧ FC M M' ∧ FM N N' ∧ BodyO len p (f_X4_readPace M) M' N' := by
  obtain ⟨M1, r, N1, e1, o⟩ := B_num (wd := 10) (lo := 0) (hi := 999) (a := (2, 14, 0)) h rfl rfl (by first | decide | simp) (by first | decide | simp) rfl (by first | decide | simp) (by first | decide | simp) rfl (fun v v1 v2 => h.2.2.2.1.2.1.q (by first | decide | simp) (by first | decide | simp) (by first | decide | simp) (by simp) (by simp) (by simp) (by simp) (by simp) (by simp) (by simp) (by simp) (by simp) (by simp) (by simp) (fun _ => ⟨v, v2, rfl⟩)) (W_A (i := 10) rfl (by first | decide | simp))
  rw [show nI 0 = (0 : Int32) from rfl, show nI 999 = (999 : Int32) from rfl] at e1
  have em : (bnd (f_X12_readNumber 0 999 N) (fun r47 M48 => if bad 1898 2360 then none else nm (uI M48 (32, 0, 0) (Int32.toNatClampNeg 1898) r47) (fun M50 => some ((), M50)))) = some ((), uI N1 (32, 0, 0) (1888 + 10) r) := by
    rw [e1, bnd_some, if_neg (by first | decide | simp)]
    rfl
  unfold f_X4_readPace
  rcases o with ⟨c, v, p', k', w', v1, v2, v3, q, v5, v6, v7⟩ | ⟨c, fb, f1, f2⟩
  · refine ⟨_, _, em, v6, v7, Or.inl ⟨?_, p', k', w', _, _, q, v5⟩⟩
    rw [c, bnd_some, if_neg (by first | decide | simp)]
    dsimp only [nm]
    rw [v3]
  · refine ⟨_, _, em, f1, f2, Or.inr (Or.inl ⟨?_, fb⟩)⟩
    rw [c, bnd_some, if_pos rfl]
theorem drf {x : Int32} {N : Mem} : f_X12_drafts x N = some (52 + x, N) := rfl
theorem B_group {len p k w : Nat} {M N : Mem} {L V : LM} (h : PT len p k w M N L V) : ∃ M' N', (bnd (f_X12_drafts 5 N) (fun r10 M11 => bnd (f_X12_readNumber 1 8 M11) (fun r13 M14 => if bad r10 104 then none else nm (uI M14 (31, 0, 0) (Int32.toNatClampNeg r10) r13) (fun M16 => some ((), M16))))) = some ((), N') ∧ FC M M' ∧ FM N N' ∧ BodyO len p (f_X4_readGroup M) M' N' := by
  obtain ⟨M1, r, N1, e1, o⟩ := B_num (wd := 3) (lo := 1) (hi := 8) (a := (5, 2, 0)) h rfl rfl (by first | decide | simp) (by first | decide | simp) rfl (by first | decide | simp) (by first | decide | simp) rfl (fun v v1 v2 => h.2.2.2.1.2.1.q (by first | decide | simp) (by first | decide | simp) (by first | decide | simp) (by simp) (by simp) (fun _ => ⟨v, v2, rfl⟩) (by simp) (by simp) (by simp) (by simp) (by simp) (by simp) (by simp) (by simp) (by simp)) (W_S (i := 5) rfl (by first | decide | simp))
  rw [show nI 1 = (1 : Int32) from rfl, show nI 8 = (8 : Int32) from rfl] at e1
  have em : (bnd (f_X12_drafts 5 N) (fun r10 M11 => bnd (f_X12_readNumber 1 8 M11) (fun r13 M14 => if bad r10 104 then none else nm (uI M14 (31, 0, 0) (Int32.toNatClampNeg r10) r13) (fun M16 => some ((), M16))))) = some ((), uI N1 (31, 0, 0) (52 + 5) r) := by
    rw [drf, bnd_some, e1, bnd_some, if_neg (by first | decide | simp)]
    rfl
  unfold f_X4_readGroup
  rcases o with ⟨c, v, p', k', w', v1, v2, v3, q, v5, v6, v7⟩ | ⟨c, fb, f1, f2⟩
  · refine ⟨_, _, em, v6, v7, Or.inl ⟨?_, p', k', w', _, _, q, v5⟩⟩
    rw [c, bnd_some, if_neg (by first | decide | simp)]
    dsimp only [nm]
    rw [v3]
  · refine ⟨_, _, em, f1, f2, Or.inr (Or.inl ⟨?_, fb⟩)⟩
    rw [c, bnd_some, if_pos rfl]
/-- a word that may stand there sets a flag -/
theorem B_flag {len p k w a : Nat} {b : Cl} {M N : Mem} {L V : LM} {i : Nat} (h : PT len p k w M N L V) (ha : a < 25) (hi : i < 52) (e : cS i = b) (hb : stb b = true) (h8 : ¬ (b.1 = 8 ∧ b.2.1 = 0)) (h4 : ¬ (b.1 = 4 ∧ b.2.1 = 1)) (hcv : cvK b.1 = true) (hS : ∀ v, bz v → St (wI L b v)) :
    ∃ M1 N1 r p' k' w', f_X12_accepts (kmap a) N = some (r, N1) ∧ f_X4_skipWord a M = some (r, M1) ∧ bz r ∧ PT len p' k' w' (uI M1 (b.1, 2, b.2.2) b.2.1 r) (uI N1 (31, 0, 0) (52 + i) r) (wI L b r) (wI V b r) ∧ p ≤ p' ∧ FC M (uI M1 (b.1, 2, b.2.2) b.2.1 r) ∧ FM N (uI N1 (31, 0, 0) (52 + i) r) := by
  obtain ⟨hT, hC, hM, hQ, hK⟩ := h
  obtain ⟨M1, N1, r, p', k', w', e1, e2, e3, e4, e5, e6, e7, e8⟩ := SW hT ha
  have c1 : LC M1 (uI M1 (b.1, 2, b.2.2) b.2.1 r) := LC.u hcv h4
  obtain ⟨n1, n2⟩ := W_S (V := V) e hi N1 r
  exact ⟨M1, N1, r, p', k', w', e1, e2, e3, ⟨e6.l c1 n1, (hC.s e4).u hcv, n2 (hM.s e5), hQ.w hb (hS r e3), (hK.s e4 e5).l c1 n1 (fun i => by rw [rdw, if_neg (fun q => h8 (by rw [← q]; exact ⟨rfl, rfl⟩))])⟩, e7, e4.2.trans c1.2.2, e5.2.trans n1.2.2⟩
def qE (M : Mem) : Option (Unit × Mem) := bnd (f_X12_drafts 8 M) (fun r34 M35 => bnd (f_X12_readNumber 1 16 M35) (fun r37 M38 => if bad r34 104 then none else nm (uI M38 (31, 0, 0) (Int32.toNatClampNeg r34) r37) (fun M40 => bnd (f_X12_drafts 9 M40) (fun r41 M42 => bnd (f_X12_accepts 23 M42) (fun r44 M45 => if r44 = 0 then f_X12_parseBehind_242 0 r41 M45 else f_X12_parseBehind_242 1 r41 M45)))))
theorem B_queue {len p k w : Nat} {M N : Mem} {L V : LM} (h : PT len p k w M N L V) : ∃ M' N', qE N = some ((), N') ∧ FC M M' ∧ FM N N' ∧ BodyO len p (f_X4_readQueue M) M' N' := by
  obtain ⟨M1, r, N1, e1, o⟩ := B_num (wd := 9) (lo := 1) (hi := 16) (a := (4, 2, 0)) h rfl rfl (by first | decide | simp) (by first | decide | simp) rfl (by first | decide | simp) (by first | decide | simp) rfl (fun v v1 v2 => h.2.2.2.1.2.1.q (by first | decide | simp) (by first | decide | simp) (by first | decide | simp) (by simp) (by simp) (by simp) (by simp) (by simp) (fun _ => ⟨v, v1, v2, rfl⟩) (by simp) (by simp) (by simp) (by simp) (by simp) (by simp)) (W_S (i := 8) rfl (by first | decide | simp))
  rw [show nI 1 = (1 : Int32) from rfl, show nI 16 = (16 : Int32) from rfl] at e1
  have em : qE N = bnd (f_X12_accepts 23 (uI N1 (31, 0, 0) (52 + 8) r)) (fun r44 M45 => if r44 = 0 then f_X12_parseBehind_242 0 (52 + 9) M45 else f_X12_parseBehind_242 1 (52 + 9) M45) := by
    unfold qE
    rw [drf, bnd_some, e1, bnd_some, if_neg (by first | decide | simp)]
    dsimp only [nm]
    rw [drf, bnd_some]
    rfl
  unfold f_X4_readQueue
  rcases o with ⟨c, v, p', k', w', v1, v2, v3, q, v5, v6, v7⟩ | ⟨c, fb, f1, f2⟩
  · obtain ⟨M2, N2, b, p2, k2, w2, g1, g2, g3, g4, g5, g6, g7⟩ := B_flag (a := 24) (b := (4, 3, 0)) (i := 9) q (by first | decide | simp) (by first | decide | simp) rfl rfl (by first | decide | simp) (by first | decide | simp) rfl (fun x hx => q.2.2.2.1.2.1.q (by first | decide | simp) (by first | decide | simp) (by first | decide | simp) (by simp) (by simp) (by simp) (by simp) (fun _ => hx) (by simp) (by simp) (by simp) (by simp) (by simp) (by simp) (by simp))
    refine ⟨_, _, ?_, v6.trans g6, v7.trans g7, Or.inl ⟨?_, p2, k2, w2, _, _, g4, by omega⟩⟩
    · rw [em]
      rw [show kmap 24 = (23 : Int32) by decide] at g1
      rw [g1, bnd_some]
      unfold f_X12_parseBehind_242
      rcases g3 with rfl | rfl
      · rw [if_pos rfl, if_neg (by first | decide | simp)]; rfl
      · rw [if_neg (by first | decide | simp), if_neg (by first | decide | simp)]; rfl
    · rw [c, bnd_some, if_neg (by first | decide | simp)]
      dsimp only [nm]
      rw [v3, g2, bnd_some, if_neg (nbz g3)]
  · refine ⟨_, _, ?_, f1, f2.trans (LN.S (k := 52 + 9) (x := 0) (by first | decide | simp)).2.2, Or.inr (Or.inl ⟨by rw [c, bnd_some, if_pos rfl], fb.n (LN.S (by first | decide | simp)).n⟩)⟩
    rw [em, acc_f fb.2.2, bnd_some, if_pos rfl]
    unfold f_X12_parseBehind_242
    rw [if_neg (by first | decide | simp)]
    rfl
