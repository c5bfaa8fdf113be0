theorem fail_k {x : Int32} {N N' : Mem} (e : f_X12_fail x N = some ((), N')) {k : Nat} (h1 : k ≠ 16) (h2 : k ≠ 17) : N'.1 (10, 0, 0) k = N.1 (10, 0, 0) k := by
  unfold f_X12_fail at e
  by_cases q : N.1 (10, 0, 0) 16 = 0
  · rw [if_pos q] at e
    dsimp only [nm] at e
    cases e
    rw [uIr h2, uIr h1]
  · rw [if_neg q] at e
    cases e
    rfl
theorem b11 : ((1 : Int32) &&& 1) = 1 := by decide
theorem b01 : ((0 : Int32) &&& 1) = 0 := by decide
theorem tr77 {len p k w t x : Nat} {M N : Mem} {L V : LM} (h : PT len p k w M N L V) (ht : t < 4) (hx : x = 1 ∨ x = 2) : ∃ M3 N3 p' k' w', f_X7_next M = some ((), M3) ∧ f_X12_parseTrigger_77 (nI t) (nI x) (52 + (30 + nI t)) N = f_X12_parseTrigger_89 (nI t) N3 ∧ PT len p' k' w' (uI M3 (7, 2, t) 0 (nI x)) N3 (wI L (7, 0, t) (nI x)) (wI V (7, 0, t) (nI x)) ∧ p ≤ p' ∧ FC M (uI M3 (7, 2, t) 0 (nI x)) ∧ FM N N3 := by
  obtain ⟨hT, hC, hM, hQ, hK⟩ := h
  have n1 : LN N (uI N (31, 0, 0) (52 + (30 + t)) (nI x)) := LN.S (by omega)
  obtain ⟨M3, N3, p', k', w', a1, a2, a3, a4, a5, a6, a7⟩ := nx_ts (hT.l (LC.refl M) n1)
  have hM2 : hasM 4 52 (uI N (31, 0, 0) (52 + (30 + t)) (nI x)) (wI V (7, 0, t) (nI x)) := by
    rw [← (cS30 t ht).1]
    exact hM.uS (by omega)
  have c1 : LC M3 (uI M3 (7, 2, t) 0 (nI x)) := LC.u rfl (by simp)
  have hS : St (wI L (7, 0, t) (nI x)) := hQ.2.1.q (by simp) (by simp) (by simp) (by simp) (by simp) (by simp) (by simp) (by simp) (by simp) (fun _ _ => by rcases hx with rfl | rfl; exact Or.inr (Or.inl rfl); exact Or.inr (Or.inr rfl)) (by simp) (by simp) (by simp) (by simp) (by simp)
  refine ⟨M3, N3, p', k', w', a1, ?_, ⟨a5.l c1 (LN.refl N3), (hC.s a3.s).u rfl, hM2.s a4.s, hQ.w rfl hS, ((hK.l (LC.refl M) n1 (fun _ => rfl)).s a3.s a4.s).l c1 (LN.refl N3) (fun i => by rw [rdw, if_neg (by simp)])⟩, a6, a3.c.trans c1.2.2, n1.2.2.trans a4.m⟩
  unfold f_X12_parseTrigger_77
  rw [show (30 : Int32) = nI 30 from rfl, ix2, if_neg (nbad (by omega) (by first | decide | simp)), nI_clamp (by omega)]
  dsimp only [nm]
  have h16 : (uI N (31, 0, 0) (52 + (30 + t)) (nI x)).1 (10, 0, 0) 16 = 0 := by rw [n1.1]; exact hT.2.2
  rw [ok1 h16, bnd_some, if_neg (by first | decide | simp), a2, bnd_some]
theorem B_trigger {len p k w : Nat} {M N : Mem} {L V : LM} (h : PT len p k w M N L V) : ∃ M' N', f_X12_parseTrigger N = some ((), N') ∧ FC M M' ∧ FM N N' ∧ BodyO len p (tC M) M' N' := by
  obtain ⟨f, i1, ibz, i2⟩ := isT38 h.1
  obtain ⟨M1, r, N1, e1, s1, s2, o⟩ := RO (wd := 8) (hi := 3) (x2 := M.1 (3, 0, 0) 7) (f := f) h.1 (zlo rfl) rfl (by first | decide | simp) (fun v kk e hv => by
    rw [h.2.2.2.2.2.2.2.bit (by first | decide | simp) (show v < 4 by omega), i2 v kk e hv]
    exact Classical.not_not)
  rw [show nI 3 = (3 : Int32) from rfl] at e1
  unfold f_X12_parseTrigger tC
  rw [i1, bnd_some, e1, bnd_some]
  rcases o with ⟨c1, t, p1, k1, w1, _, ht3, rfl, v3, t1, t2, t3⟩ | ⟨c1, fb⟩
  rotate_left
  · exact ⟨M1, N1, by rw [ok0 fb.2.2, bnd_some, if_pos rfl], s1.2, s2.2, Or.inr (Or.inl ⟨by rw [c1, bnd_some, if_pos rfl], fb⟩)⟩
  have ht : t < 4 := by omega
  obtain ⟨hP, f1, f2⟩ := (B_step h s1 s2 t1).m6 ht
  have g1 := s1.2.trans f1
  have g2 := s2.2.trans f2
  have v3' : (uI M1 (3, 0, 0) 7 ((M1.1 (3, 0, 0) 7) ||| (1 <<< ((nI t) &&& 31)))).1 (3, 0, 0) 3 = nI t := by rw [uIr]; exact v3
  rw [ok1 t1.2.2, bnd_some, if_neg (by first | decide | simp), if_neg (nbad ht (by first | decide | simp)), nI_clamp (by omega), b11, c1, bnd_some, if_neg (by first | decide | simp)]
  dsimp only [nm]
  rw [v3, v3', if_neg (nbad ht (by first | decide | simp)), nI_clamp (by omega)]
  generalize (uI M1 (3, 0, 0) 7 ((M1.1 (3, 0, 0) 7) ||| (1 <<< ((nI t) &&& 31)))) = M2 at *
  generalize (uI N1 (38, 0, 0) t 1) = N2 at *
  obtain ⟨q1, q2, q3, q4⟩ := hP.1.w
  have k6 := isK hP.1 (a := 1) (by first | decide | simp)
  have k7 := isK hP.1 (a := 2) (by first | decide | simp)
  rw [show kmap 1 = (6 : Int32) by decide] at k6
  rw [show kmap 2 = (7 : Int32) by decide] at k7
  have e52 : ∀ x : Nat, (x = 1 ∧ w1 ≠ 2 ∨ x = 2 ∧ w1 = 2) → f_X12_parseTrigger_52 (nI t) N2 = f_X12_parseTrigger_77 (nI t) (nI x) (52 + (30 + nI t)) N2 := by
    intro x hx
    unfold f_X12_parseTrigger_52
    rw [drf, bnd_some, k7, bnd_some]
    rcases hx with ⟨rfl, y⟩ | ⟨rfl, y⟩
    · rw [if_neg y, if_pos rfl]; rfl
    · rw [if_pos y, if_neg (by first | decide | simp)]; rfl
  by_cases w2 : w1 = 2
  · subst w2
    obtain ⟨M3, N3, p3, k3, w3, a1, a2, a3, a4, a5, a6⟩ := tr77 hP ht (Or.inr rfl)
    obtain ⟨M4, N4, b1, b2, b3, b4⟩ := B_tr89 ht a3
    refine ⟨M4, N4, ?_, (g1.trans a5).trans b2, (g2.trans a6).trans b3, ?_⟩
    · rw [k6, if_neg (by first | decide | simp), bnd_some, if_pos rfl, k7, if_pos rfl, bnd_some, if_neg (by first | decide | simp), e52 2 (Or.inr ⟨rfl, rfl⟩), a2, b1]
    · have ec : f_X4_skipWord 2 M2 = some (1, M3) := by
        unfold f_X4_skipWord
        rw [q2, wck_n q1, if_pos rfl, a1, bnd_some]
      rw [ec, bnd_some, if_neg (by first | decide | simp)]
      rcases b4 with ⟨c, p4, k4, w4, L4, V4, z1, z2⟩ | z | z
      · exact Or.inl ⟨c, p4, k4, w4, L4, V4, z1, by omega⟩
      · exact Or.inr (Or.inl z)
      · exact Or.inr (Or.inr z)
  · have ec : f_X4_skipWord 2 M2 = some (0, M2) := by
      unfold f_X4_skipWord
      rw [q2, wck_n q1, if_neg w2]
    rw [ec, bnd_some, if_pos rfl]
    by_cases w3 : w1 = 1
    · subst w3
      obtain ⟨M3, N3, p3, k3, w3, a1, a2, a3, a4, a5, a6⟩ := tr77 hP ht (Or.inl rfl)
      obtain ⟨M4, N4, b1, b2, b3, b4⟩ := B_tr89 ht a3
      refine ⟨M4, N4, ?_, (g1.trans a5).trans b2, (g2.trans a6).trans b3, ?_⟩
      · rw [k6, if_pos rfl, bnd_some, if_neg (by first | decide | simp), e52 1 (Or.inl ⟨rfl, by decide⟩), a2, b1]
      · have ec2 : f_X4_takeWord 1 M2 = some (1, M3) := by
          unfold f_X4_takeWord
          rw [q2, wck_n q1, if_pos rfl, a1, bnd_some]
        rw [ec2, bnd_some, if_neg (by first | decide | simp)]
        rcases b4 with ⟨c, p4, k4, w4, L4, V4, z1, z2⟩ | z | z
        · exact Or.inl ⟨c, p4, k4, w4, L4, V4, z1, by omega⟩
        · exact Or.inr (Or.inl z)
        · exact Or.inr (Or.inr z)
    · obtain ⟨M3, N3, a1, a2, a3, a4, a5⟩ := fail2 (x := 1) hP.1 (by first | decide | simp)
      obtain ⟨N4, b1, b2⟩ := tr52_f (a := 0) hP.1 w2 ht a2 (fail_k a2 (by first | decide | simp) (by first | decide | simp)) (fail_k a2 (by first | decide | simp) (by first | decide | simp)) a5.2.2
      refine ⟨M3, N4, ?_, g1.trans a3.2, (g2.trans a4.2).trans b2.1, Or.inr (Or.inl ⟨?_, a5.n b2⟩)⟩
      · rw [k6, if_neg w3, bnd_some, if_pos rfl, k7, if_neg w2, bnd_some, if_pos rfl, a2, bnd_some, b1]
      · have ec2 : f_X4_takeWord 1 M2 = some (0, M3) := by
          unfold f_X4_takeWord
          rw [q2, wck_n q1, if_neg w3, a1, bnd_some, if_neg (by first | decide | simp)]
        rw [ec2, bnd_some, if_pos rfl]
