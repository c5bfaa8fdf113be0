theorem cA108 {a : Nat} (ha : a < 3) : cA (108 + 8 * a + 0) = (8, 1, a) ∧ cA (108 + 8 * a + 1) = (8, 2, a) := ⟨cA_wn a ha 0 (by first | decide | simp), cA_wn a ha 1 (by first | decide | simp)⟩
theorem B_w1 {len p k w a : Nat} {M N : Mem} {L V : LM} (ha : a < 3) (h : PT len p k w M N L V) (h80 : L.1 (8, 0, a) = 1) (h84 : L.1 (8, 4, a) = 0) : ∃ M' N', wE1 (nI a) N = some ((), N') ∧ FC M M' ∧ FM N N' ∧ BodyO len p (cW1 a M) M' N' := by
  obtain ⟨M1, N1, a1, a2, a3, o⟩ := B_word (a := 18) h (by first | decide | simp)
  rw [show kmap 18 = (15 : Int32) by decide] at a1
  have e1 : wE1 (nI a) N = bnd (f_X12_readNumber 0 65535 N1) (fun r14 M15 => wE2 (nI a) r14 M15) := by
    unfold wE1
    rw [a1, bnd_some]
  unfold cW1
  rcases o with ⟨c1, p1, k1, w1, q1, u1⟩ | ⟨c1, fb⟩
  rotate_left
  · obtain ⟨N', g1, g2⟩ := wE1_f ha fb.2.2
    have g1' : wE1 (nI a) N = some ((), N') := by
      rw [e1]
      unfold wE1 at g1
      rw [req_f fb.2.2, bnd_some] at g1
      exact g1
    exact ⟨M1, N', g1', a2, a3.trans g2.1, Or.inr (Or.inl ⟨by rw [c1, bnd_some, if_pos rfl], fb.n g2⟩)⟩
  obtain ⟨hT, hC, hM, hQ, hK⟩ := q1
  obtain ⟨M2, r2, N2, t1, t2, t3, t4⟩ := TN (x2 := 0) (wd := 18) (lo := 0) (hi := 65535) hT (zlo rfl) rfl (by first | decide | simp) (by first | decide | simp) m0
  rw [show nI 0 = (0 : Int32) from rfl, show nI 65535 = (65535 : Int32) from rfl] at t1
  rw [c1, bnd_some, if_neg (by first | decide | simp)]
  have e2 : wE1 (nI a) N = wE2 (nI a) r2 N2 := by rw [e1, t1, bnd_some]
  rcases t4 with ⟨c2, v, p2, k2, w2, v1, v2, rfl, v3, v4, v5, v6⟩ | ⟨c2, fb⟩
  rotate_left
  · obtain ⟨N', g1, g2⟩ := wE2_f ha (r14 := r2) fb.2.2
    exact ⟨M2, N', by rw [e2, g1], a2.trans t2.2, (a3.trans t3.2).trans g2.1, Or.inr (Or.inl ⟨by rw [c2, bnd_some, if_pos rfl], fb.n g2⟩)⟩
  rw [c2, bnd_some, if_neg (by first | decide | simp)]
  dsimp only [nm]
  rw [v3]
  have l1 : LC M2 (uI M2 (8, 2, a) 1 (nI v)) := LC.u rfl (by simp)
  have hC1 : hasC 2 (uI M2 (8, 2, a) 1 (nI v)) (wI L (8, 1, a) (nI v)) := (hC.s t2).u rfl
  have hQ1 := hQ.w (a := (8, 1, a)) (v := nI v) rfl (hQ.2.1.q (by simp) (by simp) (by simp) (by simp) (by simp) (by simp) (by simp) (by simp) (by simp) (by simp) (by simp) (by simp) (by simp) (by simp) (by simp))
  have hK1 := (hK.s t2 t3).l l1 (LN.refl N2) (L' := wI L (8, 1, a) (nI v)) (fun j => by rw [rdw, if_neg (by simp)])
  have hT1 := v4.l l1 (LN.refl N2)
  have hM1 := hM.s t3
  generalize (uI M2 (8, 2, a) 1 (nI v)) = M3 at *
  obtain ⟨M4, N4, b1, b2, b3, o4⟩ := TW (a := 19) hT1 (by first | decide | simp)
  rw [show kmap 19 = (16 : Int32) by decide] at b1
  have e3 : wE2 (nI a) (nI v) N2 = bnd (f_X12_readNumber (nI v) 65535 N4) (fun r20 M21 => wE3 (nI a) (nI v) r20 M21) := by
    unfold wE2
    rw [b1, bnd_some]
  have F1 : FC M M3 := (a2.trans t2.2).trans l1.2.2
  have G1 : FM N N2 := a3.trans t3.2
  unfold cW2
  rcases o4 with ⟨c4, p4, k4, w4, x1, x2, x3⟩ | ⟨c4, fb⟩
  rotate_left
  · obtain ⟨N', g1, g2⟩ := wE2_f ha (r14 := nI v) fb.2.2
    have g1' : wE1 (nI a) N = some ((), N') := by
      rw [e2, e3]
      unfold wE2 at g1
      rw [req_f fb.2.2, bnd_some] at g1
      exact g1
    exact ⟨M4, N', g1', F1.trans b2.2, (G1.trans b3.2).trans g2.1, Or.inr (Or.inl ⟨by rw [c4, bnd_some, if_pos rfl], fb.n g2⟩)⟩
  have hC4 := hC1.s b2
  have ml : M4.1 (8, 2, a) 1 = nI v := by
    rw [hC4.I (k := 8) (j := a) (f := 1) rfl, rdw, if_pos rfl]
  obtain ⟨M5, r5, N5, y1, y2, y3, y4⟩ := HB x1 (lo := v) v2
  rw [show nI 65535 = (65535 : Int32) from rfl] at y1
  rw [c4, bnd_some, if_neg (by first | decide | simp), ml]
  have e4 : wE1 (nI a) N = wE3 (nI a) (nI v) r5 N5 := by rw [e2, e3, y1, bnd_some]
  rcases y4 with ⟨c5, u, p5, k5, w5, u2, u3, rfl, u4, u5, u6, u7⟩ | ⟨c5, fb⟩
  rotate_left
  · obtain ⟨N', g1, g2⟩ := wE3_f ha (r14 := nI v) (r20 := r5) fb.2.2
    exact ⟨M5, N', by rw [e4, g1], (F1.trans b2.2).trans y2.2, ((G1.trans b3.2).trans y3.2).trans g2.1, Or.inr (Or.inl ⟨by rw [c5, bnd_some, if_pos rfl], fb.n g2⟩)⟩
  rw [c5, bnd_some, if_neg (by first | decide | simp)]
  dsimp only [nm]
  rw [u4]
  have l5 : LC M5 (uI M5 (8, 2, a) 2 (nI u)) := LC.u rfl (by simp)
  have n5 : LN N5 (uI (uI N5 (32, 0, 0) (1888 + (108 + 8 * a + 0)) (nI v)) (32, 0, 0) (1888 + (108 + 8 * a + 1)) (nI u)) := (LN.A (by omega)).trans (LN.A (by omega))
  have hM5 : hasM 4 52 (uI (uI N5 (32, 0, 0) (1888 + (108 + 8 * a + 0)) (nI v)) (32, 0, 0) (1888 + (108 + 8 * a + 1)) (nI u)) (wI (wI V (8, 1, a) (nI v)) (8, 2, a) (nI u)) := by
    rw [← (cA108 ha).1, ← (cA108 ha).2]
    exact (((hM1.s b3).s y3).uA (by omega)).uA (by omega)
  have hQ5 := hQ1.w (a := (8, 2, a)) (v := nI u) rfl (hQ1.2.1.q (by simp) (by simp) (by simp) (by simp) (by simp) (by simp) (by simp) (by simp) (by simp) (by simp) (by simp) (by simp) (by simp) (by simp) (by simp))
  obtain ⟨M6, N6, d1, d2, d3, d4⟩ := B_w3 ha (M := uI M5 (8, 2, a) 2 (nI u)) ⟨u5.l l5 n5, (hC4.s y2).u rfl, hM5, hQ5, ((hK1.s b2 b3).s y2 y3).l l5 n5 (fun j => by rw [rdw, if_neg (by simp)])⟩ (by rw [rdw, if_neg (by simp), rdw, if_neg (by simp)]; exact h80) (by rw [rdw, if_neg (by simp), rdw, if_neg (by simp)]; exact h84)
  exact ⟨M6, N6, by rw [e4, wE3_eq ha, d1], (((F1.trans b2.2).trans y2.2).trans l5.2.2).trans d2, (((G1.trans b3.2).trans y3.2).trans n5.2.2).trans d3, d4.le (by omega)⟩
