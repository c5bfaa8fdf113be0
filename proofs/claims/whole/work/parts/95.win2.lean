def cW4 (a : Nat) (M30 : Mem) : Option (Int32 × Mem) := bnd (f_X4_takeWord 21 M30) (fun r31 M32 => if r31 = 0 then f_X4_readWindow_171 M32 else bnd (f_X4_readWindowChannels 2 a M32) (fun r34 M35 => if r34 = 0 then f_X4_readWindow_171 M35 else some (1, M35)))
def cW3 (a : Nat) (M23 : Mem) : Option (Int32 × Mem) := bnd (f_X4_takeWord 20 M23) (fun r24 M25 => if r24 = 0 then some (0, M25) else bnd (f_X4_takeNumber 20 0 M25) (fun r27 M28 => if r27 = 0 then some (0, M28) else nm (uI M28 (8, 2, a) 3 (M28.1 (3, 0, 0) 3)) (fun M30 => cW4 a M30)))
def cW2 (a : Nat) (M16 : Mem) : Option (Int32 × Mem) := bnd (f_X4_takeWord 19 M16) (fun r17 M18 => if r17 = 0 then some (0, M18) else bnd (f_X4_takeHighBound (M18.1 (8, 2, a) 1) M18) (fun r20 M21 => if r20 = 0 then some (0, M21) else nm (uI M21 (8, 2, a) 2 (M21.1 (3, 0, 0) 3)) (fun M23 => cW3 a M23)))
def cW1 (a : Nat) (M9 : Mem) : Option (Int32 × Mem) := bnd (f_X4_takeWord 18 M9) (fun r10 M11 => if r10 = 0 then some (0, M11) else bnd (f_X4_takeNumber 18 0 M11) (fun r13 M14 => if r13 = 0 then some (0, M14) else nm (uI M14 (8, 2, a) 1 (M14.1 (3, 0, 0) 3)) (fun M16 => cW2 a M16)))
theorem B_w4 {len p k w a : Nat} {M N : Mem} {L V : LM} (ha : a < 3) (h : PT len p k w M N L V) (h80 : L.1 (8, 0, a) = 1) (h84 : L.1 (8, 4, a) = 0) : ∃ M' N', wE5 (nI a) N = some ((), N') ∧ FC M M' ∧ FM N N' ∧ BodyO len p (cW4 a M) M' N' := by
  obtain ⟨M1, N1, a1, a2, a3, o⟩ := B_word (a := 21) h (by first | decide | simp)
  rw [show kmap 21 = (18 : Int32) by decide] at a1
  unfold cW4
  rcases o with ⟨c1, p1, k1, w1, q1, u1⟩ | ⟨c1, fb⟩
  rotate_left
  · have e5 : wE5 (nI a) N = bnd (f_X12_parseMask (nI a) N1) (fun r44 M45 => some ((), M45)) := by
      unfold wE5
      rw [a1, bnd_some]
    have z5 : ∃ N', wE5 (nI a) N = some ((), N') ∧ FN N1 N' := by
      obtain ⟨N', g1, g2⟩ := wE5_f ha fb.2.2
      refine ⟨N', ?_, g2⟩
      rw [e5]
      unfold wE5 at g1
      rw [req_f fb.2.2, bnd_some] at g1
      exact g1
    obtain ⟨N', g1, g2⟩ := z5
    exact ⟨M1, N', g1, a2, a3.trans g2.1, Or.inr (Or.inl ⟨by rw [c1, bnd_some, if_pos rfl]; rfl, fb.n g2⟩)⟩
  obtain ⟨M2, N2, b1, b2, b3, b4⟩ := wm_loop ha fuelN fuelN p1 k1 w1 (fun _ => false) 1 M1 N1 L V (by unfold fuelN c8; decide) (by unfold fuelN c8; decide) ⟨q1.1, q1.2.1, q1.2.2.1, by rw [wI_sf (q1.2.2.2.1.1.1 (8, 4, a) rfl)]; exact q1.2.2.2.1, q1.2.2.2.2⟩ h80 (by rw [h84]; exact Mk.z.iff (fun i _ => by simp)) (fun z => absurd z (by unfold c8; decide)) (fun _ => (by first | decide | simp))
  rw [h84] at b1
  refine ⟨M2, N2, ?_, a2.trans b2, a3.trans b3, ?_⟩
  · unfold wE5 f_X12_parseMask
    rw [a1, bnd_some, b1, bnd_some]
  · rw [c1, bnd_some, if_neg (by first | decide | simp)]
    unfold f_X4_readWindowChannels f_X4_readWindow_171
    rcases b4 with ⟨c, p4, k4, w4, L4, V4, z1, z2⟩ | ⟨c, fb⟩ | ⟨c, z1, z2, z3⟩
    · exact Or.inl ⟨by rw [show f_X4_readWindowChannels_2 fuelN 2 a 0 M1 = _ from c, bnd_some, if_neg (by first | decide | simp)], p4, k4, w4, L4, V4, z1, by omega⟩
    · exact Or.inr (Or.inl ⟨by rw [show f_X4_readWindowChannels_2 fuelN 2 a 0 M1 = _ from c, bnd_some, if_pos rfl], fb⟩)
    · exact Or.inr (Or.inr ⟨by rw [show f_X4_readWindowChannels_2 fuelN 2 a 0 M1 = _ from c, bnd_some, if_neg (by first | decide | simp)], z1, z2, z3⟩)
theorem B_w3 {len p k w a : Nat} {M N : Mem} {L V : LM} (ha : a < 3) (h : PT len p k w M N L V) (h80 : L.1 (8, 0, a) = 1) (h84 : L.1 (8, 4, a) = 0) : ∃ M' N', wE4 (nI a) N = some ((), N') ∧ FC M M' ∧ FM N N' ∧ BodyO len p (cW3 a M) M' N' := by
  obtain ⟨M1, N1, a1, a2, a3, o⟩ := B_word (a := 20) h (by first | decide | simp)
  rw [show kmap 20 = (17 : Int32) by decide] at a1
  have e4 : wE4 (nI a) N = bnd (f_X12_drafts (42 + nI a) N1) (fun r34 M35 => bnd (f_X12_readNumber 1 15 M35) (fun r37 M38 => if bad r34 104 then none else nm (uI M38 (31, 0, 0) (Int32.toNatClampNeg r34) r37) (fun M40 => wE5 (nI a) M40))) := by
    unfold wE4
    rw [a1, bnd_some]
  unfold cW3
  rcases o with ⟨c1, p1, k1, w1, q1, u1⟩ | ⟨c1, fb⟩
  rotate_left
  · obtain ⟨N', g1, g2⟩ := wE4_f ha fb.2.2
    have g1' : wE4 (nI a) N = some ((), N') := by
      rw [e4]
      unfold wE4 at g1
      rw [req_f fb.2.2, bnd_some] at g1
      exact g1
    exact ⟨M1, N', g1', a2, a3.trans g2.1, Or.inr (Or.inl ⟨by rw [c1, bnd_some, if_pos rfl], fb.n g2⟩)⟩
  obtain ⟨M2, r2, N2, e2, o2⟩ := B_num (wd := 20) (lo := 1) (hi := 15) (a := (8, 3, a)) q1 rfl rfl (by first | decide | simp) (by first | decide | simp) rfl (by simp) (by simp) rfl (fun v v1 v2 => q1.2.2.2.1.2.1.q (by simp) (by simp) (by simp) (by simp) (by simp) (by simp) (by simp) (by simp) (by simp) (by simp) (by simp) (by simp) (by simp) (by simp) (by simp)) (W_S (i := 42 + a) (cS_42 a ha) (by omega))
  rw [show nI 1 = (1 : Int32) from rfl, show nI 15 = (15 : Int32) from rfl] at e2
  have e4b : wE4 (nI a) N = wE5 (nI a) (uI N2 (31, 0, 0) (52 + (42 + a)) r2) := by
    rw [e4, drf, bnd_some, e2, bnd_some, show (42 : Int32) = nI 42 from rfl, ix2, if_neg (nbad (by omega) (by first | decide | simp)), nI_clamp (by omega)]
    rfl
  rw [c1, bnd_some, if_neg (by first | decide | simp)]
  rcases o2 with ⟨c2, v, p2, k2, w2, v1, v2, v3, q2, v5, v6, v7⟩ | ⟨c2, fb, f1, f2⟩
  rotate_left
  · obtain ⟨N', g1, g2⟩ := wE5_f ha fb.2.2
    exact ⟨M2, N', by rw [e4b, g1], a2.trans f1, (a3.trans f2).trans g2.1, Or.inr (Or.inl ⟨by rw [c2, bnd_some, if_pos rfl], fb.n g2⟩)⟩
  obtain ⟨M3, N3, d1, d2, d3, d4⟩ := B_w4 ha q2 (by rw [rdw, if_neg (by simp)]; exact h80) (by rw [rdw, if_neg (by simp)]; exact h84)
  refine ⟨M3, N3, by rw [e4b, d1], (a2.trans v6).trans d2, (a3.trans v7).trans d3, ?_⟩
  rw [c2, bnd_some, if_neg (by first | decide | simp)]
  dsimp only [nm]
  rw [v3]
  exact d4.le (by omega)
