/-! ===== channel, from its number on ===== -/
theorem isT37 {len p k w : Nat} {M N : Mem} (h : TS len p k w M N) : ∃ f, f_X12_isThere37 N = some (f, N) ∧ bz f ∧ ∀ v : Nat, k = 2 → N.1 (10, 0, 0) 13 = nI v → v ≤ 7 → (f = 0 ↔ N.1 (37, 0, 0) v = 0) := by
  obtain ⟨k1, k2, k3⟩ := h.k
  unfold f_X12_isThere37 f_X12_isThere37_30
  rw [k2]
  by_cases q : k = 2
  · subst q
    obtain ⟨v, hv, w1, w2⟩ := h.num
    rw [if_pos (by first | decide | simp), w2]
    by_cases y : 8 ≤ v
    · refine ⟨0, by rw [if_pos (show (8 : Int32) ≤ nI v from nI_le (a := 8) y (by omega))], Or.inl rfl, fun v' _ e hv' => ?_⟩
      have := nIi e (by omega) (by omega)
      omega
    · rw [if_neg (show ¬ (8 : Int32) ≤ nI v from nI_ge (a := v) (b := 8) (by omega) (by first | decide | simp)), if_neg (nbad (by omega) (by first | decide | simp)), nI_clamp (by omega)]
      by_cases z : N.1 (37, 0, 0) v = 0
      · refine ⟨0, by rw [if_pos z], Or.inl rfl, fun v' _ e hv' => ?_⟩
        have := nIi e (by omega) (by omega)
        subst this
        exact ⟨fun _ => z, fun _ => rfl⟩
      · refine ⟨1, by rw [if_neg z], Or.inr rfl, fun v' _ e hv' => ?_⟩
        have := nIi e (by omega) (by omega)
        subst this
        exact ⟨fun y => absurd y (by first | decide | simp), fun y => absurd y z⟩
  · exact ⟨0, by rw [if_neg (fun z : nI k = 2 => q (nIi (b := 2) z (by omega) (by first | decide | simp)))], Or.inl rfl, fun v e _ _ => absurd e q⟩
theorem PT.m4 {len p k w t : Nat} {M N : Mem} {L V : LM} (h : PT len p k w M N L V) (ht : t < 8) : PT len p k w (uI M (3, 0, 0) 5 ((M.1 (3, 0, 0) 5) ||| (1 <<< ((nI t) &&& 31)))) (uI N (37, 0, 0) t 1) L V ∧ FC M (uI M (3, 0, 0) 5 ((M.1 (3, 0, 0) 5) ||| (1 <<< ((nI t) &&& 31)))) ∧ FM N (uI N (37, 0, 0) t 1) := by
  obtain ⟨⟨hs, ⟨s, hk⟩, h16⟩, hC, hM, hQ, a, b, c, d⟩ := h
  have f1 : FC M (uI M (3, 0, 0) 5 ((M.1 (3, 0, 0) 5) ||| (1 <<< ((nI t) &&& 31)))) := FC.u (Or.inr (Or.inl rfl))
  have f2 : FM N (uI N (37, 0, 0) t 1) := FM.u (Or.inr (Or.inr (Or.inr (Or.inr (Or.inl rfl)))))
  have u : ∀ k, k ≠ 5 → (uI M (3, 0, 0) 5 ((M.1 (3, 0, 0) 5) ||| (1 <<< ((nI t) &&& 31)))).1 (3, 0, 0) k = M.1 (3, 0, 0) k := fun k hk => uI_q (fun q => hk q.2)
  have n : ∀ o k, o.1 ≠ 37 → (uI N (37, 0, 0) t 1).1 o k = N.1 o k := fun o k ho => uI_no ho
  refine ⟨⟨⟨hs.fr f1 f2 (u 8 (by first | decide | simp)) (u 9 (by first | decide | simp)) (n _ _ (by simp)), ⟨s, (hk.c (fun k => uI_no (by simp))).m (fun k _ => n _ _ (by simp))⟩, by rw [n _ _ (by simp)]; exact h16⟩, hC.u0 rfl, hM.ui (by simp) (by simp), hQ, ?_, ?_, ?_, ?_⟩, f1, f2⟩
  · rw [u 4 (by first | decide | simp)]; exact a.iff (fun i _ => by rw [n _ _ (by simp)])
  · rw [uI_at]
    refine (b.or (by first | decide | simp) ht).iff (fun i _ => ?_)
    by_cases z : i = t
    · subst z
      rw [uI_at]
      exact ⟨fun _ => by decide, fun _ => Or.inr rfl⟩
    · rw [show (uI N (37, 0, 0) t 1).1 (37, 0, 0) i = N.1 (37, 0, 0) i from uI_q (fun q => z q.2)]
      exact ⟨fun q => q.resolve_right z, Or.inl⟩
  · rw [u 6 (by first | decide | simp)]; exact c
  · rw [u 7 (by first | decide | simp)]; exact d.iff (fun i _ => by rw [n _ _ (by simp)])
def cC (M2 : Mem) : Option (Int32 × Mem) := bnd (f_X4_takeNumber 0 (M2.1 (3, 0, 0) 5) M2) (fun r4 M5 => if r4 = 0 then some (0, M5) else nm (uI M5 (3, 0, 0) 5 ((M5.1 (3, 0, 0) 5) ||| (1 <<< ((M5.1 (3, 0, 0) 3) &&& 31)))) (fun M7 => if bad (M7.1 (3, 0, 0) 3) 8 then none else f_X4_readChannel_55 fuelN 2 (Int32.toNatClampNeg (M7.1 (3, 0, 0) 3)) 0 0 M7))
theorem readChannel_eq {M : Mem} : f_X4_readChannel M = bnd (f_X7_next M) (fun _ M2 => cC M2) := Eq.trans (by unfold f_X4_readChannel; exact rfl) rfl
theorem B_channel {len p k w : Nat} {M N : Mem} {L V : LM} (h : PT len p k w M N L V) : ∃ M' N', f_X12_parseChannel N = some ((), N') ∧ FC M M' ∧ FM N N' ∧ BodyO len p (cC M) M' N' := by
  obtain ⟨f, i1, ibz, i2⟩ := isT37 h.1
  obtain ⟨M1, r, N1, e1, s1, s2, o⟩ := RO (wd := 0) (hi := 7) (x2 := M.1 (3, 0, 0) 5) (f := f) h.1 (zlo rfl) rfl (by first | decide | simp) (fun v kk e hv => by
    rw [h.2.2.2.2.2.1.bit (by first | decide | simp) (show v < 8 by omega), i2 v kk e hv]
    exact Classical.not_not)
  rw [show nI 7 = (7 : Int32) from rfl] at e1
  unfold f_X12_parseChannel cC
  rw [i1, bnd_some, e1, bnd_some]
  rcases o with ⟨c1, t, p1, k1, w1, _, ht3, rfl, v3, t1, t2, t3⟩ | ⟨c1, fb⟩
  rotate_left
  · exact ⟨M1, N1, by rw [ok0 fb.2.2, bnd_some, if_pos rfl], s1.2, s2.2, Or.inr (Or.inl ⟨by rw [c1, bnd_some, if_pos rfl], fb⟩)⟩
  have ht : t < 8 := by omega
  obtain ⟨hP, f1, f2⟩ := (B_step h s1 s2 t1).m4 ht
  have v3' : (uI M1 (3, 0, 0) 5 ((M1.1 (3, 0, 0) 5) ||| (1 <<< ((nI t) &&& 31)))).1 (3, 0, 0) 3 = nI t := by rw [uIr]; exact v3
  obtain ⟨M3, N3, d1, d2, d3, d4⟩ := ch_loop ht fuelN fuelN p1 k1 w1 (fun _ => false) 0 0 _ _ L V (by unfold fuelN cn; decide) (by unfold fuelN cn; decide) hP (Mk.z.iff (fun i _ => by simp)) (Mk.z.iff (fun i _ => by simp))
  refine ⟨M3, N3, ?_, (s1.2.trans f1).trans d2, (s2.2.trans f2).trans d3, ?_⟩
  · rw [ok1 t1.2.2, bnd_some, if_neg (by first | decide | simp), if_neg (nbad ht (by first | decide | simp)), nI_clamp (by omega), b11]
    exact d1
  · rw [c1, bnd_some, if_neg (by first | decide | simp)]
    dsimp only [nm]
    rw [v3, v3', if_neg (nbad ht (by first | decide | simp)), nI_clamp (by omega)]
    exact d4.le (by omega)
