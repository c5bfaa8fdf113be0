/-! ===== trigger ===== -/
theorem ix2 {n t : Nat} : (52 : Int32) + (nI n + nI t) = nI (52 + (n + t)) := by
  rw [show (52 : Int32) = nI 52 from rfl, nI_add, nI_add]
theorem cS30 : ∀ t, t < 4 → cS (30 + t) = (7, 0, t) ∧ cS (34 + t) = (7, 1, t) ∧ cS (38 + t) = (7, 2, t) := by decide
theorem B_step {len p k w : Nat} {M N M' N' : Mem} {L V : LM} {p' k' w' : Nat} (h : PT len p k w M N L V) (f : SC M M') (g : SM N N') (t : TS len p' k' w' M' N') : PT len p' k' w' M' N' L V := ⟨t, h.2.1.s f, h.2.2.1.s g, h.2.2.2.1, h.2.2.2.2.s f g⟩
theorem B_skip {len p k w a : Nat} {M N : Mem} {L V : LM} (h : PT len p k w M N L V) (ha : a < 25) : ∃ M' N' b p' k' w', f_X12_accepts (kmap a) N = some (b, N') ∧ f_X4_skipWord a M = some (b, M') ∧ bz b ∧ FC M M' ∧ FM N N' ∧ PT len p' k' w' M' N' L V ∧ p ≤ p' := by
  obtain ⟨M', N', b, p', k', w', e1, e2, e3, e4, e5, e6, e7, e8⟩ := SW h.1 ha
  exact ⟨M', N', b, p', k', w', e1, e2, e3, e4.2, e5.2, B_step h e4 e5 e6, e7⟩
theorem tr89_f {x : Int32} {N : Mem} (h : ¬ N.1 (10, 0, 0) 16 = 0) : f_X12_parseTrigger_89 x N = some ((), N) := by
  unfold f_X12_parseTrigger_89
  rw [acc_f h, bnd_some, if_pos rfl]
theorem B_tr89 {len p k w t : Nat} {M N : Mem} {L V : LM} (ht : t < 4) (h : PT len p k w M N L V) : ∃ M' N', f_X12_parseTrigger_89 (nI t) N = some ((), N') ∧ FC M M' ∧ FM N N' ∧ BodyO len p (f_X4_readTrigger_89 2 t M) M' N' := by
  obtain ⟨M1, N1, b, p1, k1, w1, a1, a2, a3, a4, a5, a6, a7⟩ := B_skip (a := 22) h (by first | decide | simp)
  rw [show kmap 22 = (20 : Int32) by decide] at a1
  unfold f_X12_parseTrigger_89 f_X4_readTrigger_89
  rw [a1, bnd_some, a2, bnd_some]
  rcases a3 with rfl | rfl
  · exact ⟨M1, N1, by rw [if_pos rfl], a4, a5, Or.inl ⟨by rw [if_pos rfl], p1, k1, w1, L, V, a6, a7⟩⟩
  rw [if_neg (by first | decide | simp), if_neg (by first | decide | simp)]
  obtain ⟨M2, r2, N2, e2, o2⟩ := B_num (wd := 22) (lo := 1) (hi := 9999) (a := (7, 1, t)) a6 rfl rfl (by first | decide | simp) (by first | decide | simp) rfl (by simp) (by simp) rfl (fun v v1 v2 => a6.2.2.2.1.2.1.q (by simp) (by simp) (by simp) (by simp) (by simp) (by simp) (by simp) (by simp) (by simp) (by simp) (fun _ _ => ⟨v, v2, rfl⟩) (by simp) (by simp) (by simp) (by simp)) (W_S (i := 34 + t) (cS30 t ht).2.1 (by omega))
  rw [show nI 1 = (1 : Int32) from rfl, show nI 9999 = (9999 : Int32) from rfl] at e2
  rw [drf, bnd_some, e2, bnd_some, show (34 : Int32) = nI 34 from rfl, ix2, if_neg (nbad (by omega) (by first | decide | simp)), nI_clamp (by omega)]
  dsimp only [nm]
  rcases o2 with ⟨c2, v, p2, k2, w2, v1, v2, v3, q2, v5, v6, v7⟩ | ⟨c2, fb, f1, f2⟩
  rotate_left
  · exact ⟨M2, _, by rw [acc_f fb.2.2, bnd_some, if_pos rfl], a4.trans f1, a5.trans f2, Or.inr (Or.inl ⟨by rw [c2, bnd_some, if_pos rfl], fb⟩)⟩
  rw [c2, bnd_some, if_neg (by first | decide | simp), v3]
  obtain ⟨M3, N3, b3, p3, k3, w3, d1, d2, d3, d4, d5, d6, d7⟩ := B_skip (a := 23) q2 (by first | decide | simp)
  rw [show kmap 23 = (21 : Int32) by decide] at d1
  rw [d1, bnd_some, d2, bnd_some]
  rcases d3 with rfl | rfl
  · exact ⟨M3, N3, by rw [if_pos rfl], (a4.trans v6).trans d4, (a5.trans v7).trans d5, Or.inl ⟨by rw [if_pos rfl], p3, k3, w3, _, _, d6, by omega⟩⟩
  rw [if_neg (by first | decide | simp), if_neg (by first | decide | simp)]
  obtain ⟨M4, r4, N4, e4, o4⟩ := B_num (wd := 23) (lo := 0) (hi := 9999) (a := (7, 2, t)) d6 rfl rfl (by first | decide | simp) (by first | decide | simp) rfl (by simp) (by simp) rfl (fun v v1 v2 => d6.2.2.2.1.2.1.q (by simp) (by simp) (by simp) (by simp) (by simp) (by simp) (by simp) (by simp) (by simp) (by simp) (fun _ _ => ⟨v, v2, rfl⟩) (by simp) (by simp) (by simp) (by simp)) (W_S (i := 38 + t) (cS30 t ht).2.2 (by omega))
  rw [show nI 0 = (0 : Int32) from rfl, show nI 9999 = (9999 : Int32) from rfl] at e4
  rw [drf, bnd_some, e4, bnd_some, show (38 : Int32) = nI 38 from rfl, ix2, if_neg (nbad (by omega) (by first | decide | simp)), nI_clamp (by omega)]
  rcases o4 with ⟨c4, x, p4, k4, w4, x1, x2, x3, q4, x5, x6, x7⟩ | ⟨c4, fb, f1, f2⟩
  · exact ⟨_, _, rfl, ((a4.trans v6).trans d4).trans x6, ((a5.trans v7).trans d5).trans x7, Or.inl ⟨by rw [c4, bnd_some, if_neg (by first | decide | simp), x3], p4, k4, w4, _, _, q4, by omega⟩⟩
  · exact ⟨M4, _, rfl, ((a4.trans v6).trans d4).trans f1, ((a5.trans v7).trans d5).trans f2, Or.inr (Or.inl ⟨by rw [c4, bnd_some, if_pos rfl], fb⟩)⟩
theorem isT38 {len p k w : Nat} {M N : Mem} (h : TS len p k w M N) : ∃ f, f_X12_isThere38 N = some (f, N) ∧ bz f ∧ ∀ v : Nat, k = 2 → N.1 (10, 0, 0) 13 = nI v → v ≤ 3 → (f = 0 ↔ N.1 (38, 0, 0) v = 0) := by
  obtain ⟨k1, k2, k3⟩ := h.k
  unfold f_X12_isThere38 f_X12_isThere38_30
  rw [k2]
  by_cases q : k = 2
  · subst q
    obtain ⟨v, hv, w1, w2⟩ := h.num
    rw [if_pos (by first | decide | simp), w2]
    by_cases y : 4 ≤ v
    · refine ⟨0, by rw [if_pos (show (4 : Int32) ≤ nI v from nI_le (a := 4) y (by omega))], Or.inl rfl, fun v' _ e hv' => ?_⟩
      have := nIi e (by omega) (by omega)
      omega
    · rw [if_neg (show ¬ (4 : Int32) ≤ nI v from nI_ge (a := v) (b := 4) (by omega) (by first | decide | simp)), if_neg (nbad (by omega) (by first | decide | simp)), nI_clamp (by omega)]
      by_cases z : N.1 (38, 0, 0) v = 0
      · refine ⟨0, by rw [if_pos z], Or.inl rfl, fun v' _ e hv' => ?_⟩
        have := nIi e (by omega) (by omega)
        subst this
        exact ⟨fun _ => z, fun _ => rfl⟩
      · refine ⟨1, by rw [if_neg z], Or.inr rfl, fun v' _ e hv' => ?_⟩
        have := nIi e (by omega) (by omega)
        subst this
        exact ⟨fun y => absurd y (by first | decide | simp), fun y => absurd y z⟩
  · exact ⟨0, by rw [if_neg (fun z : nI k = 2 => q (nIi (b := 2) z (by omega) (by first | decide | simp)))], Or.inl rfl, fun v e _ _ => absurd e q⟩
/-- a number that has not come yet: its bit is set on both sides -/
def tC (M2 : Mem) : Option (Int32 × Mem) := bnd (f_X4_takeNumber 8 (M2.1 (3, 0, 0) 7) M2) (fun r4 M5 => if r4 = 0 then some (0, M5) else nm (uI M5 (3, 0, 0) 7 ((M5.1 (3, 0, 0) 7) ||| (1 <<< ((M5.1 (3, 0, 0) 3) &&& 31)))) (fun M7 => if bad (M7.1 (3, 0, 0) 3) 4 then none else bnd (f_X4_skipWord 2 M7) (fun r9 M10 => if r9 = 0 then bnd (f_X4_takeWord 1 M10) (fun r12 M13 => if r12 = 0 then some (0, M13) else nm (uI M13 (7, 2, (Int32.toNatClampNeg (M7.1 (3, 0, 0) 3))) 0 1) (fun M15 => f_X4_readTrigger_89 2 (Int32.toNatClampNeg (M7.1 (3, 0, 0) 3)) M15)) else nm (uI M10 (7, 2, (Int32.toNatClampNeg (M7.1 (3, 0, 0) 3))) 0 2) (fun M16 => f_X4_readTrigger_89 2 (Int32.toNatClampNeg (M7.1 (3, 0, 0) 3)) M16))))
theorem readTrigger_eq {M : Mem} : f_X4_readTrigger M = bnd (f_X7_next M) (fun _ M2 => tC M2) := Eq.trans (by unfold f_X4_readTrigger; exact rfl) rfl
theorem PT.m6 {len p k w t : Nat} {M N : Mem} {L V : LM} (h : PT len p k w M N L V) (ht : t < 4) : PT len p k w (uI M (3, 0, 0) 7 ((M.1 (3, 0, 0) 7) ||| (1 <<< ((nI t) &&& 31)))) (uI N (38, 0, 0) t 1) L V ∧ FC M (uI M (3, 0, 0) 7 ((M.1 (3, 0, 0) 7) ||| (1 <<< ((nI t) &&& 31)))) ∧ FM N (uI N (38, 0, 0) t 1) := by
  obtain ⟨⟨hs, ⟨s, hk⟩, h16⟩, hC, hM, hQ, a, b, c, d⟩ := h
  have f1 : FC M (uI M (3, 0, 0) 7 ((M.1 (3, 0, 0) 7) ||| (1 <<< ((nI t) &&& 31)))) := FC.u (Or.inr (Or.inl rfl))
  have f2 : FM N (uI N (38, 0, 0) t 1) := FM.u (Or.inr (Or.inr (Or.inr (Or.inr (Or.inr rfl)))))
  have u : ∀ k, k ≠ 7 → (uI M (3, 0, 0) 7 ((M.1 (3, 0, 0) 7) ||| (1 <<< ((nI t) &&& 31)))).1 (3, 0, 0) k = M.1 (3, 0, 0) k := fun k hk => uI_q (fun q => hk q.2)
  have n : ∀ o k, o.1 ≠ 38 → (uI N (38, 0, 0) t 1).1 o k = N.1 o k := fun o k ho => uI_no ho
  refine ⟨⟨⟨hs.fr f1 f2 (u 8 (by first | decide | simp)) (u 9 (by first | decide | simp)) (n _ _ (by simp)), ⟨s, (hk.c (fun k => uI_no (by simp))).m (fun k _ => n _ _ (by simp))⟩, by rw [n _ _ (by simp)]; exact h16⟩, hC.u0 rfl, hM.ui (by simp) (by simp), hQ, ?_, ?_, ?_, ?_⟩, f1, f2⟩
  · rw [u 4 (by first | decide | simp)]; exact a.iff (fun i _ => by rw [n _ _ (by simp)])
  · rw [u 5 (by first | decide | simp)]; exact b.iff (fun i _ => by rw [n _ _ (by simp)])
  · rw [u 6 (by first | decide | simp)]; exact c
  · rw [uI_at]
    refine (d.or (by first | decide | simp) ht).iff (fun i _ => ?_)
    by_cases z : i = t
    · subst z
      rw [uI_at]
      exact ⟨fun _ => by decide, fun _ => Or.inr rfl⟩
    · rw [show (uI N (38, 0, 0) t 1).1 (38, 0, 0) i = N.1 (38, 0, 0) i from uI_q (fun q => z q.2)]
      exact ⟨fun q => q.resolve_right z, Or.inl⟩
theorem tr52_f {len p k w t : Nat} {M N N' : Mem} {a : Nat} (h : TS len p k w M N) (hw : ¬ w = 2) (ht : t < 4) (e : f_X12_fail 1 N = some ((), N')) (e11 : N'.1 (10, 0, 0) 11 = N.1 (10, 0, 0) 11) (e15 : N'.1 (10, 0, 0) 15 = N.1 (10, 0, 0) 15) (h16 : ¬ N'.1 (10, 0, 0) 16 = 0) : ∃ N2, f_X12_parseTrigger_52 (nI t) N' = some ((), N2) ∧ FN N' N2 := by
  refine ⟨uI N' (31, 0, 0) (52 + (30 + t)) 1, ?_, (LN.S (by omega)).n⟩
  have ik : f_X12_isKeyword 7 N' = some (0, N') := by
    have q := isK h (a := 2) (by first | decide | simp)
    rw [if_neg hw, show kmap 2 = (7 : Int32) by decide] at q
    unfold f_X12_isKeyword f_X12_isKeyword_20 at q ⊢
    rw [e11, e15]
    by_cases y : N.1 (10, 0, 0) 11 = 1
    · rw [if_pos y] at q ⊢
      by_cases z : N.1 (10, 0, 0) 15 = 7
      · rw [if_pos z] at q
        cases q
      · rw [if_neg z]
    · rw [if_neg y]
  unfold f_X12_parseTrigger_52
  rw [drf, bnd_some, ik, bnd_some, if_pos rfl]
  unfold f_X12_parseTrigger_77
  rw [show (30 : Int32) = nI 30 from rfl, ix2, if_neg (nbad (by omega) (by first | decide | simp)), nI_clamp (by omega)]
  dsimp only [nm]
  have h2 : ¬ (uI N' (31, 0, 0) (52 + (30 + t)) 1).1 (10, 0, 0) 16 = 0 := by rw [uI_no (by simp)]; exact h16
  rw [ok0 h2, bnd_some, if_pos rfl, tr89_f h2]
