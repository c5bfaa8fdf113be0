theorem pwF {len p k w : Nat} {M N : Mem} {L V : LM} (h : PT len p k w M N L V) : ∃ f, f_X12_parseWindow N = f_X12_parseWindow_40 f N ∧ ∀ v : Nat, k = 2 → N.1 (10, 0, 0) 13 = nI v → v ≤ 2 → (f = 0 ↔ ¬ L.1 (8, 0, v) = 1) := by
  obtain ⟨hT, hC, hM, hQ, hK⟩ := h
  obtain ⟨k1, k2, k3⟩ := hT.k
  unfold f_X12_parseWindow f_X12_parseWindow_39
  rw [k2]
  by_cases q : k = 2
  · subst q
    obtain ⟨v, hv, w1, w2⟩ := hT.num
    rw [if_pos (show nI 2 = (2 : Int32) from rfl), w2]
    by_cases y : 3 ≤ v
    · refine ⟨0, by rw [if_pos (show (3 : Int32) ≤ nI v from nI_le (a := 3) y (by omega))], fun v' _ e hv' => ?_⟩
      have := nIi e (by omega) (by omega)
      omega
    · rw [if_neg (show ¬ (3 : Int32) ≤ nI v from nI_ge (a := v) (b := 3) (by omega) (by first | decide | simp)), drf, bnd_some, show (48 : Int32) = nI 48 from rfl, ix2, if_neg (nbad (by omega) (by first | decide | simp)), nI_clamp (by omega)]
      have e8 : N.1 (31, 0, 0) (52 + (48 + v)) = L.1 (8, 0, v) := by
        rw [hM.S (by omega), cS_48 v (by omega), hQ.1.1 (8, 0, v) rfl]
      rw [e8]
      by_cases z : L.1 (8, 0, v) = 1
      · refine ⟨1, by rw [if_pos z], fun v' _ e hv' => ?_⟩
        have := nIi e (by omega) (by omega)
        subst this
        exact ⟨fun y => absurd y (by first | decide | simp), fun y => absurd z y⟩
      · refine ⟨0, by rw [if_neg z], fun v' _ e hv' => ?_⟩
        have := nIi e (by omega) (by omega)
        subst this
        exact ⟨fun _ => z, fun _ => rfl⟩
  · exact ⟨0, by rw [if_neg (fun z : nI k = 2 => q (nIi (b := 2) z (by omega) (by first | decide | simp)))], fun v e _ _ => absurd e q⟩
theorem PT.m5 {len p k w a : Nat} {M N : Mem} {L V : LM} (h : PT len p k w M N L V) (ha : a < 3) : PT len p k w (uI (uI M (3, 0, 0) 6 ((M.1 (3, 0, 0) 6) ||| (1 <<< ((nI a) &&& 31)))) (8, 2, a) 0 1) (uI N (31, 0, 0) (52 + (48 + a)) 1) (wI L (8, 0, a) 1) (wI V (8, 0, a) 1) ∧ FC M (uI (uI M (3, 0, 0) 6 ((M.1 (3, 0, 0) 6) ||| (1 <<< ((nI a) &&& 31)))) (8, 2, a) 0 1) ∧ FM N (uI N (31, 0, 0) (52 + (48 + a)) 1) := by
  obtain ⟨⟨hs, ⟨s, hk⟩, h16⟩, hC, hM, hQ, ka, kb, kc, kd⟩ := h
  have f1 : FC M (uI (uI M (3, 0, 0) 6 ((M.1 (3, 0, 0) 6) ||| (1 <<< ((nI a) &&& 31)))) (8, 2, a) 0 1) := (FC.u (Or.inr (Or.inl rfl))).trans (FC.u (Or.inr (Or.inr ⟨rfl, rfl, by simp⟩)))
  have n1 : LN N (uI N (31, 0, 0) (52 + (48 + a)) 1) := LN.S (by omega)
  have u : ∀ k, k ≠ 6 → (uI (uI M (3, 0, 0) 6 ((M.1 (3, 0, 0) 6) ||| (1 <<< ((nI a) &&& 31)))) (8, 2, a) 0 1).1 (3, 0, 0) k = M.1 (3, 0, 0) k := fun k hk => by
    rw [uI_no (by simp)]
    exact uI_q (fun q => hk q.2)
  have hM2 : hasM 4 52 (uI N (31, 0, 0) (52 + (48 + a)) 1) (wI V (8, 0, a) 1) := by
    rw [← cS_48 a ha]
    exact hM.uS (by omega)
  refine ⟨⟨⟨hs.fr f1 n1.2.2 (u 8 (by first | decide | simp)) (u 9 (by first | decide | simp)) (n1.1 17), ⟨s, (hk.c (fun k => by rw [uI_no (by simp), uI_no (by simp)])).m (fun k _ => n1.1 k)⟩, by rw [n1.1]; exact h16⟩, (hC.u0 rfl).u rfl, hM2, hQ.w rfl (hQ.2.1.q (by simp) (by simp) (by simp) (by simp) (by simp) (by simp) (by simp) (fun _ => Or.inr rfl) (by simp) (by simp) (by simp) (fun _ _ => rfl) (by simp) (by simp) (by simp)), ?_, ?_, ?_, ?_⟩, f1, n1.2.2⟩
  · rw [u 4 (by first | decide | simp)]; exact ka.iff (fun i _ => by rw [n1.2.1 _ _ (Or.inl rfl)])
  · rw [u 5 (by first | decide | simp)]; exact kb.iff (fun i _ => by rw [n1.2.1 _ _ (Or.inr (Or.inl rfl))])
  · rw [uI_no (by simp), uI_at]
    refine (kc.or (by first | decide | simp) ha).iff (fun i _ => ?_)
    rw [rdw]
    by_cases z : i = a
    · subst z
      rw [if_pos rfl]
      exact ⟨fun _ => rfl, fun _ => Or.inr rfl⟩
    · rw [if_neg (by simp; exact z)]
      exact ⟨fun q => q.resolve_right z, Or.inl⟩
  · rw [u 7 (by first | decide | simp)]; exact kd.iff (fun i _ => by rw [n1.2.1 _ _ (Or.inr (Or.inr rfl))])
def wnC (M2 : Mem) : Option (Int32 × Mem) := bnd (f_X4_takeNumber 7 (M2.1 (3, 0, 0) 6) M2) (fun r4 M5 => if r4 = 0 then some (0, M5) else nm (uI M5 (3, 0, 0) 6 ((M5.1 (3, 0, 0) 6) ||| (1 <<< ((M5.1 (3, 0, 0) 3) &&& 31)))) (fun M7 => if bad (M7.1 (3, 0, 0) 3) 3 then none else nm (uI M7 (8, 2, (Int32.toNatClampNeg (M7.1 (3, 0, 0) 3))) 0 1) (fun M9 => cW1 (Int32.toNatClampNeg (M7.1 (3, 0, 0) 3)) M9)))
theorem readWindow_eq {M : Mem} : f_X4_readWindow M = bnd (f_X7_next M) (fun _ M2 => wnC M2) := Eq.trans (by unfold f_X4_readWindow; exact rfl) rfl
theorem tk_inv {len p k w lo hi wd : Nat} {x2 : Int32} {M N M1 : Mem} (h : TS len p k w M N) (hlo : ∀ v : Nat, v ≤ 99999 → (wLeast.getD wd 0 ≤ nI v ↔ lo ≤ v)) (hhi : wMost.getD wd 0 = nI hi) (hb : hi < 2 ^ 31) (e : f_X4_takeNumber wd x2 M = some (1, M1)) : ∃ v, v ≤ hi ∧ M1.1 (3, 0, 0) 3 = nI v ∧ ((x2 >>> (nI v &&& 31)) &&& 1) = 0 := by
  have no : ∀ c : Int32, f_X4_takeNumber wd x2 M = bnd (f_X4_fail c M) (fun r11 M12 => if ¬ (r11 = 0 ∨ r11 = 1) then none else some (r11, M12)) → False := fun c q => by
    rw [q] at e
    unfold f_X4_fail at e
    dsimp only [nm] at e
    rw [bnd_some, if_neg (fun z => z (Or.inl rfl))] at e
    simp at e
  by_cases kk : k = 2
  · subst kk
    obtain ⟨v, hv, v1, v2⟩ := h.num
    by_cases r : lo ≤ v ∧ v ≤ hi
    · by_cases hm : ((x2 >>> (nI v &&& 31)) &&& 1) = 0
      · rw [tk_ok h v1 hv hlo hhi hb r hm] at e
        obtain ⟨M', N', p', k', w', n1, n2, n3, n4, n5, n6, n7⟩ := nx_ts (h.c3 (j := 3) (x := nI v))
        rw [n1, bnd_some] at e
        have e' : M' = M1 := by simpa using e
        subst e'
        exact ⟨v, r.2, by rw [n3.1 _ _ (Or.inl (by simp))]; exact uI_at, hm⟩
      · exact (no 3 (tk_bit h v1 hv hlo hhi hb r hm)).elim
    · exact (no 2 (tk_no h v1 hv hlo hhi hb r)).elim
  · exact (no 1 (tk_k h kk)).elim
theorem B_window {len p k w : Nat} {M N : Mem} {L V : LM} (h : PT len p k w M N L V) : ∃ M' N', f_X12_parseWindow N = some ((), N') ∧ FC M M' ∧ FM N N' ∧ BodyO len p (wnC M) M' N' := by
  obtain ⟨f, i1, i2⟩ := pwF h
  have hbz : ∀ i, i < 3 → bz (L.1 (8, 0, i)) ∧ (L.1 (8, 0, i) = 0 → L.1 (8, 4, i) = 0) := h.2.2.2.1.2.1.2.2.2.2.2.2.2.2.2.2.2.1
  have hb5 := fun v (hv : v < 3) => h.2.2.2.2.2.2.1.bit (i := v) (by first | decide | simp) hv
  have hm : ∀ v : Nat, k = 2 → N.1 (10, 0, 0) 13 = nI v → v ≤ 2 → (((M.1 (3, 0, 0) 6 >>> (nI v &&& 31)) &&& 1) = 0 ↔ f = 0) := fun v kk e hv => by
    rw [hb5 v (by omega), i2 v kk e hv]
  obtain ⟨M1, r, N1, e1, s1, s2, o⟩ := RO (wd := 7) (hi := 2) (x2 := M.1 (3, 0, 0) 6) (f := f) h.1 (zlo rfl) rfl (by first | decide | simp) hm
  rw [show nI 2 = (2 : Int32) from rfl] at e1
  rw [i1, pw40_eq, e1, bnd_some]
  unfold wnC
  rcases o with ⟨c1, t, p1, k1, w1, _, ht3, rfl, v3, t1, t2, t3⟩ | ⟨c1, fb⟩
  rotate_left
  · exact ⟨M1, N1, by rw [ok0 fb.2.2, bnd_some, if_pos rfl], s1.2, s2.2, Or.inr (Or.inl ⟨by rw [c1, bnd_some, if_pos rfl], fb⟩)⟩
  have ht : t < 3 := by omega
  obtain ⟨v, hv, w3, w4⟩ := tk_inv h.1 (zlo rfl) (hi := 2) rfl (by first | decide | simp) c1
  have evt : v = t := nIi (w3.symm.trans v3) (by omega) (by omega)
  subst evt
  have h80 : L.1 (8, 0, v) = 0 := (hbz v ht).1.elim id (fun z => absurd z ((hb5 v ht).mp w4))
  have h84 := (hbz v ht).2 h80
  obtain ⟨hP, f1, f2⟩ := (B_step h s1 s2 t1).m5 ht
  have v3' : (uI M1 (3, 0, 0) 6 ((M1.1 (3, 0, 0) 6) ||| (1 <<< ((nI v) &&& 31)))).1 (3, 0, 0) 3 = nI v := by rw [uIr]; exact v3
  obtain ⟨M3, N3, d1, d2, d3, d4⟩ := B_w1 ht hP (by rw [rdw, if_pos rfl]) (by rw [rdw, if_neg (by simp)]; exact h84)
  refine ⟨M3, N3, ?_, (s1.2.trans f1).trans d2, (s2.2.trans f2).trans d3, ?_⟩
  · rw [ok1 t1.2.2, bnd_some, if_neg (by first | decide | simp), drf, bnd_some, show (48 : Int32) = nI 48 from rfl, ix2, if_neg (nbad (by omega) (by first | decide | simp)), nI_clamp (by omega)]
    exact d1
  · rw [c1, bnd_some, if_neg (by first | decide | simp)]
    dsimp only [nm]
    rw [v3, v3', if_neg (nbad ht (by first | decide | simp)), nI_clamp (by omega)]
    exact d4.le (by omega)
