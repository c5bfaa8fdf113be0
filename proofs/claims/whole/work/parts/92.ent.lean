/-! ===== regular, injected: entries ===== -/
theorem tk_ok {len p w v lo hi wd : Nat} {x2 : Int32} {M N : Mem} (h : TS len p 2 w M N) (v1 : M.1 (6, 0, 0) 6 = nI v) (hv : v ≤ 99999) (hlo : ∀ v : Nat, v ≤ 99999 → (wLeast.getD wd 0 ≤ nI v ↔ lo ≤ v)) (hhi : wMost.getD wd 0 = nI hi) (hb : hi < 2 ^ 31) (r : lo ≤ v ∧ v ≤ hi) (hm : ((x2 >>> (nI v &&& 31)) &&& 1) = 0) : f_X4_takeNumber wd x2 M = bnd (f_X7_next (uI M (3, 0, 0) 3 (nI v))) (fun _ M6 => some (1, M6)) := by
  obtain ⟨k1, k2, k3⟩ := h.k
  unfold f_X4_takeNumber
  dsimp only [nm]
  rw [k1, if_pos (by first | decide | simp), v1, al_iff hv hlo hhi hb, if_pos r, bnd_some, if_neg (by first | decide | simp), v1, if_pos hm]
theorem tk_no {len p w v lo hi wd : Nat} {x2 : Int32} {M N : Mem} (h : TS len p 2 w M N) (v1 : M.1 (6, 0, 0) 6 = nI v) (hv : v ≤ 99999) (hlo : ∀ v : Nat, v ≤ 99999 → (wLeast.getD wd 0 ≤ nI v ↔ lo ≤ v)) (hhi : wMost.getD wd 0 = nI hi) (hb : hi < 2 ^ 31) (r : ¬ (lo ≤ v ∧ v ≤ hi)) : f_X4_takeNumber wd x2 M = bnd (f_X4_fail 2 M) (fun r11 M12 => if ¬ (r11 = 0 ∨ r11 = 1) then none else some (r11, M12)) := by
  obtain ⟨k1, k2, k3⟩ := h.k
  unfold f_X4_takeNumber
  rw [k1, if_pos (by first | decide | simp), v1, al_iff hv hlo hhi hb, if_neg r, bnd_some, if_pos rfl]
theorem tk_bit {len p w v lo hi wd : Nat} {x2 : Int32} {M N : Mem} (h : TS len p 2 w M N) (v1 : M.1 (6, 0, 0) 6 = nI v) (hv : v ≤ 99999) (hlo : ∀ v : Nat, v ≤ 99999 → (wLeast.getD wd 0 ≤ nI v ↔ lo ≤ v)) (hhi : wMost.getD wd 0 = nI hi) (hb : hi < 2 ^ 31) (r : lo ≤ v ∧ v ≤ hi) (hm : ¬ ((x2 >>> (nI v &&& 31)) &&& 1) = 0) : f_X4_takeNumber wd x2 M = bnd (f_X4_fail 3 M) (fun r11 M12 => if ¬ (r11 = 0 ∨ r11 = 1) then none else some (r11, M12)) := by
  obtain ⟨k1, k2, k3⟩ := h.k
  unfold f_X4_takeNumber
  dsimp only [nm]
  rw [k1, if_pos (by first | decide | simp), v1, al_iff hv hlo hhi hb, if_pos r, bnd_some, if_neg (by first | decide | simp), v1, if_neg hm]
theorem tk_k {len p k w wd : Nat} {x2 : Int32} {M N : Mem} (h : TS len p k w M N) (hk : k ≠ 2) : f_X4_takeNumber wd x2 M = bnd (f_X4_fail 1 M) (fun r11 M12 => if ¬ (r11 = 0 ∨ r11 = 1) then none else some (r11, M12)) := by
  obtain ⟨k1, k2, k3⟩ := h.k
  unfold f_X4_takeNumber
  rw [k1, if_neg (fun z : nI k = 2 => hk (nIi (b := 2) z (by omega) (by first | decide | simp)))]
theorem mfail {len p k w : Nat} {M N : Mem} {x : Int32} (h : TS len p k w M N) : ∃ N', f_X12_fail x N = some ((), N') ∧ SM N N' ∧ N'.1 (10, 0, 0) 16 = x ∧ N'.1 (10, 0, 0) 17 = M.1 (6, 0, 0) 4 := by
  obtain ⟨hs, ⟨s, ht⟩, h16⟩ := h
  have t4 := ht.2.2.2.2.1
  have t12 := ht.2.2.2.2.2.1
  refine ⟨uI (uI N (10, 0, 0) 16 x) (10, 0, 0) 17 (nI s), ?_, (SM.u (by first | decide | simp)).trans (SM.u (by first | decide | simp)), ?_, ?_⟩
  · unfold f_X12_fail
    rw [if_pos h16]
    dsimp only [nm]
    rw [uIr, t12]
  · rw [uIr, uI_at]
  · rw [uI_at, t4]
theorem pe60_f {r5 : Int32 → Int32 → Int32 → Int32 → Mem → Option (Unit × Mem)} {x1 x2 x3 : Int32} {N : Mem} (h : ¬ N.1 (10, 0, 0) 16 = 0) : f_X12_parseEntries_60 r5 x1 x2 x3 N = some ((), N) := by
  unfold f_X12_parseEntries_60
  rw [ok0 h, bnd_some, if_pos rfl]
theorem ix10 {s i : Nat} : (52 : Int32) + ((10 + 8 * nI s) + nI i) = nI (52 + (10 + 8 * s + i)) := by
  rw [show (52 : Int32) = nI 52 from rfl, show (10 : Int32) = nI 10 from rfl, show (8 : Int32) = nI 8 from rfl, pk_mul, nI_add, nI_add, nI_add]
theorem cS20 {s i : Nat} (hs : s < 2) (hi : i < capE s) : cS (10 + 8 * s + i) = (20, i, s) := by
  rcases (show s = 0 ∨ s = 1 by omega) with rfl | rfl
  · exact cS_o0 i hi
  · exact cS_o1 i hi
theorem capE_ak {s : Nat} (hs : s < 2) : (akO (20, 2, s)).2 = capE s := by
  rcases (show s = 0 ∨ s = 1 by omega) with rfl | rfl <;> rfl
theorem capE_8 {s : Nat} (hs : s < 2) : 10 + 8 * s + capE s ≤ 22 ∧ 1 ≤ capE s := by
  rcases (show s = 0 ∨ s = 1 by omega) with rfl | rfl <;> decide
theorem wI_wI {L : LM} {a : Cl} {x y : Int32} : wI (wI L a x) a y = wI L a y := by
  refine Prod.ext (funext fun b => ?_) rfl
  show (wI (wI L a x) a y).1 b = (wI L a y).1 b
  rw [rdw, rdw, rdw]
  by_cases q : b = a
  · rw [if_pos q, if_pos q]
  · rw [if_neg q, if_neg q, if_neg q]
theorem wI_cm {L : LM} {a b : Cl} {x y : Int32} (h : a ≠ b) : wI (wI L a x) b y = wI (wI L b y) a x := by
  refine Prod.ext (funext fun c => ?_) rfl
  show (wI (wI L a x) b y).1 c = (wI (wI L b y) a x).1 c
  rw [rdw, rdw, rdw, rdw]
  by_cases q : c = b
  · rw [if_pos q, if_neg (fun z => h (z.symm.trans q)), if_pos q]
  · rw [if_neg q, if_neg q]
/-- entries while they are read: the count stands on the class's side alone -/
def PE (len s p k w : Nat) (M N : Mem) (L V : LM) : Prop := TS len p k w M N ∧ hasC 2 M L ∧ hasM 4 52 N V ∧ Q L (wI V (5, 1, s) (L.1 (5, 1, s))) ∧ MS M N L
theorem hj5 {s j i : Nat} (h : ((5, 1, s) : Cl) = (5, 1, j)) (hi : i < capE s) : i + 1 ≤ capE j := by
  simp only [Prod.mk.injEq, true_and] at h
  rw [← h]
  exact hi
theorem en_loop {len s : Nat} (hs : s < 2) : ∀ (f g p k w i : Nat) (x4 : Int32) (M N : Mem) (L V : LM), capE s - i < f → capE s - i + 1 < g → i ≤ capE s → PE len s p k w M N L V → (1 ≤ i → L.1 (5, 1, s) = nI i ∧ (x4 = 0 ↔ ¬ (k = 2 ∨ k = 4))) → (i = 0 → ¬ x4 = 0) → ∃ M' N', f_X12_parseEntries_5 g (nI s) (nI (capE s)) (nI i) x4 N = some ((), N') ∧ FC M M' ∧ FM N N' ∧ BodyO len p (f_X4_readEntries_8 f 2 s (nI (capE s)) (nI i) M) M' N' := by
  have z01 : ∀ {M : Mem}, (if ¬ ((0 : Int32) = 0 ∨ (0 : Int32) = 1) then none else some ((0 : Int32), M)) = some (0, M) := fun {M} => if_neg (fun q => q (Or.inl rfl))
  obtain ⟨hc1, hc2⟩ := capE_8 hs
  have hc8 := capE8 (j := s)
  intro f
  induction f with
  | zero => intro g p k w i x4 M N L V hf; omega
  | succ f ih =>
    intro g p k w i x4 M N L V hf hg hi h h1 h0
    obtain ⟨g, rfl⟩ : ∃ a, g = a + 1 := ⟨g - 1, by omega⟩
    obtain ⟨hT, hC, hM, hQ, hK⟩ := h
    obtain ⟨k1, k2, k3⟩ := hT.k
    have ec : f_X4_readEntries_8 (f + 1) 2 s (nI (capE s)) (nI i) M = _ := Eq.trans (by unfold f_X4_readEntries_8; exact rfl) rfl
    have em : f_X12_parseEntries_5 (g + 1) (nI s) (nI (capE s)) (nI i) x4 N = _ := Eq.trans (by unfold f_X12_parseEntries_5; exact rfl) rfl
    rw [ec, em, ok1 hT.2.2, bnd_some, if_neg (by first | decide | simp), k1, k2]
    have nk2 : k ≠ 2 → ¬ nI k = 2 := fun z y => z (nIi (b := 2) y (by omega) (by first | decide | simp))
    -- an entry is taken on both sides
    have step : ∀ v, k = 2 → v < 8 → M.1 (6, 0, 0) 6 = nI v → N.1 (10, 0, 0) 13 = nI v → i < capE s → ∃ M' N', f_X12_parseEntries_60 (f_X12_parseEntries_5 g) (nI s) (nI (capE s)) (nI i) N = some ((), N') ∧ FC M M' ∧ FM N N' ∧ BodyO len p (f_X4_readEntries_30 (f_X4_readEntries_8 f) 2 s (nI (capE s)) (nI i) M) M' N' := by
      intro v kk hv v1 v2 hic
      subst kk
      have n1 : LN N (uI N (31, 0, 0) (52 + (10 + 8 * s + i)) (nI v)) := LN.S (by omega)
      obtain ⟨M3, N3, p3, k3', w3, a1, a2, a3, a4, a5, a6, a7⟩ := nx_ts ((hT.c3 (j := 3) (x := nI v)).l (LC.refl _) n1)
      have kk3 := a5.k
      have x2e : M3.1 (3, 0, 0) 3 = nI v := by rw [a3.1 _ _ (Or.inl (by simp))]; exact uI_at
      have c1 : LC M3 (uI (uI M3 (20, 2, s) i (nI v)) (5, 2, s) 1 (nI (i + 1))) := (LC.u rfl (by simp)).trans (LC.u rfl (by simp))
      have hM2 : hasM 4 52 (uI N (31, 0, 0) (52 + (10 + 8 * s + i)) (nI v)) (wI V (20, i, s) (nI v)) := by
        rw [← cS20 hs hic]
        exact hM.uS (by omega)
      have s2 := SC.u3 (M := M) (k := 3) (x := nI v) (Or.inl rfl)
      have q1 := hQ.w (a := (20, i, s)) (v := nI v) rfl (hQ.2.1.q (by simp) (by simp) (by simp) (by simp) (fun _ _ _ => ⟨v, hv, rfl⟩) (by simp) (by simp) (by simp) (by simp) (by simp) (by simp) (by simp) (by simp) (by simp) (by simp))
      have q2 := q1.w (a := (5, 1, s)) (v := nI (i + 1)) rfl (q1.2.1.q (by simp) (by simp) (by simp) (fun j hj _ => ⟨i + 1, (hj5 hj hic), rfl⟩) (by simp) (by simp) (by simp) (by simp) (by simp) (by simp) (by simp) (by simp) (by simp) (by simp) (by simp))
      have eL : (wI (wI L (20, i, s) (nI v)) (5, 1, s) (nI (i + 1))).1 (5, 1, s) = nI (i + 1) := by rw [rdw, if_pos rfl]
      have eV : wI (wI (wI V (5, 1, s) (L.1 (5, 1, s))) (20, i, s) (nI v)) (5, 1, s) (nI (i + 1)) = wI (wI V (20, i, s) (nI v)) (5, 1, s) ((wI (wI L (20, i, s) (nI v)) (5, 1, s) (nI (i + 1))).1 (5, 1, s)) := by
        rw [eL, wI_cm (a := (5, 1, s)) (b := (20, i, s)) (by simp), wI_wI]
      rw [eV] at q2
      obtain ⟨M4, N4, b1, b2, b3, b4⟩ := ih g p3 k3' w3 (i + 1) (if k3' = 2 ∨ k3' = 4 then 1 else 0) (uI (uI M3 (20, 2, s) i (nI v)) (5, 2, s) 1 (nI (i + 1))) N3 _ _ (by omega) (by omega) (by omega) ⟨a5.l c1 (LN.refl N3), (((hC.s s2).s a3.s).u rfl).u rfl, hM2.s a4.s, q2, (((hK.s s2 (SM.refl N)).l (LC.refl _) n1 (fun _ => rfl)).s a3.s a4.s).l c1 (LN.refl N3) (fun j => by rw [rdw, if_neg (by simp), rdw, if_neg (by simp)])⟩ (fun _ => ⟨eL, by
        by_cases y : k3' = 2 ∨ k3' = 4
        · rw [if_pos y]; exact ⟨fun z => absurd z (by first | decide | simp), fun z => absurd y z⟩
        · rw [if_neg y]; exact ⟨fun _ => y, fun _ => rfl⟩⟩) (fun z => by omega)
      refine ⟨M4, N4, ?_, ((s2.2.trans a3.c).trans c1.2.2).trans b2, (n1.2.2.trans a4.m).trans b3, ?_⟩
      · unfold f_X12_parseEntries_60 f_X12_parseEntries_112 f_X12_parseEntries_117
        rw [ok1 hT.2.2, bnd_some, if_neg (by first | decide | simp), drf, bnd_some, ix10, if_neg (nbad (by omega) (by first | decide | simp)), nI_clamp (by omega), v2]
        dsimp only [nm]
        rw [nI_1, a2, bnd_some, kk3.2.1]
        by_cases y : k3' = 2
        · subst y
          rw [if_pos (show nI 2 = (2 : Int32) from rfl)]
          exact b1
        · rw [if_neg (fun z : nI k3' = 2 => y (nIi (b := 2) z (by omega) (by first | decide | simp)))]
          by_cases y4 : k3' = 4
          · subst y4
            rw [if_pos (show nI 4 = (4 : Int32) from rfl)]
            exact b1
          · rw [if_neg (fun z : nI k3' = 4 => y4 (nIi (b := 4) z (by omega) (by first | decide | simp)))]
            rw [if_neg (fun z => z.elim y y4)] at b1
            exact b1
      · unfold f_X4_readEntries_30
        rw [tk_ok hT v1 (by omega) (zlo (wd := 0) rfl) (hi := 7) rfl (by first | decide | simp) ⟨Nat.zero_le v, by omega⟩ (m0 (k := 2) (M := M) (lo := 0) (hi := v) v rfl v1 (Nat.zero_le v) (Nat.le_refl v)), a1, bnd_some, bnd_some, if_neg (by first | decide | simp), capE_ak hs, if_neg (nbad hic (by omega)), nI_clamp (by omega)]
        dsimp only [nm]
        rw [x2e, nI_1]
        exact b4.le (by omega)
    have fl : ∀ (c : Int32) (C : Option (Int32 × Mem)), ¬ c = 0 → C = bnd (f_X4_fail c M) (fun r11 M12 => if ¬ (r11 = 0 ∨ r11 = 1) then none else some (r11, M12)) → ∃ M' N', bnd (f_X12_fail c N) (fun _ M11 => f_X12_parseEntries_60 (f_X12_parseEntries_5 g) (nI s) (nI (capE s)) (nI i) M11) = some ((), N') ∧ FC M M' ∧ FM N N' ∧ C = some (0, M') ∧ Fb M' N' := by
      intro c C hc eC
      obtain ⟨M1, N1, a1, a2, a3, a4, a5⟩ := fail2 (x := c) hT hc
      exact ⟨M1, N1, by rw [a2, bnd_some, pe60_f a5.2.2], a3.2, a4.2, by rw [eC, a1, bnd_some, z01], a5⟩
    have x41 : (i = 0 ∨ k = 2 ∨ k = 4) → ¬ x4 = 0 := fun y => by
      by_cases z : i = 0
      · exact h0 z
      · exact fun t => ((h1 (by omega)).2.mp t) (y.resolve_left z)
    have m30 : ∀ C : Option (Int32 × Mem), C = some (0, M) → True := fun _ _ => trivial
    by_cases kk : k = 2
    · subst kk
      obtain ⟨v, hv, v1, v2⟩ := hT.num
      rw [if_neg (x41 (Or.inr (Or.inl rfl))), if_pos (show nI 2 = (2 : Int32) from rfl), v2]
      by_cases v8 : v < 8
      · rw [if_pos (show nI v < (8 : Int32) from Int32.not_le.mp (nI_ge (a := v) (b := 8) v8 (by first | decide | simp)))]
        by_cases ci : i = capE s
        · obtain ⟨M', N', a1, a2, a3, a4, a5⟩ := fl 4 (bnd (f_X10_allows 0 (M.1 (6, 0, 0) 6) M) (fun r1 M2 => if r1 = 0 then bnd (f_X4_fail 2 M2) (fun r4 M5 => if ¬ (r4 = 0 ∨ r4 = 1) then none else some (r4, M5)) else bnd (f_X4_fail 4 M2) (fun r7 M8 => if ¬ (r7 = 0 ∨ r7 = 1) then none else some (r7, M8)))) (by first | decide | simp) (by
            rw [v1, al_iff (lo := 0) (hi := 7) hv (zlo rfl) rfl (by first | decide | simp), if_pos ⟨Nat.zero_le v, by omega⟩, bnd_some, if_neg (by first | decide | simp)])
          refine ⟨M', N', ?_, a2, a3, Or.inr (Or.inl ⟨?_, a5⟩)⟩
          · rw [if_pos (by rw [ci])]; exact a1
          · rw [if_pos (nI_le (by omega) (by omega)), if_pos (show nI 2 = (2 : Int32) from rfl)]; exact a4
        · obtain ⟨M', N', a1, a2, a3, a4⟩ := step v rfl v8 v1 v2 (by omega)
          refine ⟨M', N', ?_, a2, a3, ?_⟩
          · rw [if_neg (fun z => ci (nIi z (by omega) (by omega)))]; exact a1
          · rw [if_neg (nI_ge (by omega) (by omega)), if_pos (show nI 2 = (2 : Int32) from rfl), ite_self]; exact a4
      · rw [if_neg (show ¬ nI v < (8 : Int32) from Int32.not_lt.mpr (nI_le (a := 8) (by omega) (by omega)))]
        by_cases ci : i = capE s
        · obtain ⟨M', N', a1, a2, a3, a4, a5⟩ := fl 2 (bnd (f_X10_allows 0 (M.1 (6, 0, 0) 6) M) (fun r1 M2 => if r1 = 0 then bnd (f_X4_fail 2 M2) (fun r4 M5 => if ¬ (r4 = 0 ∨ r4 = 1) then none else some (r4, M5)) else bnd (f_X4_fail 4 M2) (fun r7 M8 => if ¬ (r7 = 0 ∨ r7 = 1) then none else some (r7, M8)))) (by first | decide | simp) (by
            rw [v1, al_iff (lo := 0) (hi := 7) hv (zlo rfl) rfl (by first | decide | simp), if_neg (by omega), bnd_some, if_pos rfl])
          refine ⟨M', N', a1, a2, a3, Or.inr (Or.inl ⟨?_, a5⟩)⟩
          rw [if_pos (nI_le (by omega) (by omega)), if_pos (show nI 2 = (2 : Int32) from rfl)]; exact a4
        · obtain ⟨M', N', a1, a2, a3, a4, a5⟩ := fl 2 (f_X4_takeNumber 0 0 M) (by first | decide | simp) (tk_no hT v1 hv (zlo rfl) (hi := 7) rfl (by first | decide | simp) (by omega))
          refine ⟨M', N', a1, a2, a3, Or.inr (Or.inl ⟨?_, a5⟩)⟩
          rw [if_neg (nI_ge (by omega) (by omega)), if_pos (show nI 2 = (2 : Int32) from rfl), ite_self]
          unfold f_X4_readEntries_30
          rw [a4, bnd_some, if_pos rfl]
    · rw [if_neg (nk2 kk), if_neg (nk2 kk), if_neg (nk2 kk)]
      by_cases i0 : i = 0
      · obtain ⟨M', N', a1, a2, a3, a4, a5⟩ := fl 1 (f_X4_takeNumber 0 0 M) (by first | decide | simp) (tk_k hT kk)
        refine ⟨M', N', ?_, a2, a3, Or.inr (Or.inl ⟨?_, a5⟩)⟩
        · rw [if_neg (x41 (Or.inl i0))]; exact a1
        · rw [if_neg (nI_ge (by omega) (by omega)), if_pos (show nI i ≤ (0 : Int32) from nI_le (b := 0) (by omega) (by first | decide | simp))]
          unfold f_X4_readEntries_30
          rw [a4, bnd_some, if_pos rfl]
      · have ecl : (if nI (capE s) ≤ nI i then some ((1 : Int32), M) else if nI i ≤ 0 then f_X4_readEntries_30 (f_X4_readEntries_8 f) 2 s (nI (capE s)) (nI i) M else some (1, M)) = some (1, M) := by
          rw [if_neg (show ¬ nI i ≤ (0 : Int32) from nI_ge (a := 0) (b := i) (by omega) (by omega)), ite_self]
        rw [ecl]
        by_cases k4 : k = 4
        · subst k4
          obtain ⟨N1, a1, a2, a3, a4⟩ := mfail (x := 1) hT
          have h16 : ¬ N1.1 (10, 0, 0) 16 = 0 := by rw [a3]; decide
          exact ⟨M, N1, by rw [if_neg (x41 (Or.inr (Or.inr rfl))), a1, bnd_some, pe60_f h16], FC.refl M, a2.2, Or.inr (Or.inr ⟨rfl, k1, a3, a4⟩)⟩
        · have x0 : x4 = 0 := (h1 (by omega)).2.mpr (fun z => z.elim kk k4)
          rw [if_pos x0]
          have n1 : LN N (uI N (31, 0, 0) (52 + s) (nI i)) := LN.S (by omega)
          refine ⟨M, uI N (31, 0, 0) (52 + s) (nI i), ?_, FC.refl M, n1.2.2, Or.inl ⟨rfl, p, k, w, L, wI V (5, 1, s) (nI i), ⟨hT.l (LC.refl M) n1, hC, ?_, ?_, hK.l (LC.refl M) n1 (fun _ => rfl)⟩, Nat.le_refl p⟩⟩
          · unfold f_X12_parseEntries_122
            rw [drf, bnd_some, show (52 : Int32) + (0 + nI s) = nI (52 + (0 + s)) from ix2 (n := 0), if_neg (nbad (by omega) (by first | decide | simp)), nI_clamp (by omega), show 52 + (0 + s) = 52 + s by omega]
            rfl
          · have e := hM.uS (i := s) (x := nI i) (by omega)
            rw [cS_e s hs] at e
            exact e
          · rw [← (h1 (by omega)).1]
            exact hQ
