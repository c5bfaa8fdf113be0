theorem PR {len p k w wd j : Nat} {M N : Mem} {L V : LM} (h : PT len p k w M N L V) (hj : j < 8) (h1 : 11 ≤ wd) (h2 : wd ≤ 15) : ∃ M' N', PrO len p j wd M N M' N' := by
  have cA4 := cA44 hj
  rcases (show wd = 11 ∨ wd = 12 ∨ wd = 13 ∨ wd = 14 ∨ wd = 15 by omega) with rfl | rfl | rfl | rfl | rfl
  · refine PRu (lo := 1) (hi := 99) (f := 0) h hj (by first | decide | simp) (by first | decide | simp) rfl (by first | decide | simp) rfl (by first | decide | simp) (by first | decide | simp) (by first | decide | simp) cA4.1 (by simp) (fun r36 e X => ?_)
    unfold f_X12_parseChannel_102 f_X12_parseChannel_233
    rw [if_pos (by first | decide | simp), chan_0, bnd_some, ix18]
    refine congrArg (bnd _) (funext fun r => funext fun M => ?_)
    rw [if_neg (nbad (by omega) (by first | decide | simp)), nI_clamp (by omega)]
    rfl
  · refine PRs (i := 0) (f := 0) (W := fun M x => uI M (31, 0, 0) (52 + (22 + j)) x) h hj (by first | decide | simp) (by first | decide | simp) rfl rfl (W_S (i := 22 + j) (cS22 j hj) (by omega)) (fun r36 e X => ?_)
    unfold f_X12_parseChannel_102 f_X12_parseChannel_233
    rw [if_neg (by first | decide | simp), if_pos (by first | decide | simp), drf, bnd_some, show (22 : Int32) = nI 22 from rfl, ix2]
    refine congrArg (bnd _) (funext fun r => funext fun M => ?_)
    rw [if_neg (nbad (by omega) (by first | decide | simp)), nI_clamp (by omega)]
    rfl
  · refine PRu (lo := 0) (hi := 4095) (f := 1) h hj (by first | decide | simp) (by first | decide | simp) rfl (by first | decide | simp) rfl (by first | decide | simp) (by first | decide | simp) (by first | decide | simp) cA4.2.1 (by simp) (fun r36 e X => ?_)
    unfold f_X12_parseChannel_102 f_X12_parseChannel_233
    rw [if_neg (by first | decide | simp), if_neg (by first | decide | simp), if_pos (by first | decide | simp), chan_1, bnd_some, ix18]
    refine congrArg (bnd _) (funext fun r => funext fun M => ?_)
    rw [if_neg (nbad (by omega) (by first | decide | simp)), nI_clamp (by omega)]
    rfl
  · refine PRs (i := 0) (f := 0) (W := fun M x => uI M (32, 0, 0) (1888 + (44 + 7 * j + 2)) x) h hj (by first | decide | simp) (by first | decide | simp) rfl rfl (W_A (i := 44 + 7 * j + 2) cA4.2.2.1 (by omega)) (fun r36 e X => ?_)
    unfold f_X12_parseChannel_102 f_X12_parseChannel_233
    rw [if_neg (by first | decide | simp), if_neg (by first | decide | simp), if_neg (by first | decide | simp), if_pos (by first | decide | simp), chan_2, bnd_some, ix18]
    refine congrArg (bnd _) (funext fun r => funext fun M => ?_)
    rw [if_neg (nbad (by omega) (by first | decide | simp)), nI_clamp (by omega)]
    rfl
  · refine PRu (lo := 1) (hi := 9999) (f := 3) h hj (by first | decide | simp) (by first | decide | simp) rfl (by first | decide | simp) rfl (by first | decide | simp) (by first | decide | simp) (by first | decide | simp) cA4.2.2.2 (fun _ => (by first | decide | simp)) (fun r36 e X => ?_)
    unfold f_X12_parseChannel_102 f_X12_parseChannel_233
    rw [if_neg (by first | decide | simp), if_neg (by first | decide | simp), if_neg (by first | decide | simp), if_neg (by first | decide | simp), chan_3, bnd_some, ix18]
    refine congrArg (bnd _) (funext fun r => funext fun M => ?_)
    rw [if_neg (nbad (by omega) (by first | decide | simp)), nI_clamp (by omega)]
    rfl
theorem p102_f {wd j : Nat} {N : Mem} (hj : j < 8) (h1 : 11 ≤ wd) (h2 : wd ≤ 15) (h : ¬ N.1 (10, 0, 0) 16 = 0) : ∃ N', (∀ r36 e, f_X12_parseChannel_102 r36 (nI j) e 1888 (nI (wd - 10)) N = r36 (nI j) e 1888 N') ∧ FN N N' := by
  obtain ⟨rs, hrs⟩ := rs_f h
  rcases (show wd = 11 ∨ wd = 12 ∨ wd = 13 ∨ wd = 14 ∨ wd = 15 by omega) with rfl | rfl | rfl | rfl | rfl
  · refine ⟨uI N (32, 0, 0) (1888 + (44 + 7 * j + 0)) 1, fun r36 e => ?_, (LN.A (by omega)).n⟩
    unfold f_X12_parseChannel_102 f_X12_parseChannel_233
    rw [if_pos (by first | decide | simp), chan_0, bnd_some, ix18, rn_f h, bnd_some, if_neg (nbad (by omega) (by first | decide | simp)), nI_clamp (by omega)]
    rfl
  · refine ⟨uI N (31, 0, 0) (52 + (22 + j)) rs, fun r36 e => ?_, (LN.S (by omega)).n⟩
    unfold f_X12_parseChannel_102 f_X12_parseChannel_233
    rw [if_neg (by first | decide | simp), if_pos (by first | decide | simp), drf, bnd_some, show (22 : Int32) = nI 22 from rfl, ix2, hrs, bnd_some, if_neg (nbad (by omega) (by first | decide | simp)), nI_clamp (by omega)]
    rfl
  · refine ⟨uI N (32, 0, 0) (1888 + (44 + 7 * j + 1)) 0, fun r36 e => ?_, (LN.A (by omega)).n⟩
    unfold f_X12_parseChannel_102 f_X12_parseChannel_233
    rw [if_neg (by first | decide | simp), if_neg (by first | decide | simp), if_pos (by first | decide | simp), chan_1, bnd_some, ix18, rn_f h, bnd_some, if_neg (nbad (by omega) (by first | decide | simp)), nI_clamp (by omega)]
    rfl
  · refine ⟨uI N (32, 0, 0) (1888 + (44 + 7 * j + 2)) rs, fun r36 e => ?_, (LN.A (by omega)).n⟩
    unfold f_X12_parseChannel_102 f_X12_parseChannel_233
    rw [if_neg (by first | decide | simp), if_neg (by first | decide | simp), if_neg (by first | decide | simp), if_pos (by first | decide | simp), chan_2, bnd_some, ix18, hrs, bnd_some, if_neg (nbad (by omega) (by first | decide | simp)), nI_clamp (by omega)]
    rfl
  · refine ⟨uI N (32, 0, 0) (1888 + (44 + 7 * j + 3)) 1, fun r36 e => ?_, (LN.A (by omega)).n⟩
    unfold f_X12_parseChannel_102 f_X12_parseChannel_233
    rw [if_neg (by first | decide | simp), if_neg (by first | decide | simp), if_neg (by first | decide | simp), if_neg (by first | decide | simp), chan_3, bnd_some, ix18, rn_f h, bnd_some, if_neg (nbad (by omega) (by first | decide | simp)), nI_clamp (by omega)]
    rfl
theorem kmap_pr : ∀ w, w < 26 → ((11 ≤ w ∧ w ≤ 15 → kmap w = nI (w - 10)) ∧ (¬ (11 ≤ w ∧ w ≤ 15) → ¬ (1 ≤ kmap w ∧ kmap w ≤ 5))) := by decide +kernel
theorem isPr {w : Nat} {M : Mem} : f_X10_isProperty w M = some (if 11 ≤ w ∧ w ≤ 15 then 1 else 0, M) := by
  unfold f_X10_isProperty f_X10_isProperty_35
  by_cases h1 : w = 11
  · rw [if_pos h1, if_pos (by omega)]
  rw [if_neg h1]
  by_cases h2 : w = 12
  · rw [if_pos h2, if_pos (by omega)]
  rw [if_neg h2]
  by_cases h3 : w = 13
  · rw [if_pos h3, if_pos (by omega)]
  rw [if_neg h3]
  by_cases h4 : w = 14
  · rw [if_pos h4, if_pos (by omega)]
  rw [if_neg h4]
  by_cases h5 : w = 15
  · rw [if_pos h5, if_pos (by omega)]
  rw [if_neg h5, if_neg (by omega)]
theorem pc36_f {g : Nat} {x e : Int32} {N : Mem} (h : ¬ N.1 (10, 0, 0) 16 = 0) : f_X12_parseChannel_36 (g + 1) x e 1888 N = some ((), N) := by
  rw [show f_X12_parseChannel_36 (g + 1) x e 1888 N = _ from Eq.trans (by unfold f_X12_parseChannel_36; exact rfl) rfl, ok0 h, bnd_some, if_pos rfl]
theorem BodyO.le {len p q : Nat} {c : Option (Int32 × Mem)} {M' N' : Mem} (h : BodyO len q c M' N') (hp : p ≤ q) : BodyO len p c M' N' := by
  rcases h with ⟨c, p4, k4, w4, L4, V4, z1, z2⟩ | z | z
  · exact Or.inl ⟨c, p4, k4, w4, L4, V4, z1, by omega⟩
  · exact Or.inr (Or.inl z)
  · exact Or.inr (Or.inr z)
theorem ch_loop {len j : Nat} (hj : j < 8) : ∀ (f g p k w : Nat) (s : Nat → Bool) (xc xm : Int32) (M N : Mem) (L V : LM), 5 - cn s < f → 5 - cn s + 1 < g → PT len p k w M N L V → Mk 26 xc (fun v => s v = true) → Mk 6 xm (fun i => s (i + 10) = true) → ∃ M' N', f_X12_parseChannel_36 g (nI j) xm 1888 N = some ((), N') ∧ FC M M' ∧ FM N N' ∧ BodyO len p (f_X4_readChannel_55 f 2 j xc (nI (cn s)) M) M' N' := by
  intro f
  induction f with
  | zero => intro g p k w s xc xm M N L V hf; omega
  | succ f ih =>
    intro g p k w s xc xm M N L V hf hg h hc hm
    obtain ⟨g, rfl⟩ : ∃ a, g = a + 1 := ⟨g - 1, by omega⟩
    obtain ⟨q1, q2, q3, q4⟩ := h.1.w
    obtain ⟨k1, k2, k3⟩ := h.1.k
    have hcn := cn_le (s := s)
    have ec : f_X4_readChannel_55 (f + 1) 2 j xc (nI (cn s)) M = if 11 ≤ w ∧ w ≤ 15 then (if (xc &&& (wBit.getD w 0)) = 0 then bnd (f_X7_next M) (fun _ M8 => clE (f_X4_readChannel_55 f) j (xc ||| (wBit.getD w 0)) (nI (cn s)) w M8) else bnd (f_X4_fail 3 M) (fun r13 M14 => if ¬ (r13 = 0 ∨ r13 = 1) then none else some (r13, M14))) else some (1, M) := by
      rw [show f_X4_readChannel_55 (f + 1) 2 j xc (nI (cn s)) M = _ from Eq.trans (by unfold f_X4_readChannel_55; exact rfl) rfl, if_neg (show ¬ (5 : Int32) < nI (cn s) from Int32.not_lt.mpr (nI_le (b := 5) hcn (by first | decide | simp))), q2, wck_n q1, isPr, bnd_some]
      by_cases y : 11 ≤ w ∧ w ≤ 15
      · rw [if_pos y, if_neg (by first | decide | simp), if_pos y, q2, wck_n q1]
        rfl
      · rw [if_neg y, if_pos rfl, if_neg y]
    have em : f_X12_parseChannel_36 (g + 1) (nI j) xm 1888 N = _ := Eq.trans (by unfold f_X12_parseChannel_36; exact rfl) rfl
    rw [ec, em, ok1 h.1.2.2, bnd_some, if_neg (by first | decide | simp), k2]
    obtain ⟨m1, m2⟩ := kmap_pr w q1
    by_cases y : 11 ≤ w ∧ w ≤ 15
    · have kk : k = 1 := Classical.byContradiction (fun z => by have := q3 z; omega)
      subst kk
      have ew := m1 y
      have en : (1 : Int32) ≤ nI (w - 10) ∧ nI (w - 10) ≤ 5 := ⟨nI_le (a := 1) (by omega) (by omega), nI_le (b := 5) (by omega) (by first | decide | simp)⟩
      rw [if_pos y, if_pos (show nI 1 = (1 : Int32) from rfl), q4 rfl, ew, iR1 en, bnd_some, if_neg (by first | decide | simp)]
      dsimp only [nm]
      rw [q4 rfl, ew]
      have hb := hc.wb (w := w) q1
      have hb2 := hm.bit1 (i := w - 10) (by first | decide | simp) (by omega)
      rw [show w - 10 + 10 = w by omega] at hb2
      cases hs : s w with
      | true =>
        obtain ⟨M1, N1, a1, a2, a3, a4, a5⟩ := fail2 (x := 3) h.1 (by first | decide | simp)
        obtain ⟨N2, b1, b2⟩ := p102_f hj y.1 y.2 a5.2.2
        obtain ⟨g, rfl⟩ : ∃ a, g = a + 1 := ⟨g - 1, by omega⟩
        refine ⟨M1, N2, ?_, a3.2, a4.2.trans b2.1, Or.inr (Or.inl ⟨?_, a5.n b2⟩)⟩
        · rw [if_pos (hb2.mpr hs), a2, bnd_some]
          unfold f_X12_parseChannel_84
          dsimp only [nm]
          rw [ok0 a5.2.2, bnd_some, if_pos rfl, b1, pc36_f (b2.z a5.2.2)]
        · rw [if_neg (fun z => (hb.mp z) hs), a1, bnd_some, if_neg (by first | decide | simp)]
      | false =>
        have hcu := cn_up y.1 y.2 hs
        have hcu2 := cn_le (s := ups s w)
        obtain ⟨M1, N1, p1, kk1, w1, a1, a2, a3, a4, a5, a6, a7⟩ := nx_ts h.1
        obtain ⟨M2, N2, b1, b2, b3, b4⟩ := PR (wd := w) (B_step h a3.s a4.s a5) hj y.1 y.2
        have e84 : f_X12_parseChannel_84 (f_X12_parseChannel_36 g) (nI j) xm 1888 (nI (w - 10)) N = f_X12_parseChannel_36 g (nI j) (xm ||| (1 <<< (nI (w - 10) &&& 31))) 1888 N2 := by
          unfold f_X12_parseChannel_84
          dsimp only [nm]
          rw [ok1 h.1.2.2, bnd_some, if_neg (by first | decide | simp), a2, bnd_some, b1]
        rw [if_neg (fun z => by have := hb2.mp z; rw [hs] at this; cases this), e84, if_pos (hb.mpr (by rw [hs]; decide)), a1, bnd_some]
        rcases b4 with ⟨p2, kk2, w2, L2, V2, c1, c2, c3⟩ | ⟨c1, c2⟩
        · obtain ⟨M3, N3, d1, d2, d3, d4⟩ := ih g p2 kk2 w2 (ups s w) (xc ||| (wBit.getD w 0)) (xm ||| (1 <<< (nI (w - 10) &&& 31))) M2 N2 L2 V2 (by omega) (by omega) c2 ((hc.wo q1).iff (fun i _ => by
            unfold ups
            by_cases z : i = w
            · rw [if_pos z]; exact ⟨fun _ => rfl, fun _ => Or.inr z⟩
            · rw [if_neg z]; exact ⟨fun t => t.resolve_right z, Or.inl⟩)) ((hm.or (by first | decide | simp) (by omega)).iff (fun i _ => by
            unfold ups
            by_cases z : i + 10 = w
            · rw [if_pos z]; exact ⟨fun _ => rfl, fun _ => Or.inr (by omega)⟩
            · rw [if_neg z]; exact ⟨fun t => t.resolve_right (by omega), Or.inl⟩))
          refine ⟨M3, N3, d1, (a3.c.trans b2).trans d2, (a4.m.trans b3).trans d3, ?_⟩
          rw [c1, nI_1, ← hcu]
          exact d4.le (by omega)
        · obtain ⟨g, rfl⟩ : ∃ a, g = a + 1 := ⟨g - 1, by omega⟩
          exact ⟨M2, N2, pc36_f c2.2.2, a3.c.trans b2, a4.m.trans b3, Or.inr (Or.inl ⟨c1 _ _ _, c2⟩)⟩
    · rw [if_neg y]
      refine ⟨M, N, ?_, FC.refl M, FM.refl N, Or.inl ⟨rfl, p, k, w, L, V, h, Nat.le_refl p⟩⟩
      by_cases z : k = 1
      · subst z
        rw [if_pos (show nI 1 = (1 : Int32) from rfl), q4 rfl, iR0 (m2 y), bnd_some, if_pos rfl]
      · rw [if_neg (fun t : nI k = 1 => z (nIi (b := 1) t (by omega) (by first | decide | simp)))]
