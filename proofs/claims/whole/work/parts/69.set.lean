/-! ===== calls that change the live converter ===== -/
def dydc : Cl → Bool := fun x => match x with
  | (21, _, j) => Nat.beq j 0 || Nat.beq j 1
  | (4, f, _) => Nat.beq f 2 || Nat.beq f 4 || Nat.beq f 5
  | (5, f, _) => Nat.beq f 1 || Nat.beq f 3 || Nat.beq f 4 || Nat.beq f 5 || Nat.beq f 8 || Nat.beq f 10
  | (1, _, _) => true
  | (2, f, _) => Nat.beq f 12 || Nat.beq f 15 || Nat.beq f 17
  | (8, f, _) => Nat.ble 6 f
  | (22, _, _) => true
  | _ => false
theorem R.dyd {t u : Nat} {L V L' V' : LM} (h : R t u L V) (E : Eqq L' V') (S : St L') (l : ∀ a : Cl, dydc a = true → L'.1 a = L.1 a) (v : ∀ a : Cl, dydc a = true → V'.1 a = V.1 a) : R t u L' V' := by
  obtain ⟨_, hS, ⟨c1, c2, c3, c4⟩, hs0, hs1, hw, hlt, hr0, hr1⟩ := h
  refine ⟨E, S, ⟨?_, ?_, ?_, ?_⟩, ?_, ?_, fun w hw' => ?_, hlt.of (l _ rfl) (l _ rfl) (l _ rfl) (fun i => v _ rfl), ?_, ?_⟩
  · rw [l _ rfl]; exact c1
  · unfold Ow
    rw [l _ rfl]
    rcases c2 with c2 | ⟨s, h1, h2, h3⟩
    · exact Or.inl c2
    · exact Or.inr ⟨s, h1, h2, by rw [l _ rfl]; exact h3⟩
  · rw [l _ rfl, l _ rfl, l _ rfl, v _ rfl]; exact c3
  · rw [l _ rfl, l _ rfl, v _ rfl]; exact c4
  · exact hs0.of (l _ rfl) (l _ rfl) (l _ rfl) (l _ rfl) (l _ rfl) (l _ rfl) (v _ rfl)
  · exact hs1.of (l _ rfl) (l _ rfl) (l _ rfl) (l _ rfl) (l _ rfl) (l _ rfl) (v _ rfl)
  · rw [l _ rfl, l _ rfl, l _ rfl, l _ rfl, v _ rfl, v _ rfl, v _ rfl]; exact hw w hw'
  · exact hr0.of (l _ rfl) (l _ rfl) (l _ rfl) (fun i => l _ rfl) (fun i => v _ rfl)
  · exact hr1.of (l _ rfl) (l _ rfl) (l _ rfl) (fun i => l _ rfl) (fun i => v _ rfl)
theorem R.wst {t u : Nat} {L V : LM} {a : Cl} {v : Int32} (h : R t u L V) (ha : dydc a = false) (S : St (wI L a v)) : R t u (wI L a v) (wI V a v) :=
  h.dyd (h.1.w rfl) S (fun b hb => by rw [rdw, if_neg (fun q => by rw [q, ha] at hb; cases hb)]) (fun b hb => by rw [rdw, if_neg (fun q => by rw [q, ha] at hb; cases hb)])
/-- a cell that a setup text doesn't bind by more than a range -/
theorem St.w {L : LM} {a : Cl} {v : Int32} (h : St L) (h1 : (∃ c f, a = (0, f, c) ∧ (f ≠ 4 ∨ ∃ q, 0 < q ∧ q ≤ 9999 ∧ v = nI q)) ∨ (∃ w f, a = (8, f, w) ∧ f ≠ 0 ∧ f ≠ 4) ∨ (a = (2, 14, 0) ∧ ∃ p, p ≤ 999 ∧ v = nI p)) : St (wI L a v) := by
  obtain ⟨s1, s2, s3, s4, s5, s6, s7, s8, s9, s10, s11, s12, s13, s14, s15, s16, s17, s18⟩ := h
  have r : ∀ b : Cl, (b.1 ≠ 0 ∨ b.2.1 ≠ 4) → (b.1 ≠ 8 ∨ (b.2.1 = 0 ∨ b.2.1 = 4)) → b ≠ (2, 14, 0) → (b.1 = 0 → False) → (wI L a v).1 b = L.1 b := by
    intro b b1 b2 b3 b4
    rw [rdw, if_neg]
    intro q
    rcases h1 with ⟨c, f, e, _⟩ | ⟨w, f, e, f1, f2⟩ | ⟨e, _⟩
    · exact b4 (by rw [q, e])
    · rw [q, e] at b2
      rcases b2 with b2 | b2 | b2
      · exact b2 rfl
      · exact f1 b2
      · exact f2 b2
    · exact b3 (by rw [q, e])
  have no8 : ∀ {b : Cl}, b.1 ≠ 8 → (b.1 ≠ 8 ∨ (b.2.1 = 0 ∨ b.2.1 = 4)) := fun h => Or.inl h
  refine ⟨fun j hj => ?_, fun j k hj hk => ?_, ?_, ?_, ?_, ?_, ?_, ?_, ?_, ?_, fun t ht => ?_, fun w hw => ?_, fun c hc => ?_, fun j hj => ?_, ?_, ?_, ?_, ?_⟩
  · rw [r _ (Or.inl (by simp)) (no8 (by simp)) (by simp) (by simp)]; exact s1 j hj
  · rw [r _ (Or.inl (by simp)) (no8 (by simp)) (by simp) (by simp)]; exact s2 j k hj hk
  · rw [r _ (Or.inl (by simp)) (no8 (by simp)) (by simp) (by simp)]; exact s3
  · rw [r _ (Or.inl (by simp)) (no8 (by simp)) (by simp) (by simp)]; exact s4
  · rw [r _ (Or.inl (by simp)) (no8 (by simp)) (by simp) (by simp)]; exact s5
  · rw [r _ (Or.inl (by simp)) (no8 (by simp)) (by simp) (by simp)]; exact s6
  · rw [r _ (Or.inl (by simp)) (no8 (by simp)) (by simp) (by simp)]; exact s7
  · rw [r _ (Or.inl (by simp)) (no8 (by simp)) (by simp) (by simp)]; exact s8
  · rw [r _ (Or.inl (by simp)) (no8 (by simp)) (by simp) (by simp)]; exact s9
  · rw [r _ (Or.inl (by simp)) (no8 (by simp)) (by simp) (by simp)]; exact s10
  · rw [r _ (Or.inl (by simp)) (no8 (by simp)) (by simp) (by simp), r _ (Or.inl (by simp)) (no8 (by simp)) (by simp) (by simp), r _ (Or.inl (by simp)) (no8 (by simp)) (by simp) (by simp)]; exact s11 t ht
  · rw [r _ (Or.inl (by simp)) (Or.inr (Or.inl rfl)) (by simp) (by simp), r _ (Or.inl (by simp)) (Or.inr (Or.inr rfl)) (by simp) (by simp)]; exact s12 w hw
  · rw [rdw]
    by_cases q : ((0, 4, c) : Cl) = a
    · rw [if_pos q]
      rcases h1 with ⟨c', f, e, k⟩ | ⟨w, f, e, f1, f2⟩ | ⟨e, _⟩
      · rw [e] at q
        simp only [Prod.mk.injEq] at q
        rcases k with k | k
        · exact absurd q.2.1.symm k
        · exact k
      · rw [e] at q; simp at q
      · rw [e] at q; simp at q
    · rw [if_neg q]; exact s13 c hc
  · rw [r _ (Or.inl (by simp)) (no8 (by simp)) (by simp) (by simp)]; exact s14 j hj
  · rw [r _ (Or.inl (by simp)) (no8 (by simp)) (by simp) (by simp)]; exact s15
  · rw [r _ (Or.inl (by simp)) (no8 (by simp)) (by simp) (by simp)]; exact s16
  · rw [rdw]
    by_cases q : ((2, 14, 0) : Cl) = a
    · rw [if_pos q]
      rcases h1 with ⟨c', f, e, k⟩ | ⟨w, f, e, f1, f2⟩ | ⟨e, k⟩
      · rw [e] at q; simp at q
      · rw [e] at q; simp at q
      · exact k
    · rw [if_neg q]; exact s17
  · rw [r _ (Or.inl (by simp)) (no8 (by simp)) (by simp) (by simp)]; exact s18
theorem cS_no {V : LM} {a : Cl} {v : Int32} (h : bk a < 1000) : ∀ i, i < 52 → (wI V a v).1 (cS i) = V.1 (cS i) := fun i hi => by
  rw [rdw, if_neg (fun q => by have := bk_S i hi; rw [q] at this; omega)]
theorem C_setPace {M : Mem} {L : LM} {x : Int32} (hx : 0 ≤ x ∧ x ≤ 999) : f_X11_setPace x (putC 1 M L) = some (.inl (L.1 (2, 14, 0)), putC 1 M (wI L (2, 14, 0) x)) := by
  unfold f_X11_setPace
  rw [rq_p1 hx, bndX_l]
  dsimp only [nm]
  rw [gi_2, uI_putC rfl]
theorem A_setPace {B t : Nat} {M : Mem} {L V : LM} (h : InX B M t L V) (x : Int32) : Ans (cd1 1) (f_X11_setPace x M) (f_X12_setPace x) M B := by
  have hE := h.2.2.2.1.1
  by_cases hx : 0 ≤ x ∧ x ≤ 999
  · obtain ⟨p, hp, rfl⟩ := rng (n := 999) (by first | decide | simp) hx
    have f := C_setPace (M := M) (L := L) hx
    rw [show putC 1 M L = M from h.2.1] at f
    refine Ans.ch h f (V' := wI V (2, 14, 0) (nI p)) (fun N h7 => ?_) (h.2.2.2.1.wst rfl (h.2.2.2.1.2.1.w (Or.inr (Or.inr ⟨rfl, p, hp, rfl⟩)))) (Nat.le_refl B) h.1 (cS_no (by first | decide | simp))
    unfold f_X12_setPace f_X12_setPace_17
    rw [iR1 hx, bnd_some, if_neg (by first | decide | simp), fz0, bnd_some, if_pos rfl, its_10 (h7u h7) (by first | decide | simp), bnd_some, puts_10 (h7u h7) (by first | decide | simp), bnd_some, hE.1 (2, 14, 0) rfl]
  · refine Ans.thr (e := 1) (b := 0) h (Nat.le_refl B) ?_ (by first | decide | simp) (fun N h7 => ?_)
    · unfold f_X11_setPace
      rw [rq_p0 hx, bndX_r]
    · unfold f_X12_setPace f_X12_setPace_17
      rw [iR0 hx, bnd_some, if_pos rfl, fz1, bnd_some, if_neg (by first | decide | simp)]
      rfl
theorem C_setSample {M : Mem} {L : LM} {c : Nat} {x : Int32} (hc : c < 8) (hx : 1 ≤ x ∧ x ≤ 99) : f_X11_setSample (nI c) x (putC 1 M L) = some (.inl (L.1 (0, 0, c)), putC 1 M (wI L (0, 0, c) x)) := by
  unfold f_X11_setSample
  rw [rq_c1 ⟨nI_pos' (by omega), nI_le (b := 7) (by omega) (by first | decide | simp)⟩, bndX_l, al1 (w := 11) hx, bnd_some, if_neg (by first | decide | simp), if_neg (nbad hc (by first | decide | simp))]
  dsimp only [nm]
  rw [if_neg (nbad hc (by first | decide | simp)), nI_clamp (by omega), gi_0, uI_putC rfl]
theorem A_setSample {B t : Nat} {M : Mem} {L V : LM} (h : InX B M t L V) (y x : Int32) : Ans (cd2 2 1) (f_X11_setSample y x M) (f_X12_setSample y x) M B := by
  have hE := h.2.2.2.1.1
  by_cases hy : 0 ≤ y ∧ y ≤ 7
  · by_cases hx : 1 ≤ x ∧ x ≤ 99
    · obtain ⟨c, hc, rfl⟩ := rng (n := 7) (by first | decide | simp) hy
      have hc8 : c < 8 := by omega
      have f := C_setSample (M := M) (L := L) hc8 hx
      rw [show putC 1 M L = M from h.2.1] at f
      refine Ans.ch h f (V' := wI V (0, 0, c) x) (fun N h7 => ?_) (h.2.2.2.1.wst rfl (h.2.2.2.1.2.1.w (Or.inl ⟨c, 0, rfl, Or.inl (by first | decide | simp)⟩))) (Nat.le_refl B) h.1 (cS_no (by show 44 + 7 * c < 1000; omega))
      unfold f_X12_setSample f_X12_setSample_14 f_X12_setSample_29
      rw [isC1 hy, bnd_some, if_neg (by first | decide | simp), iR1 hx, bnd_some, if_neg (by first | decide | simp), fz0, bnd_some, if_pos rfl, chan_0, bnd_some, itschan_0 (h7u h7) (by first | decide | simp) hc8, bnd_some, chan_0, bnd_some, putschan_0 (h7u h7) (by first | decide | simp) hc8, bnd_some, hE.1 (0, 0, c) rfl]
    · refine Ans.thr (e := 1) (b := 0) h (Nat.le_refl B) ?_ (by first | decide | simp) (fun N h7 => ?_)
      · unfold f_X11_setSample
        rw [rq_c1 hy, bndX_l, al0 (w := 11) hx, bnd_some, if_pos rfl]
      · unfold f_X12_setSample f_X12_setSample_14 f_X12_setSample_29
        rw [isC1 hy, bnd_some, if_neg (by first | decide | simp), iR0 hx, bnd_some, if_pos rfl, fz2, bnd_some, if_neg (by first | decide | simp)]
        rfl
  · refine Ans.thr (e := 2) (b := 0) h (Nat.le_refl B) ?_ (by first | decide | simp) (fun N h7 => ?_)
    · unfold f_X11_setSample
      rw [rq_c0 hy, bndX_r]
    · unfold f_X12_setSample f_X12_setSample_14 f_X12_setSample_29
      rw [isC0 hy, bnd_some, if_pos rfl, e_inRange, bnd_some]
      by_cases q : 1 ≤ x ∧ x ≤ 99
      · rw [if_pos q, if_neg (by first | decide | simp), fz1, bnd_some, if_neg (by first | decide | simp)]
        rfl
      · rw [if_neg q, if_pos rfl, fz1, bnd_some, if_neg (by first | decide | simp)]
        rfl
theorem C_setWindow {M : Mem} {L : LM} {w : Nat} {x y : Int32} (hw : Wt L (nI w)) (hw3 : w < 3) (hb : bz (L.1 (8, 6, w))) (hx : ¬ x < 0) (hy : ¬ y < x) (hy2 : y ≤ 65535) : f_X11_setWindow (nI w) x y (putC 1 M L) = some (.inl (L.1 (8, 6, w)), putC 1 M (wI (wI L (8, 1, w) x) (8, 2, w) y)) := by
  unfold f_X11_setWindow
  rw [rq_n1 hasC.new hw, bndX_l, if_neg hx, if_neg hy, if_pos hy2, if_neg (nbad hw3 (by first | decide | simp)), nI_clamp (by omega)]
  dsimp only [nm]
  have e : (wI (wI L (8, 1, w) x) (8, 2, w) y).1 (8, 6, w) = L.1 (8, 6, w) := by rw [rdw, if_neg (by simp), rdw, if_neg (by simp)]
  rw [uI_putC rfl, uI_putC rfl, gi_8, e, bzif hb]
theorem A_setWindow {B t : Nat} {M : Mem} {L V : LM} (h : InX B M t L V) (y x z : Int32) : Ans (cd2 2 1) (f_X11_setWindow y x z M) (f_X12_setWindow y x z) M B := by
  have hE := h.2.2.2.1.1
  have hbz : ∀ w, w < 3 → bz (L.1 (8, 0, w)) := fun w hw => (h.2.2.2.1.2.1.2.2.2.2.2.2.2.2.2.2.2.1 w hw).1
  by_cases hy : Wt L y
  · have hyV : Wt V y := (Wt.eqq hE).mpr hy
    by_cases hx : (0 ≤ x ∧ x ≤ 65535) ∧ (x ≤ z ∧ z ≤ 65535)
    · obtain ⟨c, hc, rfl⟩ := rng (n := 2) (by first | decide | simp) hy.1
      have hc8 : c < 3 := by omega
      have hb6 : bz (L.1 (8, 6, c)) := (h.2.2.2.1.2.2.2.2.2.1 c hc8).elim (fun q => Or.inl q.1) (fun q => Or.inr q.1)
      have f := C_setWindow (M := M) (L := L) hy hc8 hb6 (Int32.not_lt.mpr hx.1.1) (Int32.not_lt.mpr hx.2.1) hx.2.2
      rw [show putC 1 M L = M from h.2.1] at f
      refine Ans.ch h f (V' := wI (wI V (8, 1, c) x) (8, 2, c) z) (fun N h7 => ?_) ((h.2.2.2.1.wst (a := (8, 1, c)) rfl (h.2.2.2.1.2.1.w (Or.inr (Or.inl ⟨c, 1, rfl, by decide, by decide⟩)))).wst rfl ((h.2.2.2.1.2.1.w (Or.inr (Or.inl ⟨c, 1, rfl, by decide, by decide⟩))).w (Or.inr (Or.inl ⟨c, 2, rfl, by decide, by decide⟩)))) (Nat.le_refl B) h.1 (fun i hi => by rw [cS_no (by show 109 + 8 * c < 1000; omega) i hi, cS_no (by show 108 + 8 * c < 1000; omega) i hi])
      unfold f_X12_setWindow f_X12_setWindow_14 f_X12_setWindow_34 f_X12_setWindow_39
      rw [isW1 hyV, bnd_some, if_neg (by first | decide | simp), iR1 hx.1, bnd_some, if_neg (by first | decide | simp), iR1 hx.2, bnd_some, if_neg (by first | decide | simp), fz0, bnd_some, if_pos rfl, win_0, bnd_some, putswin_0 (h7u h7) (by first | decide | simp) hc8, bnd_some, win_1, bnd_some, putswin_1 (h7u h7) (by first | decide | simp) hc8, bnd_some, win_3, bnd_some, itswin_3 (h7u h7) (by first | decide | simp) hc8, bnd_some, rdw, if_neg (by simp), rdw, if_neg (by simp), hE.1 (8, 6, c) rfl]
    · refine Ans.thr (e := 1) (b := 0) h (Nat.le_refl B) ?_ (by first | decide | simp) (fun N h7 => ?_)
      · unfold f_X11_setWindow
        rw [rq_n1 h.2.1 hy, bndX_l]
        by_cases a1 : x < 0
        · rw [if_pos a1]
        · rw [if_neg a1]
          by_cases a2 : z < x
          · rw [if_pos a2]
          · rw [if_neg a2, if_neg]
            intro a3
            exact hx ⟨⟨Int32.not_lt.mp a1, Int32.le_trans (Int32.not_lt.mp a2) a3⟩, Int32.not_lt.mp a2, a3⟩
      · unfold f_X12_setWindow f_X12_setWindow_14 f_X12_setWindow_34 f_X12_setWindow_39
        rw [isW1 hyV, bnd_some, if_neg (by first | decide | simp)]
        by_cases a1 : 0 ≤ x ∧ x ≤ 65535
        · rw [iR1 a1, bnd_some, if_neg (by first | decide | simp), iR0 (fun q => hx ⟨a1, q⟩), bnd_some, if_pos rfl, fz2, bnd_some, if_neg (by first | decide | simp)]
          rfl
        · rw [iR0 a1, bnd_some, if_pos rfl, fz2, bnd_some, if_neg (by first | decide | simp)]
          rfl
  · have hyV : ¬ Wt V y := fun q => hy ((Wt.eqq hE).mp q)
    refine Ans.thr (e := 2) (b := 0) h (Nat.le_refl B) ?_ (by first | decide | simp) (fun N h7 => ?_)
    · unfold f_X11_setWindow
      rw [rq_n0 h.2.1 hbz hy, bndX_r]
    · unfold f_X12_setWindow f_X12_setWindow_14 f_X12_setWindow_34 f_X12_setWindow_39
      rw [isW0 hyV, bnd_some, if_pos rfl, e_inRange, bnd_some]
      by_cases a1 : 0 ≤ x ∧ x ≤ 65535
      · rw [if_pos a1, if_neg (by first | decide | simp), e_inRange, bnd_some]
        by_cases a2 : x ≤ z ∧ z ≤ 65535
        · rw [if_pos a2, if_neg (by first | decide | simp), fz1, bnd_some, if_neg (by first | decide | simp)]
          rfl
        · rw [if_neg a2, if_pos rfl, fz1, bnd_some, if_neg (by first | decide | simp)]
          rfl
      · rw [if_neg a1, if_pos rfl, fz1, bnd_some, if_neg (by first | decide | simp)]
        rfl
theorem C_setSignal {M : Mem} {L : LM} {c q : Nat} {b s p : Int32} (hc : c < 8) (h1 : 0 ≤ b ∧ b ≤ 4095) (h2 : -99 ≤ s ∧ s ≤ 99) (h3 : 1 ≤ p ∧ p ≤ 9999) (hq : p = nI q) (q1 : 0 < q) (q2 : q ≤ 9999) : f_X11_setSignal (nI c) b s p (putC 1 M L) = some (.inl (sigV b s p (L.1 (2, 15, 0))), putC 1 M (wI (wI (wI L (0, 2, c) b) (0, 3, c) s) (0, 4, c) p)) := by
  unfold f_X11_setSignal
  rw [rq_c1 ⟨nI_pos' (by omega), nI_le (b := 7) (by omega) (by first | decide | simp)⟩, bndX_l, al1 (w := 13) h1, bnd_some, if_neg (by first | decide | simp), al1 (w := 14) h2, bnd_some, if_neg (by first | decide | simp), al1 (w := 15) h3, bnd_some, if_neg (by first | decide | simp), if_neg (nbad hc (by first | decide | simp)), nI_clamp (by omega)]
  dsimp only [nm]
  rw [uI_putC rfl, uI_putC rfl, uI_putC rfl, h_X1_signalAt, N_sig (by rw [rdw, if_pos rfl, hq]; exact nI_nle q1 (by omega)), mg_some, bnd_some, gi_2]
  simp only [rdw, rdl, rdw2, rdl1, Prod.mk.injEq, Nat.reduceEqDiff, and_self, and_true, true_and, and_false, false_and, ite_true, ite_false, ↓reduceIte]
theorem A_setSignal {B t : Nat} {M : Mem} {L V : LM} (h : InX B M t L V) (y b s p : Int32) : Ans (cd2 2 1) (f_X11_setSignal y b s p M) (f_X12_setSignal y b s p) M B := by
  have hE := h.2.2.2.1.1
  by_cases hy : 0 ≤ y ∧ y ≤ 7
  · by_cases hx : (0 ≤ b ∧ b ≤ 4095) ∧ (-99 ≤ s ∧ s ≤ 99) ∧ (1 ≤ p ∧ p ≤ 9999)
    · obtain ⟨c, hc, rfl⟩ := rng (n := 7) (by first | decide | simp) hy
      have hc8 : c < 8 := by omega
      obtain ⟨q, q2, hq⟩ := rng (x := p) (n := 9999) (by first | decide | simp) ⟨Int32.le_trans (by first | decide | simp) hx.2.2.1, hx.2.2.2⟩
      have q1 : 0 < q := by
        rcases Nat.eq_zero_or_pos q with z | z
        · rw [hq, z] at hx; exact absurd hx.2.2.1 (by first | decide | simp)
        · exact z
      have f := C_setSignal (M := M) (L := L) hc8 hx.1 hx.2.1 hx.2.2 hq q1 q2
      rw [show putC 1 M L = M from h.2.1] at f
      have s1 := h.2.2.2.1.2.1.w (a := (0, 2, c)) (v := b) (Or.inl ⟨c, 2, rfl, Or.inl (by first | decide | simp)⟩)
      have s2 := s1.w (a := (0, 3, c)) (v := s) (Or.inl ⟨c, 3, rfl, Or.inl (by first | decide | simp)⟩)
      have s3 := s2.w (a := (0, 4, c)) (v := p) (Or.inl ⟨c, 4, rfl, Or.inr ⟨q, q1, q2, hq⟩⟩)
      refine Ans.ch h f (V' := wI (wI (wI V (0, 2, c) b) (0, 3, c) s) (0, 4, c) p) (fun N h7 => ?_) (((h.2.2.2.1.wst rfl s1).wst rfl s2).wst rfl s3) (Nat.le_refl B) h.1 (fun i hi => by rw [cS_no (by show 47 + 7 * c < 1000; omega) i hi, cS_no (by show 46 + 7 * c < 1000; omega) i hi, cS_no (by show 45 + 7 * c < 1000; omega) i hi])
      unfold f_X12_setSignal f_X12_setSignal_14 f_X12_setSignal_48 f_X12_setSignal_53
      rw [isC1 hy, bnd_some, if_neg (by first | decide | simp), iR1 hx.1, bnd_some, if_neg (by first | decide | simp), iR1 hx.2.1, bnd_some, if_neg (by first | decide | simp), iR1 hx.2.2, bnd_some, if_neg (by first | decide | simp), fz0, bnd_some, if_pos rfl, chan_1, bnd_some, putschan_1 (h7u h7) (by first | decide | simp) hc8, bnd_some, chan_2, bnd_some, putschan_2 (h7u h7) (by first | decide | simp) hc8, bnd_some, chan_3, bnd_some, putschan_3 (h7u h7) (by first | decide | simp) hc8, bnd_some, its_0 (h7u h7) (by first | decide | simp), bnd_some, M_signal (h7u h7) (by first | decide | simp) hc8 (by rw [rdw, if_pos rfl, hq]; exact nI_ne0 q1 (by omega)), bnd_some]
      simp only [rdw, rdl, rdw2, rdl1, Prod.mk.injEq, Nat.reduceEqDiff, and_self, and_true, true_and, and_false, false_and, ite_true, ite_false, ↓reduceIte]
      rw [hE.1 (2, 15, 0) rfl]
    · refine Ans.thr (e := 1) (b := 0) h (Nat.le_refl B) ?_ (by first | decide | simp) (fun N h7 => ?_)
      · unfold f_X11_setSignal
        rw [rq_c1 hy, bndX_l]
        by_cases a1 : 0 ≤ b ∧ b ≤ 4095
        · rw [al1 (w := 13) a1, bnd_some, if_neg (by first | decide | simp)]
          by_cases a2 : -99 ≤ s ∧ s ≤ 99
          · rw [al1 (w := 14) a2, bnd_some, if_neg (by first | decide | simp), al0 (w := 15) (fun q => hx ⟨a1, a2, q⟩), bnd_some, if_pos rfl]
          · rw [al0 (w := 14) a2, bnd_some, if_pos rfl]
        · rw [al0 (w := 13) a1, bnd_some, if_pos rfl]
      · unfold f_X12_setSignal f_X12_setSignal_14 f_X12_setSignal_48 f_X12_setSignal_53
        rw [isC1 hy, bnd_some, if_neg (by first | decide | simp)]
        by_cases a1 : 0 ≤ b ∧ b ≤ 4095
        · rw [iR1 a1, bnd_some, if_neg (by first | decide | simp)]
          by_cases a2 : -99 ≤ s ∧ s ≤ 99
          · rw [iR1 a2, bnd_some, if_neg (by first | decide | simp), iR0 (fun q => hx ⟨a1, a2, q⟩), bnd_some, if_pos rfl, fz2, bnd_some, if_neg (by first | decide | simp)]
            rfl
          · rw [iR0 a2, bnd_some, if_pos rfl, fz2, bnd_some, if_neg (by first | decide | simp)]
            rfl
        · rw [iR0 a1, bnd_some, if_pos rfl, fz2, bnd_some, if_neg (by first | decide | simp)]
          rfl
  · refine Ans.thr (e := 2) (b := 0) h (Nat.le_refl B) ?_ (by first | decide | simp) (fun N h7 => ?_)
    · unfold f_X11_setSignal
      rw [rq_c0 hy, bndX_r]
    · unfold f_X12_setSignal f_X12_setSignal_14 f_X12_setSignal_48 f_X12_setSignal_53
      rw [isC0 hy, bnd_some, if_pos rfl, e_inRange, bnd_some]
      by_cases a1 : 0 ≤ b ∧ b ≤ 4095
      · rw [if_pos a1, if_neg (by first | decide | simp), e_inRange, bnd_some]
        by_cases a2 : -99 ≤ s ∧ s ≤ 99
        · rw [if_pos a2, if_neg (by first | decide | simp), e_inRange, bnd_some]
          by_cases a3 : 1 ≤ p ∧ p ≤ 9999
          · rw [if_pos a3, if_neg (by first | decide | simp), fz1, bnd_some, if_neg (by first | decide | simp)]
            rfl
          · rw [if_neg a3, if_pos rfl, fz1, bnd_some, if_neg (by first | decide | simp)]
            rfl
        · rw [if_neg a2, if_pos rfl, fz1, bnd_some, if_neg (by first | decide | simp)]
          rfl
      · rw [if_neg a1, if_pos rfl, fz1, bnd_some, if_neg (by first | decide | simp)]
        rfl
