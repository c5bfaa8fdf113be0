/-! ===== window: its channels ===== -/
def c8 (s : Nat → Bool) : Nat := (s 0).toNat + (s 1).toNat + (s 2).toNat + (s 3).toNat + (s 4).toNat + (s 5).toNat + (s 6).toNat + (s 7).toNat
theorem c8_le {s : Nat → Bool} : c8 s ≤ 8 := by
  unfold c8
  have := Bool.toNat_le (s 0)
  have := Bool.toNat_le (s 1)
  have := Bool.toNat_le (s 2)
  have := Bool.toNat_le (s 3)
  have := Bool.toNat_le (s 4)
  have := Bool.toNat_le (s 5)
  have := Bool.toNat_le (s 6)
  have := Bool.toNat_le (s 7)
  omega
theorem c8_up {s : Nat → Bool} {v : Nat} (h1 : v < 8) (h : s v = false) : c8 (ups s v) = c8 s + 1 := by
  rcases (show v = 0 ∨ v = 1 ∨ v = 2 ∨ v = 3 ∨ v = 4 ∨ v = 5 ∨ v = 6 ∨ v = 7 by omega) with rfl | rfl | rfl | rfl | rfl | rfl | rfl | rfl <;> (simp [c8, ups, h]; try omega)
theorem pm65_f {r4 : Int32 → Int32 → Int32 → Mem → Option (Unit × Mem)} {x1 x2 : Int32} {N : Mem} (h : ¬ N.1 (10, 0, 0) 16 = 0) : f_X12_parseMask_65 r4 x1 x2 N = some ((), N) := by
  unfold f_X12_parseMask_65
  rw [ok0 h, bnd_some, if_pos rfl]
def PW (len a p k w : Nat) (M N : Mem) (L V : LM) : Prop := TS len p k w M N ∧ hasC 2 M L ∧ hasM 4 52 N V ∧ Q L (wI V (8, 4, a) (L.1 (8, 4, a))) ∧ MS M N L
theorem wm_loop {len a : Nat} (ha : a < 3) : ∀ (f g p k w : Nat) (s : Nat → Bool) (x4 : Int32) (M N : Mem) (L V : LM), 8 - c8 s < f → 8 - c8 s + 1 < g → PW len a p k w M N L V → L.1 (8, 0, a) = 1 → Mk 8 (L.1 (8, 4, a)) (fun v => s v = true) → (1 ≤ c8 s → (x4 = 0 ↔ ¬ (k = 2 ∨ k = 4))) → (c8 s = 0 → ¬ x4 = 0) → ∃ M' N', f_X12_parseMask_4 g (nI a) (L.1 (8, 4, a)) x4 N = some ((), N') ∧ FC M M' ∧ FM N N' ∧ BodyO len p (f_X4_readWindowChannels_2 f 2 a (nI (c8 s)) M) M' N' := by
  have z01 : ∀ {M : Mem}, (if ¬ ((0 : Int32) = 0 ∨ (0 : Int32) = 1) then none else some ((0 : Int32), M)) = some (0, M) := fun {M} => if_neg (fun q => q (Or.inl rfl))
  intro f
  induction f with
  | zero => intro g p k w s x4 M N L V hf; omega
  | succ f ih =>
    intro g p k w s x4 M N L V hf hg h h80 hmk h1 h0
    obtain ⟨g, rfl⟩ : ∃ a, g = a + 1 := ⟨g - 1, by omega⟩
    obtain ⟨hT, hC, hM, hQ, hK⟩ := h
    obtain ⟨k1, k2, k3⟩ := hT.k
    have hcn := c8_le (s := s)
    have em : f_X12_parseMask_4 (g + 1) (nI a) (L.1 (8, 4, a)) x4 N = _ := Eq.trans (by unfold f_X12_parseMask_4; exact rfl) rfl
    have m84 : M.1 (8, 2, a) 4 = L.1 (8, 4, a) := hC.I rfl
    have ec : f_X4_readWindowChannels_2 (f + 1) 2 a (nI (c8 s)) M = if c8 s = 0 ∨ k = 2 then f_X4_readWindowChannels_25 (f_X4_readWindowChannels_2 f) 2 a (nI (c8 s)) M else some (1, M) := by
      rw [show f_X4_readWindowChannels_2 (f + 1) 2 a (nI (c8 s)) M = _ from Eq.trans (by unfold f_X4_readWindowChannels_2; exact rfl) rfl, if_neg (show ¬ (8 : Int32) < nI (c8 s) from Int32.not_lt.mpr (nI_le (b := 8) hcn (by first | decide | simp))), k1]
      by_cases y : c8 s = 0
      · rw [if_pos (show nI (c8 s) ≤ (0 : Int32) from nI_le (b := 0) (by omega) (by first | decide | simp)), if_pos (Or.inl y)]
      · rw [if_neg (show ¬ nI (c8 s) ≤ (0 : Int32) from nI_ge (a := 0) (b := c8 s) (by omega) (by omega))]
        by_cases z : k = 2
        · subst z
          rw [if_pos (show nI 2 = (2 : Int32) from rfl), if_pos (Or.inr rfl)]
        · rw [if_neg (fun t : nI k = 2 => z (nIi (b := 2) t (by omega) (by first | decide | simp))), if_neg (fun t => t.elim y z)]
    rw [ec, em, ok1 hT.2.2, bnd_some, if_neg (by first | decide | simp), k2]
    have fl : ∀ (c : Int32), ¬ c = 0 → f_X4_takeNumber 0 (L.1 (8, 4, a)) M = bnd (f_X4_fail c M) (fun r11 M12 => if ¬ (r11 = 0 ∨ r11 = 1) then none else some (r11, M12)) → ∃ M' N', bnd (f_X12_fail c N) (fun _ M11 => f_X12_parseMask_65 (f_X12_parseMask_4 g) (nI a) (L.1 (8, 4, a)) M11) = some ((), N') ∧ FC M M' ∧ FM N N' ∧ f_X4_readWindowChannels_25 (f_X4_readWindowChannels_2 f) 2 a (nI (c8 s)) M = some (0, M') ∧ Fb M' N' := by
      intro c hc eC
      obtain ⟨M1, N1, a1, a2, a3, a4, a5⟩ := fail2 (x := c) hT hc
      refine ⟨M1, N1, by rw [a2, bnd_some, pm65_f a5.2.2], a3.2, a4.2, ?_, a5⟩
      unfold f_X4_readWindowChannels_25
      rw [m84, eC, a1, bnd_some, z01, bnd_some, if_pos rfl]
    have x41 : (c8 s = 0 ∨ k = 2 ∨ k = 4) → ¬ x4 = 0 := fun y => by
      by_cases z : c8 s = 0
      · exact h0 z
      · exact fun t => ((h1 (by omega)).mp t) (y.resolve_left z)
    by_cases kk : k = 2
    · subst kk
      obtain ⟨v, hv, v1, v2⟩ := hT.num
      rw [if_neg (x41 (Or.inr (Or.inl rfl))), if_pos (show nI 2 = (2 : Int32) from rfl), if_pos (Or.inr rfl), v2]
      by_cases v8 : v < 8
      · rw [if_pos (show nI v < (8 : Int32) from Int32.not_le.mp (nI_ge (a := v) (b := 8) v8 (by first | decide | simp)))]
        have hb1 := hmk.bit1 (i := v) (by first | decide | simp) v8
        have hb0 := hmk.bit (i := v) (by first | decide | simp) v8
        cases hs : s v with
        | true =>
          obtain ⟨M', N', a1, a2, a3, a4, a5⟩ := fl 3 (by first | decide | simp) (tk_bit hT v1 hv (zlo rfl) (hi := 7) rfl (by first | decide | simp) ⟨Nat.zero_le v, by omega⟩ (fun z => (hb0.mp z) hs))
          exact ⟨M', N', by rw [if_pos (hb1.mpr hs)]; exact a1, a2, a3, Or.inr (Or.inl ⟨a4, a5⟩)⟩
        | false =>
          rw [if_neg (fun z => by have := hb1.mp z; rw [hs] at this; cases this)]
          have hcu := c8_up v8 hs
          have hcu2 := c8_le (s := ups s v)
          obtain ⟨M3, N3, p3, k3', w3, a1, a2, a3, a4, a5, a6, a7⟩ := nx_ts (hT.c3 (j := 3) (x := nI v))
          have kk3 := a5.k
          have x2e : M3.1 (3, 0, 0) 3 = nI v := by rw [a3.1 _ _ (Or.inl (by simp))]; exact uI_at
          have s2 := SC.u3 (M := M) (k := 3) (x := nI v) (Or.inl rfl)
          have hC3 : hasC 2 M3 L := (hC.s s2).s a3.s
          have c1 : LC M3 (uI M3 (8, 2, a) 4 (L.1 (8, 4, a) ||| ((1 : Int32) <<< (nI v &&& 31)))) := LC.u rfl (by simp)
          have q1 := hQ.w (a := (8, 4, a)) (v := L.1 (8, 4, a) ||| ((1 : Int32) <<< (nI v &&& 31))) rfl (hQ.2.1.q (by simp) (by simp) (by simp) (by simp) (by simp) (by simp) (by simp) (by simp) (by simp) (by simp) (by simp) (by simp) (fun _ _ => h80) (by simp) (by simp))
          have eL : (wI L (8, 4, a) (L.1 (8, 4, a) ||| ((1 : Int32) <<< (nI v &&& 31)))).1 (8, 4, a) = L.1 (8, 4, a) ||| ((1 : Int32) <<< (nI v &&& 31)) := by rw [rdw, if_pos rfl]
          rw [wI_wI] at q1
          obtain ⟨M4, N4, b1, b2, b3, b4⟩ := ih g p3 k3' w3 (ups s v) (if k3' = 2 ∨ k3' = 4 then 1 else 0) (uI M3 (8, 2, a) 4 (L.1 (8, 4, a) ||| ((1 : Int32) <<< (nI v &&& 31)))) N3 (wI L (8, 4, a) (L.1 (8, 4, a) ||| ((1 : Int32) <<< (nI v &&& 31)))) V (by omega) (by omega) ⟨a5.l c1 (LN.refl N3), hC3.u rfl, hM.s a4.s, by rw [eL]; exact q1, ((hK.s s2 (SM.refl N)).s a3.s a4.s).l c1 (LN.refl N3) (fun j => by rw [rdw, if_neg (by simp)])⟩ (by rw [rdw, if_neg (by simp)]; exact h80) (by
            rw [eL]
            refine (hmk.or (by first | decide | simp) v8).iff (fun i _ => ?_)
            unfold ups
            by_cases z : i = v
            · rw [if_pos z]; exact ⟨fun _ => rfl, fun _ => Or.inr z⟩
            · rw [if_neg z]; exact ⟨fun t => t.resolve_right z, Or.inl⟩) (fun _ => by
            by_cases y : k3' = 2 ∨ k3' = 4
            · rw [if_pos y]; exact ⟨fun z => absurd z (by first | decide | simp), fun z => absurd y z⟩
            · rw [if_neg y]; exact ⟨fun _ => y, fun _ => rfl⟩) (fun z => by omega)
          rw [eL] at b1
          refine ⟨M4, N4, ?_, ((s2.2.trans a3.c).trans c1.2.2).trans b2, a4.m.trans b3, ?_⟩
          · unfold f_X12_parseMask_65 f_X12_parseMask_102 f_X12_parseMask_107
            rw [ok1 hT.2.2, bnd_some, if_neg (by first | decide | simp), v2]
            dsimp only [nm]
            rw [a2, bnd_some, kk3.2.1]
            by_cases y : k3' = 2
            · subst y
              rw [if_pos (show nI 2 = (2 : Int32) from rfl)]
              exact b1
            · rw [if_neg (fun z : nI k3' = 2 => y (nIi (b := 2) z (by omega) (by first | decide | simp)))]
              by_cases y4 : k3' = 4
              · subst y4
                rw [if_pos (show nI 4 = (4 : Int32) from rfl)]
                exact b1
              · rw [if_neg (fun z : nI k3' = 4 => y4 (nIi (b := 4) z (by omega) (by first | decide | simp)))]
                rw [if_neg (fun z => z.elim y y4)] at b1
                exact b1
          · unfold f_X4_readWindowChannels_25
            rw [m84, tk_ok hT v1 (by omega) (zlo (wd := 0) rfl) (hi := 7) rfl (by first | decide | simp) ⟨Nat.zero_le v, by omega⟩ (hb0.mpr (by rw [hs]; decide)), a1, bnd_some, bnd_some, if_neg (by first | decide | simp)]
            dsimp only [nm]
            rw [x2e, nI_1, show M3.1 (8, 2, a) 4 = L.1 (8, 4, a) from hC3.I rfl, ← hcu]
            exact b4.le (by omega)
      · rw [if_neg (show ¬ nI v < (8 : Int32) from Int32.not_lt.mpr (nI_le (a := 8) (by omega) (by omega)))]
        obtain ⟨M', N', a1, a2, a3, a4, a5⟩ := fl 2 (by first | decide | simp) (tk_no hT v1 hv (zlo rfl) (hi := 7) rfl (by first | decide | simp) (by omega))
        exact ⟨M', N', a1, a2, a3, Or.inr (Or.inl ⟨a4, a5⟩)⟩
    · rw [if_neg (fun t : nI k = 2 => kk (nIi (b := 2) t (by omega) (by first | decide | simp)))]
      by_cases i0 : c8 s = 0
      · obtain ⟨M', N', a1, a2, a3, a4, a5⟩ := fl 1 (by first | decide | simp) (tk_k hT kk)
        exact ⟨M', N', by rw [if_neg (x41 (Or.inl i0))]; exact a1, a2, a3, Or.inr (Or.inl ⟨by rw [if_pos (Or.inl i0)]; exact a4, a5⟩)⟩
      · rw [if_neg (fun t : c8 s = 0 ∨ k = 2 => t.elim i0 kk)]
        by_cases k4 : k = 4
        · subst k4
          obtain ⟨N1, a1, a2, a3, a4⟩ := mfail (x := 1) hT
          have h16 : ¬ N1.1 (10, 0, 0) 16 = 0 := by rw [a3]; decide
          exact ⟨M, N1, by rw [if_neg (x41 (Or.inr (Or.inr rfl))), a1, bnd_some, pm65_f h16], FC.refl M, a2.2, Or.inr (Or.inr ⟨rfl, k1, a3, a4⟩)⟩
        · have x0 : x4 = 0 := (h1 (by omega)).mpr (fun z => z.elim kk k4)
          rw [if_pos x0]
          have n1 : LN N (uI N (31, 0, 0) (52 + (45 + a)) (L.1 (8, 4, a))) := LN.S (by omega)
          refine ⟨M, uI N (31, 0, 0) (52 + (45 + a)) (L.1 (8, 4, a)), ?_, FC.refl M, n1.2.2, Or.inl ⟨rfl, p, k, w, L, wI V (8, 4, a) (L.1 (8, 4, a)), ⟨hT.l (LC.refl M) n1, hC, ?_, hQ, hK.l (LC.refl M) n1 (fun _ => rfl)⟩, Nat.le_refl p⟩⟩
          · unfold f_X12_parseMask_111
            rw [drf, bnd_some, show (45 : Int32) = nI 45 from rfl, ix2, if_neg (nbad (by omega) (by first | decide | simp)), nI_clamp (by omega)]
            rfl
          · have e := hM.uS (i := 45 + a) (x := L.1 (8, 4, a)) (by omega)
            rw [cS_45 a ha] at e
            exact e
