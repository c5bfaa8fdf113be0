/-! ===== acknowledge, take, stop, fire, run ===== -/
def n_calm (w : Nat) (L : LM) : LM := wI (wI (wI (wI (wI L (8, 6, w) 0) (8, 5, w) 0) (8, 7, w) (-1)) (8, 8, w) (-1)) (8, 9, w) (-1)
def m_calm (w : Nat) (V : LM) : LM := wI (wI V (8, 6, w) 0) (8, 5, w) 0
theorem w8 {V : LM} {f j : Nat} {x : Int32} {a : Cl} (h : a.1 ≠ 8) : (wI V (8, f, j) x).1 a = V.1 a := by
  rw [rdw, if_neg (fun q => h (congrArg Prod.fst q))]
theorem R.calm {t u w : Nat} {L V : LM} (h : R t u L V) : R t u (n_calm w L) (m_calm w V) := by
  obtain ⟨hE, hS, ⟨c1, c2, c3, c4⟩, hs0, hs1, hw, hlt, hr0, hr1⟩ := h
  have l : ∀ a : Cl, a.1 ≠ 8 → (n_calm w L).1 a = L.1 a := fun a ha => by unfold n_calm; rw [w8 ha, w8 ha, w8 ha, w8 ha, w8 ha]
  have v : ∀ a : Cl, a.1 ≠ 8 → (m_calm w V).1 a = V.1 a := fun a ha => by unfold m_calm; rw [w8 ha, w8 ha]
  refine ⟨((((hE.w rfl).w rfl).l rfl).l rfl).l rfl, hS.of (((((((Stc.refl L).w rfl).w rfl).w rfl).w rfl).w rfl)), ⟨?_, ?_, ?_, ?_⟩, ?_, ?_, fun i hi => ?_, ?_, ?_, ?_⟩
  · rw [l _ (by first | decide | simp)]; exact c1
  · unfold Ow
    rw [l _ (by first | decide | simp)]
    rcases c2 with c2 | ⟨s, h1, h2, h3⟩
    · exact Or.inl c2
    · exact Or.inr ⟨s, h1, h2, by rw [l _ (by simp)]; exact h3⟩
  · rw [l _ (by first | decide | simp), l _ (by first | decide | simp), l _ (by first | decide | simp), v _ (by first | decide | simp)]; exact c3
  · rw [l _ (by first | decide | simp), l _ (by first | decide | simp), v _ (by first | decide | simp)]; exact c4
  · exact hs0.of (l _ (by first | decide | simp)) (l _ (by first | decide | simp)) (l _ (by first | decide | simp)) (l _ (by first | decide | simp)) (l _ (by first | decide | simp)) (l _ (by first | decide | simp)) (v _ (by first | decide | simp))
  · exact hs1.of (l _ (by first | decide | simp)) (l _ (by first | decide | simp)) (l _ (by first | decide | simp)) (l _ (by first | decide | simp)) (l _ (by first | decide | simp)) (l _ (by first | decide | simp)) (v _ (by first | decide | simp))
  · by_cases q : i = w
    · subst q
      refine Or.inl ⟨?_, ?_, ?_, ?_⟩ <;> (unfold n_calm; simp only [rdw, rdl, rdw2, rdl1, Prod.mk.injEq, Nat.reduceEqDiff, and_self, and_true, true_and, and_false, false_and, ite_true, ite_false, ↓reduceIte])
    · have l8 : ∀ f, (n_calm w L).1 (8, f, i) = L.1 (8, f, i) := fun f => by
        unfold n_calm
        simp only [rdw]
        rw [if_neg (by simp [q]), if_neg (by simp [q]), if_neg (by simp [q]), if_neg (by simp [q]), if_neg (by simp [q])]
      have v8 : ∀ f, (m_calm w V).1 (8, f, i) = V.1 (8, f, i) := fun f => by
        unfold m_calm
        simp only [rdw]
        rw [if_neg (by simp [q]), if_neg (by simp [q])]
      rw [l8, l8, l8, l8, v8, v8, v8]
      exact hw i hi
  · exact hlt.of (l _ (by first | decide | simp)) (l _ (by first | decide | simp)) (l _ (by first | decide | simp)) (fun i => v _ (by simp))
  · exact hr0.of (l _ (by first | decide | simp)) (l _ (by first | decide | simp)) (l _ (by first | decide | simp)) (fun i => l _ (by simp)) (fun i => v _ (by simp))
  · exact hr1.of (l _ (by first | decide | simp)) (l _ (by first | decide | simp)) (l _ (by first | decide | simp)) (fun i => l _ (by simp)) (fun i => v _ (by simp))
theorem C_ack {M : Mem} {L : LM} {w : Nat} (hw : Wt L (nI w)) (hw3 : w < 3) (hb : bz (L.1 (8, 6, w))) : f_X11_acknowledge (nI w) (putC 1 M L) = some (.inl (L.1 (8, 6, w)), putC 1 M (n_calm w L)) := by
  unfold f_X11_acknowledge
  rw [rq_n1 hasC.new hw, bndX_l, if_neg (nbad hw3 (by first | decide | simp)), nI_clamp (by omega)]
  unfold f_X9_calmDown
  dsimp only [nm]
  rw [uI_putC rfl, uI_putC rfl, uI_putC rfl, uI_putC rfl, uI_putC rfl, gi_8, if_neg (nbz hb), bnd_some, bzif hb]
  rfl
theorem A_acknowledge {B t : Nat} {M : Mem} {L V : LM} (h : InX B M t L V) (y : Int32) : Ans (cd1 2) (f_X11_acknowledge y M) (f_X12_acknowledge y) M B := by
  have hE := h.2.2.2.1.1
  have hbz : ∀ w, w < 3 → bz (L.1 (8, 0, w)) := fun w hw => (h.2.2.2.1.2.1.2.2.2.2.2.2.2.2.2.2.2.1 w hw).1
  by_cases hy : Wt L y
  · have hyV : Wt V y := (Wt.eqq hE).mpr hy
    obtain ⟨c, hc, rfl⟩ := rng (n := 2) (by first | decide | simp) hy.1
    have hc8 : c < 3 := by omega
    have hb6 : bz (L.1 (8, 6, c)) := (h.2.2.2.1.2.2.2.2.2.1 c hc8).elim (fun q => Or.inl q.1) (fun q => Or.inr q.1)
    have f := C_ack (M := M) (L := L) hy hc8 hb6
    rw [show putC 1 M L = M from h.2.1] at f
    refine Ans.ch h f (V' := m_calm c V) (fun N h7 => ?_) h.2.2.2.1.calm (Nat.le_refl B) h.1 (fun i hi => by unfold m_calm; rw [cS_no (by show 110 + 8 * c < 1000; omega) i hi, cS_no (by show 111 + 8 * c < 1000; omega) i hi])
    unfold f_X12_acknowledge f_X12_acknowledge_14
    rw [isW1 hyV, bnd_some, if_neg (by first | decide | simp), fz0, bnd_some, if_pos rfl, win_3, bnd_some, itswin_3 (h7u h7) (by first | decide | simp) hc8, bnd_some, win_3, bnd_some, putswin_3 (h7u h7) (by first | decide | simp) hc8, bnd_some, win_2, bnd_some, putswin_2 (h7u h7) (by first | decide | simp) hc8, bnd_some, hE.1 (8, 6, c) rfl]
    rfl
  · refine Ans.thr (e := 2) (b := 0) h (Nat.le_refl B) ?_ (by first | decide | simp) (fun N h7 => ?_)
    · unfold f_X11_acknowledge
      rw [rq_n0 h.2.1 hbz hy, bndX_r]
    · unfold f_X12_acknowledge f_X12_acknowledge_14
      rw [isW0 (fun q => hy ((Wt.eqq hE).mp q)), bnd_some, if_pos rfl, fz1, bnd_some, if_neg (by first | decide | simp)]
      rfl
theorem A_take {B t : Nat} {M : Mem} {L V : LM} (h : InX B M t L V) : Ans (cd1 3) (f_X11_take M) f_X12_take M B := by
  have hE := h.2.2.2.1.1
  have hm : MkC L := h.2.2.2.1.2.1.2.2.2.2.2.2.2.2.2.2.2.2.2.1
  obtain ⟨z, o, c, z1, z2, z3, z4, z5, z6, z7, z8⟩ := h.2.2.2.1.2.2.2.2.2.2.2.1
  have r16 : rk 0 = 16 := rfl
  have cz : M.1 (4, 1, 0) 5 = nI z := by rw [h.2.1.I rfl, z1]
  have vz : V.1 (4, 5, 0) = nI z := by rw [hE.1 _ rfl, z1]
  by_cases hz : z = 0
  · refine Ans.thr (e := 3) (b := 0) h (Nat.le_refl B) ?_ (by first | decide | simp) (fun N h7 => ?_)
    · unfold f_X11_take
      rw [cz, if_pos (by rw [hz]; decide)]
    · unfold f_X12_take f_X12_take_15
      rw [its_11 (by exact h7) (by first | decide | simp), bnd_some, vz, if_pos (by rw [hz]; decide), fz1, bnd_some, if_neg (by first | decide | simp)]
      rfl
  · have f : f_X11_take M = some (.inl (L.1 (21, 4 * (o % rk 0) + 3, 0)), putC 1 M (n_drop 0 L)) := by
      unfold f_X11_take
      rw [cz, if_neg (nI_ne0 (by omega) (by omega))]
      have q := h_X5_oldestNumber (c := 1) (M := M) (j0 := 0) (x1 := 3) (L := L)
      unfold g_X5_oldestNumber at q
      rw [z2, show (3 : Int32) = nI 3 from rfl, N_num (hm 0 (by first | decide | simp)) (by omega) (by first | decide | simp), bng_some, mg_some, show putC 1 M L = M from h.2.1] at q
      have q2 := h_X5_removeOldest (c := 1) (M := M) (j0 := 0) (L := L)
      rw [N_drop, mg_some, show putC 1 M L = M from h.2.1] at q2
      rw [show (3 : Int32) = nI 3 from rfl, q, bnd_some, q2, bnd_some]
    have hR : R t t (n_drop 0 L) (m_drop z V) := by
      refine R0.mk (h.2.2.2.1.r0.ring (j := 0) (by first | decide | simp) hE.drop0 ((Stc.refl L).drop 0) (fun b b1 b2 _ => n_drop_or b1) (fun b b1 b2 _ => m_drop_or b1 b2) (Rg.drop (hm 0 (by first | decide | simp)) z1 z2 z3 z4 z5 z6 (by omega) z8 (fun i => by unfold m_drop; rw [rdw, if_neg (by simp)]))) (h.2.2.2.1.lt.of (n_drop_rd (by first | decide | simp) (by first | decide | simp)) (n_drop_rd (by first | decide | simp) (by first | decide | simp)) (n_drop_rd (by first | decide | simp) (by first | decide | simp)) (fun i => m_drop_or (fun q => absurd q (by simp)) (fun q => absurd q (by simp))))
    refine Ans.ch h f (V' := m_drop z V) (fun N h7 => ?_) hR (Nat.le_refl B) h.1 (h.2.2.2.1.stv hR ((Stc.refl L).drop 0))
    unfold f_X12_take f_X12_take_15
    have e : V.1 (21, 3, 0) = L.1 (21, 4 * (o % rk 0) + 3, 0) := z8 0 3 (by omega) (by first | decide | simp)
    rw [its_11 (by exact h7) (by first | decide | simp), bnd_some, vz, if_neg (nI_ne0 (by omega) (by omega)), fz0, bnd_some, if_pos rfl, its_155 (h7u h7) (by first | decide | simp), bnd_some, M_drop (h7u h7) (by first | decide | simp) vz (by omega) (by omega), bnd_some, e]
/-! stop -/
def z_x (L : LM) : LM := if L.1 (1, 0, 0) = 1 then z_b L else L
def z_stop (L : LM) : LM := z_forget 0 (wI (z_idle 0 (z_x L)) (5, 4, 0) 0)
theorem z_ff {X : LM} : z_forget 0 (z_forget 0 X) = z_forget 0 X := by
  unfold z_forget
  refine Prod.ext (funext fun y => ?_) rfl
  simp only [rdw]
  by_cases h1 : y = (5, 11, 0)
  · rw [if_pos h1, if_pos h1]
  · rw [if_neg h1, if_neg h1]
    by_cases h2 : y = (5, 10, 0)
    · rw [if_pos h2, if_pos h2]
    · rw [if_neg h2, if_neg h2]
theorem z_stop_eq {L : LM} : wI (z_idle 0 (z_forget 0 (z_brk 0 L))) (5, 4, 0) 0 = z_stop L := by
  have e : z_forget 0 (z_brk 0 L) = z_forget 0 (z_x L) := by
    unfold z_brk z_x
    by_cases h : L.1 (1, 0, 0) = 1
    · rw [if_pos h, if_pos h, if_pos rfl, z_ff]
    · rw [if_neg h, if_neg h]
  rw [e]
  unfold z_stop
  generalize z_x L = X
  unfold z_forget z_idle
  refine Prod.ext (funext fun y => ?_) rfl
  simp only [rdw]
  by_cases h1 : y = (5, 11, 0)
  · subst h1; simp
  · by_cases h2 : y = (5, 10, 0)
    · subst h2; simp
    · simp only [h1, h2, if_false]
theorem N_stop {L : LM} (hb : bz (L.1 (5, 3, 0))) : g_X3_stopRegular L = some (L.1 (5, 3, 0), z_stop L) := by
  unfold g_X3_stopRegular
  dsimp only [nm]
  rw [N_brk, bng_some, N_forget, bng_some, N_idle, bng_some, if_neg (nbz hb), z_stop_eq]
theorem R.x {t u : Nat} {L V : LM} (h : R t u L V) : R t u (z_x L) (z_x V) ∧ ¬ (z_x L).1 (1, 0, 0) = 1 := by
  unfold z_x
  rw [h.1.1 (1, 0, 0) rfl]
  by_cases q : L.1 (1, 0, 0) = 1
  · rw [if_pos q, if_pos q]
    exact ⟨h.b, by unfold z_b; simp only [rdw, rdl, rdw2, rdl1, Prod.mk.injEq, Nat.reduceEqDiff, and_self, and_true, true_and, and_false, false_and, ite_true, ite_false, ↓reduceIte]; decide⟩
  · rw [if_neg q, if_neg q]
    exact ⟨h, q⟩
theorem R.stop {t u : Nat} {L V : LM} (h : R t u L V) : R t u (z_stop L) (z_stop V) := by
  unfold z_stop
  obtain ⟨hx, hn⟩ := h.x
  generalize z_x L = X at *
  generalize z_x V = Y at *
  refine R.forget ?_
  obtain ⟨hE, hS, ⟨c1, c2, c3, c4⟩, ⟨p, n, o, k, s1, s2, s3, s4, s5, s6, s7, s8, s9, s10, s11⟩, hs1, hw, hlt, hr0, hr1⟩ := hx
  have l : ∀ W : LM, ∀ a : Cl, a.1 ≠ 5 → (wI (z_idle 0 W) (5, 4, 0) 0).1 a = W.1 a := fun W a ha => by rw [w5 ha, z_idle_rd (fun q => absurd q ha)]
  have l5 : ∀ W : LM, ∀ f j, (j ≠ 0 ∨ (f ≠ 3 ∧ f ≠ 4 ∧ f ≠ 6 ∧ f ≠ 7)) → (wI (z_idle 0 W) (5, 4, 0) 0).1 (5, f, j) = W.1 (5, f, j) := fun W f j hj => by
    rw [rdw, if_neg (by simp; omega), z_idle_rd (fun _ q => by
      have q' : j = 0 := q
      have := hj.resolve_left (fun z => z q')
      exact ⟨this.1, this.2.2.1, this.2.2.2⟩)]
  have k8 : ∀ a : Cl, a.1 = 8 → a.1 ≠ 5 := fun a ha => by rw [ha]; decide
  have b0 : (wI (z_idle 0 X) (5, 4, 0) 0).1 (5, 3, 0) = 0 := by unfold z_idle; simp only [rdw, rdl, rdw2, rdl1, Prod.mk.injEq, Nat.reduceEqDiff, and_self, and_true, true_and, and_false, false_and, ite_true, ite_false, ↓reduceIte]
  refine ⟨(hE.idle 0).w rfl, hS.of (((Stc.refl X).idle 0).w rfl), ⟨?_, ?_, ?_, ?_⟩, ⟨0, n, o, k, ?_, ?_, s3, Or.inr rfl, Or.inl b0, fun q => ?_, fun q => absurd q (by first | decide | simp), ?_, s9, ?_, s11⟩, ?_, hw.of (fun a ha => l X a (k8 a ha)) (fun a ha => l Y a (k8 a ha)), ?_, ?_, ?_⟩
  · rw [l _ _ (by first | decide | simp)]; exact c1
  · unfold Ow
    rw [l _ _ (by first | decide | simp)]
    rcases c2 with c2 | ⟨s, h1, h2, h3⟩
    · exact Or.inl c2
    · rcases (show s = 0 ∨ s = 1 by omega) with rfl | rfl
      · exact absurd h2 hn
      · exact Or.inr ⟨1, h1, h2, by rw [l5 _ _ _ (Or.inl (by first | decide | simp))]; exact h3⟩
  · rw [l _ _ (by first | decide | simp), l _ _ (by first | decide | simp), l _ _ (by first | decide | simp), l _ _ (by first | decide | simp)]; exact c3
  · rw [l5 _ _ _ (Or.inr (by first | decide | simp)), l5 _ _ _ (Or.inl (by first | decide | simp)), l _ _ (by first | decide | simp)]; exact c4
  · rw [rdw, if_pos rfl]; rfl
  · rw [l5 _ _ _ (Or.inr (by first | decide | simp))]; exact s2
  · rw [b0] at q; exact absurd q (by first | decide | simp)
  · rw [l _ _ (by first | decide | simp)]; exact s8
  · rw [l5 _ _ _ (Or.inr (by first | decide | simp))]; exact s10
  · exact hs1.of (l5 _ _ _ (Or.inl (by first | decide | simp))) (l5 _ _ _ (Or.inl (by first | decide | simp))) (l5 _ _ _ (Or.inl (by first | decide | simp))) (l5 _ _ _ (Or.inl (by first | decide | simp))) (l _ _ (by first | decide | simp)) (l5 _ _ _ (Or.inl (by first | decide | simp))) (l5 _ _ _ (Or.inl (by first | decide | simp)))
  · exact hlt.of (l5 _ _ _ (Or.inl (by first | decide | simp))) (l5 _ _ _ (Or.inl (by first | decide | simp))) (l5 _ _ _ (Or.inl (by first | decide | simp))) (fun i => l _ _ (by simp))
  · exact hr0.of (l _ _ (by first | decide | simp)) (l _ _ (by first | decide | simp)) (l _ _ (by first | decide | simp)) (fun i => l _ _ (by simp)) (fun i => l _ _ (by simp))
  · exact hr1.of (l _ _ (by first | decide | simp)) (l _ _ (by first | decide | simp)) (l _ _ (by first | decide | simp)) (fun i => l _ _ (by simp)) (fun i => l _ _ (by simp))
theorem Stc.stop {L : LM} : Stc L (z_stop L) := by
  unfold z_stop z_x
  split
  · exact ((((Stc.refl L).b).idle 0).w rfl).forget 0
  · exact (((Stc.refl L).idle 0).w rfl).forget 0
theorem A_stop {B t : Nat} {M : Mem} {L V : LM} (h : InX B M t L V) : AnsI (f_X11_stop M) f_X12_stop B := by
  have hE := h.2.2.2.1.1
  have hb : bz (L.1 (5, 3, 0)) := by obtain ⟨p, n, o, k, s1, s2, s3, s4, s5, _⟩ := h.2.2.2.1.2.2.2.1; exact s5
  have hR := h.2.2.2.1.stop
  refine AnsI.ch (v := L.1 (5, 3, 0)) h ?_ (V' := z_stop V) (fun N h7 => ?_) hR (Nat.le_refl B) h.1 (h.2.2.2.1.stv hR Stc.stop)
  · unfold f_X11_stop
    have q := h_X3_stopRegular (c := 1) (M := M) (L := L)
    rw [N_stop hb, mg_some, show putC 1 M L = M from h.2.1] at q
    rw [q, bnd_some, bzifM hb]
  · unfold f_X12_stop f_X12_stop_28
    dsimp only [nm]
    rw [wr10, seq_0_0, bnd_some, itsseq_0 (h7u h7) (by first | decide | simp) (s := 0) (by first | decide | simp), bnd_some, its_1 (h7u h7) (by first | decide | simp), bnd_some]
    have i0 := fun W : LM => M_idle (N := uI N (10, 0, 0) 0 0) (V := W) (h7u h7) (by first | decide | simp) (j := 0) (by first | decide | simp)
    have f0 := fun W : LM => M_forget (N := uI N (10, 0, 0) 0 0) (V := W) (h7u h7) (by first | decide | simp) (j := 0) (by first | decide | simp)
    rw [show nI 0 = (0 : Int32) from rfl] at i0 f0
    have e : ∀ W : LM, (bnd (f_X12_idle 0 (putM 0 0 (uI N (10, 0, 0) 0 0) W)) fun r1 M2 => bnd (f_X12_seq 0 1 M2) fun r4 M5 => bnd (f_X12_puts r4 0 M5) fun r7 M8 => bnd (f_X12_clearResult 0 M8) fun r10 M11 => some (V.1 (5, 3, 0), M11)) = some (V.1 (5, 3, 0), putM 0 0 (uI N (10, 0, 0) 0 0) (z_forget 0 (wI (z_idle 0 W) (5, 4, 0) 0))) := by
      intro W
      rw [i0, bnd_some, seq_0_1, bnd_some, putsseq_1 (h7u h7) (by first | decide | simp) (s := 0) (by first | decide | simp), bnd_some, f0, bnd_some]
    unfold z_stop z_x
    rw [hE.1 (5, 3, 0) rfl] at e ⊢
    by_cases q : V.1 (1, 0, 0) = 1
    · rw [if_pos q, if_pos q, M_breakOff (h7u h7) (by first | decide | simp), bnd_some, e]
    · rw [if_neg q, if_neg q, e]
theorem A_fire {B t : Nat} {M : Mem} {L V : LM} (h : InX B M t L V) (y : Int32) : Ans (cd1 2) (f_X11_fire y M) (f_X12_fire y) M B := by
  by_cases hy : 0 ≤ y ∧ y ≤ 3
  · obtain ⟨c, hc, rfl⟩ := rng (n := 3) (by first | decide | simp) hy
    obtain ⟨r, L', V', f1, f2, f3, f4, f5⟩ := S_fire h.2.2.2.1 (i := c) (by omega)
    refine Ans.ch (v := r) h ?_ (V' := V') (fun N h7 => ?_) f4 (Nat.le_refl B) h.1 (h.2.2.2.1.stv f4 f5.1)
    · unfold f_X11_fire
      have q := h_X3_fireTrigger (c := 1) (M := M) (x1 := nI c) (L := L)
      rw [f1, mg_some, show putC 1 M L = M from h.2.1] at q
      rw [rq_t1 hy, bndX_l, q, bnd_some, bzif f3]
    · unfold f_X12_fire f_X12_fire_14
      rw [isT1 hy, bnd_some, if_neg (by first | decide | simp), fz0, bnd_some, if_pos rfl, f2 0 _ (h7u h7) (by first | decide | simp), bnd_some, bzifM f3]
  · refine Ans.thr (e := 2) (b := 0) h (Nat.le_refl B) ?_ (by first | decide | simp) (fun N h7 => ?_)
    · unfold f_X11_fire
      rw [rq_t0 hy, bndX_r]
    · unfold f_X12_fire f_X12_fire_14
      rw [isT0 hy, bnd_some, if_pos rfl, fz1, bnd_some, if_neg (by first | decide | simp)]
      rfl
theorem run_loop {n : Nat} (hn : n ≤ 5000) : ∀ (m i f g t : Nat) (L V : LM), i + m = n → m < f → m < g → R t t L V → t + m < 2 ^ 30 → ∃ L' V', (∀ M x, f_X11_run_17 f (nI n) x (nI i) (putC 1 M L) = some (.inl (L'.1 (5, 8, 0) + L'.1 (5, 8, 1) - x), putC 1 M L')) ∧ (∀ N x, N.1 (10, 0, 0) 7 = nI 0 → f_X12_run_36 g (nI n) x (nI i) (putM 0 0 N V) = some (V'.1 (2, 17, 0) - x, putM 0 0 N V')) ∧ R (t + m) (t + m) L' V' ∧ Stc L L' := by
  intro m
  induction m with
  | zero =>
    intro i f g t L V hi hf hg h ht
    obtain ⟨f, rfl⟩ : ∃ k, f = k + 1 := ⟨f - 1, by omega⟩
    obtain ⟨g, rfl⟩ : ∃ k, g = k + 1 := ⟨g - 1, by omega⟩
    refine ⟨L, V, fun M x => ?_, fun N x h7 => ?_, h, Stc.refl L⟩
    · rw [show f_X11_run_17 (f + 1) (nI n) x (nI i) (putC 1 M L) = _ from Eq.trans (by unfold f_X11_run_17; exact rfl) rfl, if_pos (nI_le (by omega) (by omega)), h_X3_resultCount]
      rfl
    · rw [show f_X12_run_36 (g + 1) (nI n) x (nI i) (putM 0 0 N V) = _ from Eq.trans (by unfold f_X12_run_36; exact rfl) rfl, if_pos (nI_le (by omega) (by omega)), its_13 h7 (by first | decide | simp), bnd_some]
  | succ m ih =>
    intro i f g t L V hi hf hg h ht
    obtain ⟨f, rfl⟩ : ∃ k, f = k + 1 := ⟨f - 1, by omega⟩
    obtain ⟨g, rfl⟩ : ∃ k, g = k + 1 := ⟨g - 1, by omega⟩
    obtain ⟨L1, V1, a1, a2, a3, a4⟩ := S_pc h (by omega)
    obtain ⟨L', V', b1, b2, b3, b4⟩ := ih (i + 1) f g (t + 1) L1 V1 (by omega) (by omega) (by omega) a3 (by omega)
    refine ⟨L', V', fun M x => ?_, fun N x h7 => ?_, by rw [show t + (m + 1) = t + 1 + m by omega]; exact b3, a4.1.trans b4⟩
    · rw [show f_X11_run_17 (f + 1) (nI n) x (nI i) (putC 1 M L) = _ from Eq.trans (by unfold f_X11_run_17; exact rfl) rfl, if_neg (nI_ge (by omega) (by omega)), h_X3_passCycle, a1, mg_some, bnd_some]
      dsimp only [nm]
      rw [nI_1]
      exact b1 M x
    · rw [show f_X12_run_36 (g + 1) (nI n) x (nI i) (putM 0 0 N V) = _ from Eq.trans (by unfold f_X12_run_36; exact rfl) rfl, if_neg (nI_ge (by omega) (by omega)), a2 0 N h7 (by first | decide | simp), bnd_some]
      dsimp only [nm]
      rw [nI_1]
      exact b2 N x h7
theorem A_run {B t : Nat} {M : Mem} {L V : LM} (h : InX B M t L V) (hB : B + 5000 < 2 ^ 30) (y : Int32) : Ans (cd1 1) (f_X11_run y M) (f_X12_run y) M (B + 5000) := by
  have hE := h.2.2.2.1.1
  by_cases hy : 1 ≤ y ∧ y ≤ 5000
  · obtain ⟨n, hn, rfl⟩ := rng (x := y) (n := 5000) (by first | decide | simp) ⟨Int32.le_trans (by first | decide | simp) hy.1, hy.2⟩
    have ht := h.1
    obtain ⟨L', V', b1, b2, b3, b4⟩ := run_loop hn n 0 fuelN fuelN t L V (by omega) (by unfold fuelN; omega) (by unfold fuelN; omega) h.2.2.2.1 (by omega)
    have em : ∀ {L V : LM} {t : Nat}, R t t L V → V.1 (2, 17, 0) = L.1 (5, 8, 0) + L.1 (5, 8, 1) := fun h => h.2.2.1.2.2.2
    refine Ans.ch (v := V'.1 (2, 17, 0) - V.1 (2, 17, 0)) h ?_ (V' := V') (fun N h7 => ?_) b3 (by omega) (by omega) (h.2.2.2.1.stv b3 b4)
    · unfold f_X11_run
      have q := h_X3_resultCount (c := 1) (M := M) (L := L)
      rw [show putC 1 M L = M from h.2.1] at q
      have q2 := b1 M (L.1 (5, 8, 0) + L.1 (5, 8, 1))
      rw [show putC 1 M L = M from h.2.1] at q2
      rw [rq_y1 hy, bndX_l, q]
      unfold g_X3_resultCount
      rw [mg_some, show putC 1 M L = M from h.2.1, bnd_some, em b3, em h.2.2.2.1]
      exact q2
    · unfold f_X12_run f_X12_run_17
      rw [iR1 hy, bnd_some, if_neg (by first | decide | simp), fz0, bnd_some, if_pos rfl, its_13 (h7u h7) (by first | decide | simp), bnd_some]
      exact b2 _ _ (h7u h7)
  · refine Ans.thr (e := 1) (b := 0) h (by omega) ?_ (by first | decide | simp) (fun N h7 => ?_)
    · unfold f_X11_run
      rw [rq_y0 hy, bndX_r]
    · unfold f_X12_run f_X12_run_17
      rw [iR0 hy, bnd_some, if_pos rfl, fz1, bnd_some, if_neg (by first | decide | simp)]
      rfl
