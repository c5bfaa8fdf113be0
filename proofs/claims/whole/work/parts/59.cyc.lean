/-! ===== the transfer, and a whole cycle ===== -/
theorem n_drop_comm {v : Int32} {L : LM} : n_drop 0 (wI L (2, 16, 0) v) = wI (n_drop 0 L) (2, 16, 0) v := by
  unfold n_drop
  rw [rdw, if_neg (by first | decide | simp), rdw, if_neg (by first | decide | simp), rdw, if_neg (by first | decide | simp)]
  generalize L.1 (4, 5, 0) - 1 = x
  generalize (L.1 (4, 4, 0) + 1) &&& L.1 (4, 1, 0) = y
  rw [wI_comm (a := (2, 16, 0)) (b := (4, 4, 0)) (by first | decide | simp), wI_comm (a := (2, 16, 0)) (b := (4, 5, 0)) (by first | decide | simp)]
def m_X (y : Nat) (a g c x : Int32) (W : LM) : LM := wI (z_put 1 (4 * y) a g c x W) (4, 5, 1) (W.1 (4, 5, 1) + 1)
def m_W (V : LM) : LM := wI (sh 1 252 V) (4, 5, 1) (V.1 (4, 5, 1) + -1)
theorem m_tr2_X {z y : Nat} {W : LM} : m_tr2 z y W = m_drop z (wI (m_X y (W.1 (21, 0, 0)) (W.1 (21, 1, 0)) (W.1 (21, 2, 0)) (W.1 (21, 3, 0)) W) (2, 16, 0) (W.1 (2, 16, 0) + 1)) := rfl
theorem m_W_o {V : LM} {b : Cl} (h4 : b.1 = 4 → b.2.2 ≠ 1) (h : b.1 = 21 → b.2.2 ≠ 1) : (m_W V).1 b = V.1 b := by
  unfold m_W
  rw [w4 h4, sh_o h]
theorem m_X_o {y : Nat} {a g c x : Int32} {W : LM} {b : Cl} (h4 : b.1 = 4 → b.2.2 ≠ 1) (h : b.1 = 21 → b.2.2 ≠ 1) : (m_X y a g c x W).1 b = W.1 b := by
  unfold m_X
  rw [w4 h4, z_put_o h]
/-- the memory takes one -/
theorem R0.mem {t o1 y : Nat} {a g c x : Int32} {L V : LM} (h : R0 t L V) (ho : L.1 (4, 4, 1) = nI o1) (h1 : o1 < 64) (hy : L.1 (4, 5, 1) = nI y) (h2 : y ≤ 64) (hC : RgC 1 y o1 L V) : R0 t (n_enq 1 o1 y 64 a g c x L) (if y = 64 then m_X 63 a g c x (m_W V) else m_X y a g c x V) := by
  have hE := h.1
  have hm : L.1 (4, 1, 1) = nI (rk 1 - 1) := h.2.1.2.2.2.2.2.2.2.2.2.2.2.2.2.1 1 (by first | decide | simp)
  have hc : L.1 (4, 2, 1) = nI 64 := h.2.1.2.2.2.2.2.2.2.2.2.2.2.2.2.2.1
  have hn : L.1 (4, 3, 1) = 1 := h.2.1.2.2.2.2.2.2.2.2.2.2.2.2.2.2.2.1
  refine h.ring (j := 1) (by first | decide | simp) ?_ ((Stc.refl L).enq 1 o1 y 64 a g c x) (fun b b1 b2 _ => n_enq_o b1 b2) (fun b b1 b2 _ => ?_) ?_
  · unfold n_enq
    rw [hn]
    by_cases q : y = 64
    · rw [if_pos q, if_pos q, if_neg (by first | decide | simp)]
      have hd : Eqq (n_drop 1 (wI L (4, 6, 1) (L.1 (4, 6, 1) + 1))) (m_W V) := by
        unfold n_drop m_W
        have e1 : V.1 (4, 5, 1) + -1 = (wI L (4, 6, 1) (L.1 (4, 6, 1) + 1)).1 (4, 5, 1) - 1 := by rw [rdw, if_neg (by first | decide | simp), hE.1 (4, 5, 1) rfl, sub1]
        exact (((hE.l rfl).sh (by first | decide | simp)).l rfl).w e1
      exact hd.n_put (by first | decide | simp) (by rw [hd.1 (4, 5, 1) rfl])
    · rw [if_neg q, if_neg q]
      exact hE.n_put (by first | decide | simp) (by rw [hE.1 (4, 5, 1) rfl])
  · split
    · rw [m_X_o b1 b2, m_W_o b1 b2]
    · rw [m_X_o b1 b2]
  · unfold n_enq
    rw [hn]
    by_cases q : y = 64
    · subst q
      rw [if_pos rfl, if_pos rfl, if_neg (by first | decide | simp)]
      have r : ∀ (W : LM) (v : Int32) (b : Cl), b ≠ (4, 6, 1) → (wI W (4, 6, 1) v).1 b = W.1 b := fun W v b hb => by rw [rdw, if_neg hb]
      have c1 : RgC 1 64 o1 (wI L (4, 6, 1) (L.1 (4, 6, 1) + 1)) V := hC.of (fun i => r _ _ _ (by simp)) (fun i => rfl)
      have c2 := c1.dropN (V' := m_W V) (by first | decide | simp) (fun i => by unfold m_W; rw [rdw, if_neg (by simp)])
      exact Rg.put (c := 64) (n_drop_z (z := 64) (by rw [r _ _ _ (by first | decide | simp)]; exact hy) (by first | decide | simp)) (n_drop_o (by rw [r _ _ _ (by first | decide | simp)]; exact hm) (by rw [r _ _ _ (by first | decide | simp)]; exact ho) h1) (by rw [n_drop_rd (by first | decide | simp) (by first | decide | simp), r _ _ _ (by first | decide | simp)]; exact hc) (Nat.mod_lt _ rk_pos.1) (by first | decide | simp) (by first | decide | simp) c2 (by first | decide | simp)
    · rw [if_neg q, if_neg q]
      exact Rg.put (c := 64) hy ho hc h1 (by omega) (by first | decide | simp) hC (by first | decide | simp)
theorem R.tr {t u z o k o1 y : Nat} {L V : LM} (h : R t u L V) (hz : L.1 (4, 5, 0) = nI z) (ho : L.1 (4, 4, 0) = nI o) (hk : L.1 (4, 2, 0) = nI k) (h1 : o < 16) (h2 : z ≤ k) (h3 : k ≤ 16) (h4 : 1 ≤ z) (hC : RgC 0 z o L V) (ho1 : L.1 (4, 4, 1) = nI o1) (h5 : o1 < 64) (hy : L.1 (4, 5, 1) = nI y) (h6 : y ≤ 64) (hC1 : RgC 1 y o1 L V) {a g c x : Int32} (ea : a = L.1 (21, 4 * (o % 16) + 0, 0)) (eg : g = L.1 (21, 4 * (o % 16) + 1, 0)) (ec : c = L.1 (21, 4 * (o % 16) + 2, 0)) (ex : x = L.1 (21, 4 * (o % 16) + 3, 0)) :
    R t u (wI (n_drop 0 (n_enq 1 o1 y 64 a g c x L)) (2, 16, 0) ((n_drop 0 (n_enq 1 o1 y 64 a g c x L)).1 (2, 16, 0) + 1)) (m_tr z y V) := by
  have hm0 : L.1 (4, 1, 0) = nI (rk 0 - 1) := h.2.1.2.2.2.2.2.2.2.2.2.2.2.2.2.1 0 (by first | decide | simp)
  have hv : ∀ i, i < 4 → V.1 (21, i, 0) = L.1 (21, 4 * (o % 16) + i, 0) := fun i hi => by
    have := hC 0 i (by omega) hi
    rw [Nat.mul_zero, Nat.zero_add, Nat.add_zero] at this
    exact this
  have q := h.r0.mem (a := a) (g := g) (c := c) (x := x) ho1 h5 hy h6 hC1
  have e16 : V.1 (2, 16, 0) = L.1 (2, 16, 0) := h.1.1 _ rfl
  have em : m_tr z y V = m_drop z (wI (if y = 64 then m_X 63 a g c x (m_W V) else m_X y a g c x V) (2, 16, 0) (V.1 (2, 16, 0) + 1)) := by
    unfold m_tr
    by_cases q : y = 64
    · rw [if_pos q, if_pos q]
      show m_tr2 z 63 (m_W V) = _
      rw [m_tr2_X]
      have w : ∀ i, (m_W V).1 (21, i, 0) = V.1 (21, i, 0) := fun i => m_W_o (fun q => absurd q (by simp)) (fun _ => by simp)
      rw [w, w, w, w, m_W_o (b := (2, 16, 0)) (fun q => absurd q (by first | decide | simp)) (fun q => absurd q (by first | decide | simp)), hv 0 (by first | decide | simp), hv 1 (by first | decide | simp), hv 2 (by first | decide | simp), hv 3 (by first | decide | simp), ea, eg, ec, ex]
    · rw [if_neg q, if_neg q, m_tr2_X, hv 0 (by first | decide | simp), hv 1 (by first | decide | simp), hv 2 (by first | decide | simp), hv 3 (by first | decide | simp), ea, eg, ec, ex]
  rw [em]
  clear em
  generalize hX : (if y = 64 then m_X 63 a g c x (m_W V) else m_X y a g c x V) = X at *
  have x0 : ∀ b : Cl, (b.1 = 4 → b.2.2 ≠ 1) → (b.1 = 21 → b.2.2 ≠ 1) → X.1 b = V.1 b := by
    intro b b1 b2
    rw [← hX]
    split
    · rw [m_X_o b1 b2, m_W_o b1 b2]
    · rw [m_X_o b1 b2]
  generalize hY : n_enq 1 o1 y 64 a g c x L = Y at *
  have y0 : ∀ b : Cl, (b.1 = 4 → b.2.2 ≠ 1) → (b.1 = 21 → b.2.2 ≠ 1) → Y.1 b = L.1 b := fun b b1 b2 => by rw [← hY]; exact n_enq_o b1 b2
  have e17 : (n_drop 0 Y).1 (2, 16, 0) = Y.1 (2, 16, 0) := n_drop_rd (by first | decide | simp) (by first | decide | simp)
  have ey : Y.1 (2, 16, 0) = L.1 (2, 16, 0) := y0 _ (fun q => absurd q (by first | decide | simp)) (fun q => absurd q (by first | decide | simp))
  have fin : R0 t (wI (n_drop 0 Y) (2, 16, 0) ((n_drop 0 Y).1 (2, 16, 0) + 1)) (m_drop z (wI X (2, 16, 0) (V.1 (2, 16, 0) + 1))) := by
    rw [e17, ey, ← n_drop_comm]
    refine q.ring (j := 0) (by first | decide | simp) ((q.1.w (by rw [e16])).drop0) (((Stc.refl Y).w rfl).drop 0) (fun b b1 b2 b3 => ?_) (fun b b1 b2 b3 => ?_) ?_
    · rw [n_drop_or b1, rdw, if_neg (fun q => by subst q; exact b3 rfl rfl)]
    · rw [m_drop_or b1 b2, rdw, if_neg (fun q => by subst q; exact b3 rfl rfl)]
    · have r : ∀ (W : LM) (v : Int32) (b : Cl), b.1 ≠ 2 → (wI W (2, 16, 0) v).1 b = W.1 b := fun W v b hb => by rw [rdw, if_neg (fun q => hb (congrArg Prod.fst q))]
      exact Rg.drop (z := z) (o := o) (c := k) (by rw [r _ _ _ (by first | decide | simp), y0 _ (fun _ => (by first | decide | simp)) (fun q => absurd q (by first | decide | simp))]; exact hm0) (by rw [r _ _ _ (by first | decide | simp), y0 _ (fun _ => (by first | decide | simp)) (fun q => absurd q (by first | decide | simp))]; exact hz) (by rw [r _ _ _ (by first | decide | simp), y0 _ (fun _ => (by first | decide | simp)) (fun q => absurd q (by first | decide | simp))]; exact ho) (by rw [r _ _ _ (by first | decide | simp), y0 _ (fun _ => (by first | decide | simp)) (fun q => absurd q (by first | decide | simp))]; exact hk) h1 h2 h3 h4 (hC.of (V' := wI X (2, 16, 0) (V.1 (2, 16, 0) + 1)) (fun i => by rw [r _ _ _ (by simp), y0 _ (fun q => absurd q (by simp)) (fun _ => by simp)]) (fun i => by rw [r _ _ _ (by simp), x0 _ (fun q => absurd q (by simp)) (fun _ => by simp)])) (fun i => by unfold m_drop; rw [rdw, if_neg (by simp)])
  refine fin.mk (h.lt.of ?_ ?_ ?_ (fun i => ?_))
  · rw [rdw, if_neg (by first | decide | simp), n_drop_rd (by first | decide | simp) (by first | decide | simp), y0 _ (fun q => absurd q (by first | decide | simp)) (fun q => absurd q (by first | decide | simp))]
  · rw [rdw, if_neg (by first | decide | simp), n_drop_rd (by first | decide | simp) (by first | decide | simp), y0 _ (fun q => absurd q (by first | decide | simp)) (fun q => absurd q (by first | decide | simp))]
  · rw [rdw, if_neg (by first | decide | simp), n_drop_rd (by first | decide | simp) (by first | decide | simp), y0 _ (fun q => absurd q (by first | decide | simp)) (fun q => absurd q (by first | decide | simp))]
  · rw [m_drop_or (fun q => absurd q (by simp)) (fun q => absurd q (by simp)), rdw, if_neg (by simp), x0 _ (fun q => absurd q (by simp)) (fun q => absurd q (by simp))]
theorem R.cyc {t u : Nat} {L V : LM} (h : R t u L V) : R (t + 1) u (wI L (2, 15, 0) (L.1 (2, 15, 0) + 1)) (wI V (2, 15, 0) (V.1 (2, 15, 0) + 1)) := by
  obtain ⟨hE, hS, ⟨c1, c2, c3, c4⟩, hs0, hs1, hw, hlt, hr0, hr1⟩ := h
  have r : ∀ (W : LM) (v : Int32) (b : Cl), b ≠ (2, 15, 0) → (wI W (2, 15, 0) v).1 b = W.1 b := fun W v b hb => by rw [rdw, if_neg hb]
  refine ⟨hE.w (by rw [hE.1 (2, 15, 0) rfl]), hS.of ((Stc.refl L).w rfl), ⟨by rw [rdw, if_pos rfl, c1, nI_1], ?_, ?_, ?_⟩, ?_, ?_, hw.of (fun a ha => r _ _ _ (fun q => by subst q; exact absurd ha (by first | decide | simp))) (fun a ha => r _ _ _ (fun q => by subst q; exact absurd ha (by first | decide | simp))), ?_, ?_, ?_⟩
  · unfold Ow
    rw [r _ _ _ (by first | decide | simp)]
    rcases c2 with c2 | ⟨s, h1, h2, h3⟩
    · exact Or.inl c2
    · exact Or.inr ⟨s, h1, h2, by rw [r _ _ _ (by simp)]; exact h3⟩
  · rw [r _ _ _ (by first | decide | simp), r _ _ _ (by first | decide | simp), r _ _ _ (by first | decide | simp), r _ _ _ (by first | decide | simp)]; exact c3
  · rw [r _ _ (5, 8, 0) (by first | decide | simp), r _ _ (5, 8, 1) (by first | decide | simp), r _ _ (2, 17, 0) (by first | decide | simp)]; exact c4
  · exact hs0.of (r _ _ _ (by first | decide | simp)) (r _ _ _ (by first | decide | simp)) (r _ _ _ (by first | decide | simp)) (r _ _ _ (by first | decide | simp)) (r _ _ _ (by first | decide | simp)) (r _ _ _ (by first | decide | simp)) (r _ _ _ (by first | decide | simp))
  · exact hs1.of (r _ _ _ (by first | decide | simp)) (r _ _ _ (by first | decide | simp)) (r _ _ _ (by first | decide | simp)) (r _ _ _ (by first | decide | simp)) (r _ _ _ (by first | decide | simp)) (r _ _ _ (by first | decide | simp)) (r _ _ _ (by first | decide | simp))
  · exact hlt.of (r _ _ _ (by first | decide | simp)) (r _ _ _ (by first | decide | simp)) (r _ _ _ (by first | decide | simp)) (fun i => r _ _ _ (by simp))
  · exact hr0.of (r _ _ _ (by first | decide | simp)) (r _ _ _ (by first | decide | simp)) (r _ _ _ (by first | decide | simp)) (fun i => r _ _ _ (by simp)) (fun i => r _ _ _ (by simp))
  · exact hr1.of (r _ _ _ (by first | decide | simp)) (r _ _ _ (by first | decide | simp)) (r _ _ _ (by first | decide | simp)) (fun i => r _ _ _ (by simp)) (fun i => r _ _ _ (by simp))
theorem S_63 {t u : Nat} {L V : LM} (h : R t u L V) : ∃ L' V', g_X3_passCycle_63 L = some ((), L') ∧ (∀ β N, N.1 (10, 0, 0) 7 = nI β → β < 5 → bnd (f_X12_transfer (putM β 0 N V)) (fun r10 M11 => bnd (f_X12_adds 0 1 M11) (fun r13 M14 => some ((), M14))) = some ((), putM β 0 N V')) ∧ R (t + 1) u L' V' ∧ Stk L L' := by
  have hE := h.1
  obtain ⟨z, o, k, z1, z2, z3, z4, z5, z6, z7, z8⟩ := h.2.2.2.2.2.2.2.1
  obtain ⟨y, o1, k1, y1, y2, y3, y4, y5, y6, y7, y8⟩ := h.2.2.2.2.2.2.2.2
  have r16 : rk 0 = 16 := rfl
  have r64 : rk 1 = 64 := rfl
  obtain ⟨⟨p, p1, p2⟩, _⟩ := h.2.1.2.2.2.2.2.2.2.2.2.2.2.2.2.2.2.2
  have hm : MkC L := h.2.1.2.2.2.2.2.2.2.2.2.2.2.2.2.1
  have hc : L.1 (4, 2, 1) = nI 64 := h.2.1.2.2.2.2.2.2.2.2.2.2.2.2.2.2.1
  have hn : L.1 (4, 3, 1) = 1 := h.2.1.2.2.2.2.2.2.2.2.2.2.2.2.2.2.2.1
  have m := fun β N hb hβ => M_tr (β := β) (N := N) (V := V) hb hβ (z := z) (y := y) (p := p) (by rw [hE.1 _ rfl]; exact z1) (by omega) (by rw [hE.1 _ rfl]; exact y1) (by omega) (by rw [hE.1 _ rfl]; exact p2) (by omega)
  rw [hE.1 (2, 15, 0) rfl] at m
  have done : ∀ L1 V1, R t u L1 V1 → Stk L L1 → g_X3_passCycle_63 L = g_X3_passCycle_88 L1 → (∀ β N, N.1 (10, 0, 0) 7 = nI β → β < 5 → f_X12_transfer (putM β 0 N V) = some ((), putM β 0 N V1)) → ∃ L' V', g_X3_passCycle_63 L = some ((), L') ∧ (∀ β N, N.1 (10, 0, 0) 7 = nI β → β < 5 → bnd (f_X12_transfer (putM β 0 N V)) (fun r10 M11 => bnd (f_X12_adds 0 1 M11) (fun r13 M14 => some ((), M14))) = some ((), putM β 0 N V')) ∧ R (t + 1) u L' V' ∧ Stk L L' := by
    intro L1 V1 h1 s1 e1 e2
    refine ⟨_, _, by rw [e1, N_pc88], fun β N hb hβ => ?_, h1.cyc, s1.1.w rfl, s1.2.w (by simp)⟩
    rw [e2 β N hb hβ, bnd_some, adds_0 hb hβ, bnd_some]
  unfold g_X3_passCycle_63 at done ⊢
  rw [p2] at done ⊢
  by_cases q0 : p = 0
  · refine done L V h (Stk.refl L) (by rw [if_pos (by rw [q0]; decide)]) (fun β N hb hβ => ?_)
    rw [m β N hb hβ, if_pos (Or.inl q0)]
  · have n0 : ¬ nI p ≤ 0 := nI_nle (by omega) (by omega)
    have n1 : ¬ nI p = 0 := nI_ne0 (by omega) (by omega)
    rw [if_neg n0, if_neg n1] at done ⊢
    by_cases q1 : L.1 (2, 15, 0) + 1 - (L.1 (2, 15, 0) + 1) / nI p * nI p = 0
    · rw [if_pos q1] at done ⊢
      by_cases q2 : z = 0
      · refine done L V h (Stk.refl L) ?_ (fun β N hb hβ => ?_)
        · unfold g_X3_transferOldest
          rw [z1, if_pos (by rw [q2]; decide), bng_some]
        · rw [m β N hb hβ, if_pos (Or.inr (Or.inr q2))]
      · refine done _ _ (h.tr z1 z2 z3 (by omega) z5 (by omega) (by omega) z8 y2 (by omega) y1 (by omega) y8 rfl rfl rfl rfl) ⟨(((Stc.refl L).enq 1 _ _ _ _ _ _ _).drop 0).w rfl, (((Kv.refl L).enq1 _ _ _ _ _ _ _).drop 0).w (by simp)⟩ ?_ (fun β N hb hβ => ?_)
        · rw [N_tr hm z2 (by omega) z1 (by omega) (by omega) y2 (by omega) y1 (by omega) hc hn _ _ _ _ rfl rfl rfl rfl, bng_some]
        · rw [m β N hb hβ, if_neg (by rintro (q | q | q); exact q0 q; exact q q1; exact q2 q)]
    · rw [if_neg q1] at done ⊢
      refine done L V h (Stk.refl L) rfl (fun β N hb hβ => ?_)
      rw [m β N hb hβ, if_pos (Or.inr (Or.inl q1))]
/-- one cycle on both sides -/
theorem S_pc {t : Nat} {L V : LM} (h : R t t L V) (ht : t + 1 < 2 ^ 30) : ∃ L' V', g_X3_passCycle L = some ((), L') ∧ (∀ β N, N.1 (10, 0, 0) 7 = nI β → β < 5 → f_X12_passCycle (putM β 0 N V) = some ((), putM β 0 N V')) ∧ R (t + 1) (t + 1) L' V' ∧ Sto L L' := by
  obtain ⟨L1, V1, a1, a2, a3, a4⟩ := S_timers (t := t) (u := t) (by omega) 4 0 fuelN fuelN L V (by first | decide | simp) (by unfold fuelN; decide) (by unfold fuelN; decide) h
  have fin : ∀ L2 V2, R t (t + 1) L2 V2 → Sto L1 L2 → pcT L1 = g_X3_passCycle_63 L2 → (∀ β N, N.1 (10, 0, 0) 7 = nI β → β < 5 → bnd (f_X12_startConversion (putM β 0 N V1)) (fun r4 M5 => f_X12_convert M5) = some ((), putM β 0 N V2)) → ∃ L' V', g_X3_passCycle L = some ((), L') ∧ (∀ β N, N.1 (10, 0, 0) 7 = nI β → β < 5 → f_X12_passCycle (putM β 0 N V) = some ((), putM β 0 N V')) ∧ R (t + 1) (t + 1) L' V' ∧ Sto L L' := by
    intro L2 V2 h2 s2 e1 e2
    obtain ⟨L3, V3, b1, b2, b3, b4⟩ := S_63 h2
    refine ⟨L3, V3, ?_, fun β N hb hβ => ?_, b3, (a4.o s2).k b4⟩
    · unfold g_X3_passCycle
      exact a1.trans (e1.trans b1)
    · unfold f_X12_passCycle f_X12_fireTimers
      rw [show f_X12_fireTimers_2 fuelN 0 (putM β 0 N V) = _ from a2 β N hb hβ, bnd_some]
      have e3 := e2 β N hb hβ
      cases hs : f_X12_startConversion (putM β 0 N V1) with
      | none => rw [hs] at e3; cases e3
      | some q =>
        obtain ⟨q1, q2⟩ := q
        rw [hs, bnd_some] at e3
        rw [bnd_some, e3, bnd_some]
        exact b2 β N hb hβ
  by_cases q : L1.1 (1, 0, 0) = 0
  · obtain ⟨L2, V2, c1, c2, c3, c4⟩ := S_stc a3 q
    by_cases q2 : L2.1 (1, 0, 0) = 0
    · refine fin L2 V2 (c3.r0.mk (c3.lt.up (by omega) (by omega))) c4.sto ?_ (fun β N hb hβ => ?_)
      · unfold pcT g_X3_passCycle_49
        rw [if_pos q, c1, bng_some, if_pos q2]
      · rw [c2 β N hb hβ, bnd_some]
        unfold f_X12_convert
        rw [its_1 hb hβ, bnd_some, c3.1.1 (1, 0, 0) rfl, if_pos q2]
    · obtain ⟨L3, V3, d1, d2, d3, d4⟩ := S_cv c3 q2 (by omega)
      refine fin L3 V3 d3 (c4.o d4) ?_ (fun β N hb hβ => ?_)
      · unfold pcT g_X3_passCycle_49
        rw [if_pos q, c1, bng_some, if_neg q2, d1, bng_some]
      · rw [c2 β N hb hβ, bnd_some, d2 β N hb hβ]
  · obtain ⟨L3, V3, d1, d2, d3, d4⟩ := S_cv a3 q (by omega)
    refine fin L3 V3 d3 d4 ?_ (fun β N hb hβ => ?_)
    · unfold pcT g_X3_passCycle_49
      rw [if_neg q, if_neg q, d1, bng_some]
    · rw [S_stcN a3 q β N hb hβ, bnd_some, d2 β N hb hβ]
