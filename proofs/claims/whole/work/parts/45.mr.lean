/-! ===== the reference: a result is finished, a conversion's cycle, a whole cycle ===== -/
def LkC (V : LM) : Prop := ∀ w, w < 3 → (V.1 (8, 0, w) = 0 → V.1 (8, 4, w) = 0) ∧ (V.1 (8, 6, w) = 0 ∨ V.1 (8, 6, w) = 1)
theorem LkC_of {V V' : LM} (h : LkC V) (e : ∀ x : Cl, x.1 = 8 → V'.1 x = V.1 x) : LkC V' := by
  intro w hw
  rw [e _ rfl, e _ rfl, e _ rfl]
  exact h w hw
theorem z_look_rd {w : Nat} {c t y x : Int32} {V : LM} {a : Cl} (h : a.1 ≠ 8 ∨ (a.2.2 ≠ w ∨ a.2.1 < 5)) : (z_look w c t y x V).1 a = V.1 a := by
  have key : ∀ f, 5 ≤ f → a ≠ (8, f, w) := by
    intro f hf q
    subst q
    rcases h with h | h | h
    · exact h rfl
    · exact h rfl
    · exact absurd h (by simpa using hf)
  unfold z_look
  split
  · rfl
  · split
    · rw [rdw, if_neg (key 5 (by first | decide | simp))]
    · simp only [rdw]
      rw [if_neg (key 9 (by first | decide | simp)), if_neg (key 8 (by first | decide | simp)), if_neg (key 7 (by first | decide | simp)), if_neg (key 6 (by first | decide | simp)), if_neg (key 5 (by first | decide | simp))]
theorem z_look_l {w : Nat} {c t y x : Int32} {V : LM} : (z_look w c t y x V).2 = V.2 := by
  unfold z_look
  split
  · rfl
  · split <;> rfl
theorem z_look_C {w : Nat} {c t y x : Int32} {V : LM} (h : LkC V) : LkC (z_look w c t y x V) := by
  intro v hv
  rw [z_look_rd (Or.inr (Or.inr (by show 0 < 5; decide))), z_look_rd (Or.inr (Or.inr (by show 4 < 5; decide)))]
  refine ⟨(h v hv).1, ?_⟩
  by_cases hw : v = w
  · subst hw
    unfold z_look
    split
    · exact (h v hv).2
    · split
      · simp only [rdw, rdl, rdw2, rdl1, Prod.mk.injEq, Nat.reduceEqDiff, and_self, and_true, true_and, and_false, false_and, ite_true, ite_false, ↓reduceIte]
        exact (h v hv).2
      · simp only [rdw, rdl, rdw2, rdl1, Prod.mk.injEq, Nat.reduceEqDiff, and_self, and_true, true_and, and_false, false_and, ite_true, ite_false, ↓reduceIte]
        exact Or.inr trivial
  · rw [z_look_rd (Or.inr (Or.inl hw))]
    exact (h v hv).2
def z_looks (c t y x : Int32) (V : LM) : LM := z_look 2 c t y x (z_look 1 c t y x (z_look 0 c t y x V))
theorem z_looks_rd {c t y x : Int32} {V : LM} {a : Cl} (h : a.1 ≠ 8) : (z_looks c t y x V).1 a = V.1 a := by
  unfold z_looks
  rw [z_look_rd (Or.inl h), z_look_rd (Or.inl h), z_look_rd (Or.inl h)]
theorem z_looks_l {c t y x : Int32} {V : LM} : (z_looks c t y x V).2 = V.2 := by
  unfold z_looks
  rw [z_look_l, z_look_l, z_look_l]
theorem z_add_rd {c : Nat} {x : Int32} {V : LM} {a : Cl} (h : a.1 ≠ 0) : (z_add c x V).1 a = V.1 a := by
  unfold z_add
  rw [rdl1, rdw, if_neg (fun q => h (congrArg Prod.fst q)), rdw, if_neg (fun q => h (congrArg Prod.fst q)), rdw, if_neg (fun q => h (congrArg Prod.fst q))]
def m_fin8 (s : Nat) (V : LM) : LM :=
  if V.1 (5, 5, s) + -1 = 0 then m_end s (wI (wI V (5, 4, s) (V.1 (5, 4, s) + 1)) (5, 5, s) (V.1 (5, 5, s) + -1)) else wI (wI V (5, 4, s) (V.1 (5, 4, s) + 1)) (5, 5, s) (V.1 (5, 5, s) + -1)
theorem M_fin8 {β : Nat} {N : Mem} {V : LM} (hb : N.1 (10, 0, 0) 7 = nI β) (hβ : β < 5) {s : Nat} (hs : s < 2) : f_X12_finishResult_197 (nI s) (putM β 0 N V) = some ((), putM β 0 N (m_fin8 s V)) := by
  unfold f_X12_finishResult_197
  simp only [seq_0, seq_1, seq_2, seq_3, seq_4, seq_5, seq_6, seq_7, seq_8, itsseq_0 hb hβ hs, putsseq_0 hb hβ hs, addsseq_0 hb hβ hs, itsseq_1 hb hβ hs, putsseq_1 hb hβ hs, addsseq_1 hb hβ hs, itsseq_2 hb hβ hs, putsseq_2 hb hβ hs, addsseq_2 hb hβ hs, itsseq_3 hb hβ hs, putsseq_3 hb hβ hs, addsseq_3 hb hβ hs, itsseq_4 hb hβ hs, putsseq_4 hb hβ hs, addsseq_4 hb hβ hs, itsseq_5 hb hβ hs, putsseq_5 hb hβ hs, addsseq_5 hb hβ hs, itsseq_6 hb hβ hs, putsseq_6 hb hβ hs, addsseq_6 hb hβ hs, itsseq_7 hb hβ hs, putsseq_7 hb hβ hs, addsseq_7 hb hβ hs, itsseq_8 hb hβ hs, putsseq_8 hb hβ hs, addsseq_8 hb hβ hs, bnd_some, nm, M_end hb hβ hs, rdw, rdl, rdw2, rdl1, Prod.mk.injEq, Nat.reduceEqDiff, and_self, and_true, true_and, and_false, false_and, ite_true, ite_false, ↓reduceIte]
  unfold m_fin8
  split <;> rfl
def m_fin7 (s p z k : Nat) (c t x : Int32) (V : LM) : LM := if s = 0 then m_enq z k c t x V else z_put 2 (4 * p) c t (V.1 (2, 15, 0)) x (wI V (22, p, 0) 1)
theorem M_fin7 {β : Nat} {N : Mem} {V : LM} (hb : N.1 (10, 0, 0) 7 = nI β) (hβ : β < 5) {s p z k : Nat} {c t x : Int32} (hs : s < 2) (hC : LkC V) (hz : V.1 (4, 5, 0) = nI z) (hk : V.1 (4, 2, 0) = nI k) (h0 : 1 ≤ k) (h1 : k ≤ 16) (h2 : z ≤ k) (hp : s = 1 → p < 4) {n : Nat} : f_X12_finishResult_124 (n + 4) (nI s) c x t (nI p) 0 (putM β 0 N V) = some ((), putM β 0 N (m_fin8 s (m_fin7 s p z k c t x (z_looks c t (V.1 (2, 15, 0)) x V)))) := by
  have st : ∀ (n w : Nat) (V : LM), w < 3 → LkC V → f_X12_finishResult_124 (n + 1) (nI s) c x t (nI p) (nI w) (putM β 0 N V) = f_X12_finishResult_124 n (nI s) c x t (nI p) (nI (w + 1)) (putM β 0 N (z_look w c t (V.1 (2, 15, 0)) x V)) := by
    intro n w V hw hC
    rw [show f_X12_finishResult_124 (n + 1) (nI s) c x t (nI p) (nI w) (putM β 0 N V) = _ from Eq.trans (by unfold f_X12_finishResult_124; exact rfl) rfl]
    rw [if_neg (ge3 hw), M_look hb hβ hw (hC w hw).1 (hC w hw).2, bnd_some]
    unfold nm
    rw [nI_1]
  have s0 := st (n + 3) 0 V (by first | decide | simp) hC
  have s1 := st (n + 2) 1 _ (by first | decide | simp) (z_look_C (w := 0) (c := c) (t := t) (y := V.1 (2, 15, 0)) (x := x) hC)
  have s2 := st (n + 1) 2 _ (by first | decide | simp) (z_look_C (w := 1) (c := c) (t := t) (y := V.1 (2, 15, 0)) (x := x) (z_look_C (w := 0) (c := c) (t := t) (y := V.1 (2, 15, 0)) (x := x) hC))
  rw [z_look_rd (a := (2, 15, 0)) (Or.inl (by first | decide | simp))] at s1
  rw [z_look_rd (a := (2, 15, 0)) (Or.inl (by first | decide | simp)), z_look_rd (a := (2, 15, 0)) (Or.inl (by first | decide | simp))] at s2
  rw [show (0 : Int32) = nI 0 from rfl, s0, s1, s2]
  have e : z_look 2 c t (V.1 (2, 15, 0)) x (z_look 1 c t (V.1 (2, 15, 0)) x (z_look 0 c t (V.1 (2, 15, 0)) x V)) = z_looks c t (V.1 (2, 15, 0)) x V := rfl
  rw [e]
  rw [show f_X12_finishResult_124 (n + 1) (nI s) c x t (nI p) (nI (2 + 1)) (putM β 0 N (z_looks c t (V.1 (2, 15, 0)) x V)) = _ from Eq.trans (by unfold f_X12_finishResult_124; exact rfl) rfl]
  rw [if_pos (by first | decide | simp)]
  rcases (show s = 0 ∨ s = 1 by omega) with rfl | rfl
  · rw [if_pos (show nI 0 = (0 : Int32) from rfl), M_enq hb hβ (by rw [z_looks_rd (by first | decide | simp)]; exact hz) (by rw [z_looks_rd (by first | decide | simp)]; exact hk) h0 h1 h2, bnd_some, M_fin8 hb hβ hs]
    rfl
  · have hp4 := hp rfl
    rw [if_neg (by first | decide | simp)]
    rw [show (132 : Int32) + 5 * nI p = nI (132 + 5 * p) by rw [show (132 : Int32) = nI 132 from rfl, show (5 : Int32) = nI 5 from rfl, pk_mul, nI_add]]
    rw [i_puts hb hβ (by omega) (cA_fl p hp4), bnd_some, its_0 hb hβ, bnd_some]
    rw [show nI (132 + 5 * p) + 1 = 132 + 5 * nI p + 1 by rw [show (132 : Int32) = nI 132 from rfl, show (5 : Int32) = nI 5 from rfl, pk_mul, nI_add]]
    rw [M_rowL hb hβ hp4, bnd_some, M_fin8 hb hβ hs]
    unfold m_fin7
    rw [if_neg (show ¬ (1 : Nat) = 0 by decide), rdw, if_neg (by simp)]
def z_val (s c : Nat) (V : LM) : Int32 := if 0 ≤ (V.1 (5, 11, s) >>> (V.1 (2, 13, 0) &&& 31)) - V.1 (0, 1, c) then (V.1 (5, 11, s) >>> (V.1 (2, 13, 0) &&& 31)) - V.1 (0, 1, c) else 0
def m_mid (s : Nat) (V : LM) : LM := wL (wI (wI (z_forget s V) (2, 17, 0) (V.1 (2, 17, 0) + 1)) (5, 8, s) (V.1 (5, 8, s) + 1)) (5, 12, s) (V.2 (5, 12, s) + Int32.toInt64 (V.1 (2, 15, 0) - V.1 (5, 7, s)))
def m_fin (s c p z k : Nat) (V : LM) : LM := m_fin8 s (m_fin7 s p z k (nI c) (V.1 (5, 6, s)) (z_val s c V) (z_looks (nI c) (V.1 (5, 6, s)) (V.1 (2, 15, 0)) (z_val s c V) (z_add c (z_val s c V) (m_mid s V))))
theorem m_mid_rd {s : Nat} {V : LM} {a : Cl} (h : a.1 ≠ 2 ∨ a.2.1 ≠ 17) (h2 : a.1 ≠ 5) : (m_mid s V).1 a = V.1 a := by
  unfold m_mid z_forget
  simp only [rdl1, rdw]
  rw [if_neg (fun q => h2 (congrArg Prod.fst q)), if_neg (fun q => by subst q; rcases h with h | h <;> exact h rfl), if_neg (fun q => h2 (congrArg Prod.fst q)), if_neg (fun q => h2 (congrArg Prod.fst q))]
theorem M_fin37 {β : Nat} {N : Mem} {V : LM} (hb : N.1 (10, 0, 0) 7 = nI β) (hβ : β < 5) {s c p z k : Nat} {x : Int32} (hs : s < 2) (hc : c < 8) (hC : LkC V) (hz : V.1 (4, 5, 0) = nI z) (hk : V.1 (4, 2, 0) = nI k) (h0 : 1 ≤ k) (h1 : k ≤ 16) (h2 : z ≤ k) (hq : V.1 (5, 4, s) = nI p) (hp : s = 1 → p < 4) : f_X12_finishResult_37 (nI s) (nI c) x (putM β 0 N V) = some ((), putM β 0 N (m_fin8 s (m_fin7 s p z k (nI c) (V.1 (5, 6, s)) x (z_looks (nI c) (V.1 (5, 6, s)) (V.1 (2, 15, 0)) x (z_add c x (m_mid s V)))))) := by
  unfold f_X12_finishResult_37
  simp only [its_0 hb hβ, puts_0 hb hβ, adds_0 hb hβ, its_1 hb hβ, puts_1 hb hβ, adds_1 hb hβ, its_2 hb hβ, puts_2 hb hβ, adds_2 hb hβ, its_3 hb hβ, puts_3 hb hβ, adds_3 hb hβ, its_4 hb hβ, puts_4 hb hβ, adds_4 hb hβ, its_5 hb hβ, puts_5 hb hβ, adds_5 hb hβ, its_6 hb hβ, puts_6 hb hβ, adds_6 hb hβ, its_7 hb hβ, puts_7 hb hβ, adds_7 hb hβ, its_8 hb hβ, puts_8 hb hβ, adds_8 hb hβ, its_9 hb hβ, puts_9 hb hβ, adds_9 hb hβ, its_10 hb hβ, puts_10 hb hβ, adds_10 hb hβ, its_11 hb hβ, puts_11 hb hβ, adds_11 hb hβ, its_12 hb hβ, puts_12 hb hβ, adds_12 hb hβ, its_13 hb hβ, puts_13 hb hβ, adds_13 hb hβ, its_155 hb hβ, seq_0, seq_1, seq_2, seq_3, seq_4, seq_5, seq_6, seq_7, seq_8, itsseq_0 hb hβ hs, putsseq_0 hb hβ hs, addsseq_0 hb hβ hs, itsseq_1 hb hβ hs, putsseq_1 hb hβ hs, addsseq_1 hb hβ hs, itsseq_2 hb hβ hs, putsseq_2 hb hβ hs, addsseq_2 hb hβ hs, itsseq_3 hb hβ hs, putsseq_3 hb hβ hs, addsseq_3 hb hβ hs, itsseq_4 hb hβ hs, putsseq_4 hb hβ hs, addsseq_4 hb hβ hs, itsseq_5 hb hβ hs, putsseq_5 hb hβ hs, addsseq_5 hb hβ hs, itsseq_6 hb hβ hs, putsseq_6 hb hβ hs, addsseq_6 hb hβ hs, itsseq_7 hb hβ hs, putsseq_7 hb hβ hs, addsseq_7 hb hβ hs, itsseq_8 hb hβ hs, putsseq_8 hb hβ hs, addsseq_8 hb hβ hs, bnd_some, nm, M_forget hb hβ hs, M_count hb hβ hc, rd10, hb, ixs0, if_neg (bad50 hβ (c := s) (by omega)), nI_clamp (n := 10 * β + s) (by omega), rdL (i := s) (β := β) (by omega), wrL (i := s) (β := β) (by omega), cL_s hs, hq]
  have e : wL (wI (wI (z_forget s V) (2, 17, 0) ((z_forget s V).1 (2, 17, 0) + 1)) (5, 8, s) ((wI (z_forget s V) (2, 17, 0) ((z_forget s V).1 (2, 17, 0) + 1)).1 (5, 8, s) + 1)) (5, 12, s) ((wI (wI (z_forget s V) (2, 17, 0) ((z_forget s V).1 (2, 17, 0) + 1)) (5, 8, s) ((wI (z_forget s V) (2, 17, 0) ((z_forget s V).1 (2, 17, 0) + 1)).1 (5, 8, s) + 1)).2 (5, 12, s) + Int32.toInt64 ((wI (wI (z_forget s V) (2, 17, 0) ((z_forget s V).1 (2, 17, 0) + 1)) (5, 8, s) ((wI (z_forget s V) (2, 17, 0) ((z_forget s V).1 (2, 17, 0) + 1)).1 (5, 8, s) + 1)).1 (2, 15, 0) - (wI (wI (z_forget s V) (2, 17, 0) ((z_forget s V).1 (2, 17, 0) + 1)) (5, 8, s) ((wI (z_forget s V) (2, 17, 0) ((z_forget s V).1 (2, 17, 0) + 1)).1 (5, 8, s) + 1)).1 (5, 7, s))) = m_mid s V := by
    unfold m_mid z_forget
    simp only [rdw, rdl, rdw2, rdl1, Prod.mk.injEq, Nat.reduceEqDiff, and_self, and_true, true_and, and_false, false_and, ite_true, ite_false, ↓reduceIte]
  rw [e]
  have r : ∀ a : Cl, (a.1 ≠ 2 ∨ a.2.1 ≠ 17) → a.1 ≠ 5 → a.1 ≠ 0 → (z_add c x (m_mid s V)).1 a = V.1 a := fun a ha hb hc => by rw [z_add_rd hc, m_mid_rd ha hb]
  rw [show fuelN = 5996 + 4 from rfl]
  rw [M_fin7 hb hβ hs (LkC_of hC (fun a ha => r a (Or.inl (by rw [ha]; decide)) (by rw [ha]; decide) (by rw [ha]; decide))) (by rw [r _ (Or.inl (by first | decide | simp)) (by first | decide | simp) (by first | decide | simp)]; exact hz) (by rw [r _ (Or.inl (by first | decide | simp)) (by first | decide | simp) (by first | decide | simp)]; exact hk) h0 h1 h2 hp]
  rw [r (2, 15, 0) (Or.inr (by first | decide | simp)) (by first | decide | simp) (by first | decide | simp)]
theorem M_fin {β : Nat} {N : Mem} {V : LM} (hb : N.1 (10, 0, 0) 7 = nI β) (hβ : β < 5) {s c p z k : Nat} (hs : s < 2) (hc : c < 8) (hC : LkC V) (hz : V.1 (4, 5, 0) = nI z) (hk : V.1 (4, 2, 0) = nI k) (h0 : 1 ≤ k) (h1 : k ≤ 16) (h2 : z ≤ k) (hq : V.1 (5, 4, s) = nI p) (hp : s = 1 → p < 4) : f_X12_finishResult (nI s) (nI c) (putM β 0 N V) = some ((), putM β 0 N (m_fin s c p z k V)) := by
  unfold f_X12_finishResult
  simp only [seq_0, seq_1, seq_2, seq_3, seq_4, seq_5, seq_6, seq_7, seq_8, itsseq_0 hb hβ hs, putsseq_0 hb hβ hs, addsseq_0 hb hβ hs, itsseq_1 hb hβ hs, putsseq_1 hb hβ hs, addsseq_1 hb hβ hs, itsseq_2 hb hβ hs, putsseq_2 hb hβ hs, addsseq_2 hb hβ hs, itsseq_3 hb hβ hs, putsseq_3 hb hβ hs, addsseq_3 hb hβ hs, itsseq_4 hb hβ hs, putsseq_4 hb hβ hs, addsseq_4 hb hβ hs, itsseq_5 hb hβ hs, putsseq_5 hb hβ hs, addsseq_5 hb hβ hs, itsseq_6 hb hβ hs, putsseq_6 hb hβ hs, addsseq_6 hb hβ hs, itsseq_7 hb hβ hs, putsseq_7 hb hβ hs, addsseq_7 hb hβ hs, itsseq_8 hb hβ hs, putsseq_8 hb hβ hs, addsseq_8 hb hβ hs, bnd_some, nm, set_3, nb_3, setv_22 hc, nbv_22 hc, if_false, M_fin37 hb hβ hs hc hC hz hk h0 h1 h2 hq hp]
  unfold m_fin z_val
  split <;> rfl
/-! a conversion's cycle -/
def m_cv1 (c : Nat) (V : LM) : LM := if V.1 (1, 6, 0) + -1 = 0 then wI (wI V (1, 6, 0) (V.1 (1, 6, 0) + -1)) (1, 3, 0) (sigV (V.1 (0, 2, c)) (V.1 (0, 3, c)) (V.1 (0, 4, c)) (V.1 (2, 15, 0))) else wI V (1, 6, 0) (V.1 (1, 6, 0) + -1)
def z_cv2 (s : Nat) (V : LM) : LM := wI (wI (wI (wI V (1, 0, 0) 0) (1, 4, 0) (V.1 (1, 4, 0) + 1)) (5, 10, s) (V.1 (5, 10, s) + 1)) (5, 11, s) (V.1 (5, 11, s) + V.1 (1, 3, 0))
def m_cv3 (s c p z k : Nat) (V : LM) : LM := if (z_cv2 s V).1 (5, 10, s) = 1 <<< ((z_cv2 s V).1 (2, 12, 0) &&& 31) then m_fin s c p z k (z_cv2 s V) else z_cv2 s V
def m_cv2 (s c p z k : Nat) (V : LM) : LM := if V.1 (1, 2, 0) + -1 ≤ 0 then m_cv3 s c p z k (wI V (1, 2, 0) (V.1 (1, 2, 0) + -1)) else wI V (1, 2, 0) (V.1 (1, 2, 0) + -1)
theorem M_cv2 {β : Nat} {N : Mem} {V : LM} (hb : N.1 (10, 0, 0) 7 = nI β) (hβ : β < 5) {s c p z k : Nat} (hs : s < 2) (hc : c < 8) (hC : LkC V) (hz : V.1 (4, 5, 0) = nI z) (hk : V.1 (4, 2, 0) = nI k) (h0 : 1 ≤ k) (h1 : k ≤ 16) (h2 : z ≤ k) (hq : V.1 (5, 4, s) = nI p) (hp : s = 1 → p < 4) : f_X12_convert_52 (nI s) (nI c) (putM β 0 N V) = some ((), putM β 0 N (m_cv2 s c p z k V)) := by
  unfold f_X12_convert_52
  simp only [its_0 hb hβ, puts_0 hb hβ, adds_0 hb hβ, its_1 hb hβ, puts_1 hb hβ, adds_1 hb hβ, its_2 hb hβ, puts_2 hb hβ, adds_2 hb hβ, its_3 hb hβ, puts_3 hb hβ, adds_3 hb hβ, its_4 hb hβ, puts_4 hb hβ, adds_4 hb hβ, its_5 hb hβ, puts_5 hb hβ, adds_5 hb hβ, its_6 hb hβ, puts_6 hb hβ, adds_6 hb hβ, its_7 hb hβ, puts_7 hb hβ, adds_7 hb hβ, its_8 hb hβ, puts_8 hb hβ, adds_8 hb hβ, its_9 hb hβ, puts_9 hb hβ, adds_9 hb hβ, its_10 hb hβ, puts_10 hb hβ, adds_10 hb hβ, its_11 hb hβ, puts_11 hb hβ, adds_11 hb hβ, its_12 hb hβ, puts_12 hb hβ, adds_12 hb hβ, its_13 hb hβ, puts_13 hb hβ, adds_13 hb hβ, its_155 hb hβ, seq_0, seq_1, seq_2, seq_3, seq_4, seq_5, seq_6, seq_7, seq_8, itsseq_0 hb hβ hs, putsseq_0 hb hβ hs, addsseq_0 hb hβ hs, itsseq_1 hb hβ hs, putsseq_1 hb hβ hs, addsseq_1 hb hβ hs, itsseq_2 hb hβ hs, putsseq_2 hb hβ hs, addsseq_2 hb hβ hs, itsseq_3 hb hβ hs, putsseq_3 hb hβ hs, addsseq_3 hb hβ hs, itsseq_4 hb hβ hs, putsseq_4 hb hβ hs, addsseq_4 hb hβ hs, itsseq_5 hb hβ hs, putsseq_5 hb hβ hs, addsseq_5 hb hβ hs, itsseq_6 hb hβ hs, putsseq_6 hb hβ hs, addsseq_6 hb hβ hs, itsseq_7 hb hβ hs, putsseq_7 hb hβ hs, addsseq_7 hb hβ hs, itsseq_8 hb hβ hs, putsseq_8 hb hβ hs, addsseq_8 hb hβ hs, bnd_some, nm, set_2, nb_2, if_false]
  simp only [rdw, rdl, rdw2, rdl1, Prod.mk.injEq, Nat.reduceEqDiff, and_self, and_true, true_and, and_false, false_and, ite_true, ite_false, ↓reduceIte]
  have e : z_cv2 s (wI V (1, 2, 0) (V.1 (1, 2, 0) + -1)) = wI (wI (wI (wI (wI V (1, 2, 0) (V.1 (1, 2, 0) + -1)) (1, 0, 0) 0) (1, 4, 0) (V.1 (1, 4, 0) + 1)) (5, 10, s) (V.1 (5, 10, s) + 1)) (5, 11, s) (V.1 (5, 11, s) + V.1 (1, 3, 0)) := by
    unfold z_cv2
    simp only [rdw, rdl, rdw2, rdl1, Prod.mk.injEq, Nat.reduceEqDiff, and_self, and_true, true_and, and_false, false_and, ite_true, ite_false, ↓reduceIte]
  have r : ∀ a : Cl, a.1 ≠ 1 → (a.1 = 5 → a.2.1 < 10) → (z_cv2 s (wI V (1, 2, 0) (V.1 (1, 2, 0) + -1))).1 a = V.1 a := by
    intro a h3 h4
    unfold z_cv2
    simp only [rdw]
    rw [if_neg (fun q => by subst q; exact absurd (h4 rfl) (by first | decide | simp)), if_neg (fun q => by subst q; exact absurd (h4 rfl) (by first | decide | simp)), if_neg (fun q => h3 (congrArg Prod.fst q)), if_neg (fun q => h3 (congrArg Prod.fst q)), if_neg (fun q => h3 (congrArg Prod.fst q))]
  have f := M_fin (V := z_cv2 s (wI V (1, 2, 0) (V.1 (1, 2, 0) + -1))) hb hβ hs hc (z := z) (k := k) (p := p) (LkC_of hC (fun a ha => r a (by rw [ha]; decide) (fun q => absurd (ha.symm.trans q) (by first | decide | simp)))) (by rw [r _ (by first | decide | simp) (fun q => absurd q (by first | decide | simp))]; exact hz) (by rw [r _ (by first | decide | simp) (fun q => absurd q (by first | decide | simp))]; exact hk) h0 h1 h2 (by rw [r _ (by first | decide | simp) (fun _ => (by first | decide | simp))]; exact hq) hp
  rw [← e, f, bnd_some]
  unfold m_cv2 m_cv3
  rw [show V.1 (5, 10, s) + 1 = (z_cv2 s (wI V (1, 2, 0) (V.1 (1, 2, 0) + -1))).1 (5, 10, s) by rw [e]; simp only [rdw, rdl, rdw2, rdl1, Prod.mk.injEq, Nat.reduceEqDiff, and_self, and_true, true_and, and_false, false_and, ite_true, ite_false, ↓reduceIte], show V.1 (2, 12, 0) = (z_cv2 s (wI V (1, 2, 0) (V.1 (1, 2, 0) + -1))).1 (2, 12, 0) from (r (2, 12, 0) (by first | decide | simp) (fun q => absurd q (by first | decide | simp))).symm]
  split
  · split <;> rfl
  · rfl
theorem M_cv {β : Nat} {N : Mem} {V : LM} (hb : N.1 (10, 0, 0) 7 = nI β) (hβ : β < 5) {s c p z k : Nat} (hs : s < 2) (hi : V.1 (1, 0, 0) = nI (s + 1)) (hcc : V.1 (1, 1, 0) = nI c) (hc : c < 8) (hC : LkC V) (hz : V.1 (4, 5, 0) = nI z) (hk : V.1 (4, 2, 0) = nI k) (h0 : 1 ≤ k) (h1 : k ≤ 16) (h2 : z ≤ k) (hq : V.1 (5, 4, s) = nI p) (hp : s = 1 → p < 4) (hr : ¬ V.1 (0, 4, c) = 0) : f_X12_convert (putM β 0 N V) = some ((), putM β 0 N (m_cv2 s c p z k (m_cv1 c V))) := by
  have g : ∀ v : Int32, ∀ V', V' = wI V (1, 6, 0) v ∨ (∃ u, V' = wI (wI V (1, 6, 0) v) (1, 3, 0) u) → f_X12_convert_52 (nI s) (nI c) (putM β 0 N V') = some ((), putM β 0 N (m_cv2 s c p z k V')) := by
    intro v V' hV
    have r : ∀ a : Cl, a.1 ≠ 1 → V'.1 a = V.1 a := by
      intro a ha
      rcases hV with rfl | ⟨u, rfl⟩
      · rw [rdw, if_neg (fun q => ha (congrArg Prod.fst q))]
      · rw [rdw, if_neg (fun q => ha (congrArg Prod.fst q)), rdw, if_neg (fun q => ha (congrArg Prod.fst q))]
    exact M_cv2 hb hβ hs hc (LkC_of hC (fun a ha => r a (by rw [ha]; decide))) (by rw [r _ (by first | decide | simp)]; exact hz) (by rw [r _ (by first | decide | simp)]; exact hk) h0 h1 h2 (by rw [r _ (by first | decide | simp)]; exact hq) hp
  unfold f_X12_convert
  have hn : ¬ nI (s + 1) = 0 := nI_ne0 (by omega) (by omega)
  have hs2 := fun x => M_signal (V := wI V (1, 6, 0) (V.1 (1, 6, 0) + -1)) (x := x) hb hβ hc (by rw [rdw, if_neg (by simp)]; exact hr)
  simp only [its_0 hb hβ, puts_0 hb hβ, adds_0 hb hβ, its_1 hb hβ, puts_1 hb hβ, adds_1 hb hβ, its_2 hb hβ, puts_2 hb hβ, adds_2 hb hβ, its_3 hb hβ, puts_3 hb hβ, adds_3 hb hβ, its_4 hb hβ, puts_4 hb hβ, adds_4 hb hβ, its_5 hb hβ, puts_5 hb hβ, adds_5 hb hβ, its_6 hb hβ, puts_6 hb hβ, adds_6 hb hβ, its_7 hb hβ, puts_7 hb hβ, adds_7 hb hβ, its_8 hb hβ, puts_8 hb hβ, adds_8 hb hβ, its_9 hb hβ, puts_9 hb hβ, adds_9 hb hβ, its_10 hb hβ, puts_10 hb hβ, adds_10 hb hβ, its_11 hb hβ, puts_11 hb hβ, adds_11 hb hβ, its_12 hb hβ, puts_12 hb hβ, adds_12 hb hβ, its_13 hb hβ, puts_13 hb hβ, adds_13 hb hβ, its_155 hb hβ, bnd_some, nm, hi, hn, if_false, nI_pred, hcc, hs2]
  simp only [rdw, rdl, rdw2, rdl1, Prod.mk.injEq, Nat.reduceEqDiff, and_self, and_true, true_and, and_false, false_and, ite_true, ite_false, ↓reduceIte]
  unfold m_cv1
  split
  · exact g _ _ (Or.inr ⟨_, rfl⟩)
  · exact g _ _ (Or.inl rfl)
