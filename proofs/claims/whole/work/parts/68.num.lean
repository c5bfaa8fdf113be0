/-! ===== sums, means, latencies, the length of a pass ===== -/
def AnsL (cd : Nat → Int32) (F : Option ((Int64 ⊕ Nat) × Mem)) (E : Mem → Option (Int64 × Mem)) (M : Mem) (B' : Nat) : Prop :=
  (∃ e b, F = some (.inr e, M) ∧ ¬ cd e = 0 ∧ E M = some (b, uI M (10, 0, 0) 0 (cd e)) ∧ Inv B' M) ∨
  (∃ v M1, F = some (.inl v, M1) ∧ ∀ w, ∃ M2, E (uL M1 (40, 0, 0) 0 w) = some (v, M2) ∧ M2.1 (10, 0, 0) 0 = 0 ∧ M2.2.1 (40, 0, 0) 0 = w ∧ Inv B' M2)
def AnsD (cd : Nat → Int32) (F : Option ((UInt64 ⊕ Nat) × Mem)) (E : Mem → Option (UInt64 × Mem)) (M : Mem) (B' : Nat) : Prop :=
  (∃ e b, F = some (.inr e, M) ∧ ¬ cd e = 0 ∧ E M = some (b, uI M (10, 0, 0) 0 (cd e)) ∧ Inv B' M) ∨
  (∃ v M1, F = some (.inl v, M1) ∧ ∀ w, ∃ M2, E (uD M1 (41, 0, 0) 0 w) = some (v, M2) ∧ M2.1 (10, 0, 0) 0 = 0 ∧ M2.2.2 (41, 0, 0) 0 = w ∧ Inv B' M2)
def EQg {ρ : Type} (E : Mem → Option (ρ × Mem)) (V : LM) (v : ρ) (z : Int32) : Prop := ∀ N, N.1 (10, 0, 0) 7 = 0 → E (putM 0 0 N V) = some (v, putM 0 0 (uI N (10, 0, 0) 0 z) V)
theorem EQg.at {ρ : Type} {E : Mem → Option (ρ × Mem)} {B t : Nat} {M : Mem} {L V : LM} {v : ρ} {z : Int32} (h : InX B M t L V) (hE : EQg E V v z) : E M = some (v, uI M (10, 0, 0) 0 z) := by
  have q := hE M h.h7
  rw [h.m, putM_uI (o := (10, 0, 0)) (by first | decide | simp) (by first | decide | simp), h.m] at q
  exact q
theorem AnsL.thr {cd : Nat → Int32} {F : Option ((Int64 ⊕ Nat) × Mem)} {E : Mem → Option (Int64 × Mem)} {M : Mem} {B t e : Nat} {L V : LM} {b : Int64} (h : InX B M t L V) (hF : F = some (.inr e, M)) (hc : ¬ cd e = 0) (hE : EQg E V b (cd e)) : AnsL cd F E M B := Or.inl ⟨e, b, hF, hc, hE.at h, ⟨t, L, V, h⟩⟩
theorem AnsL.ro {cd : Nat → Int32} {F : Option ((Int64 ⊕ Nat) × Mem)} {E : Mem → Option (Int64 × Mem)} {M : Mem} {B t : Nat} {L V : LM} {v : Int64} (h : InX B M t L V) (hF : F = some (.inl v, M)) (hE : EQg E V v 0) : AnsL cd F E M B :=
  Or.inr ⟨v, M, hF, fun w => ⟨_, hE.at (h.ul w), uI_at, ul40, ⟨t, L, V, (h.ul w).ui0 0⟩⟩⟩
theorem ud41 {M : Mem} {w : UInt64} : (uD M (41, 0, 0) 0 w).2.2 (41, 0, 0) 0 = w := by
  unfold uD
  dsimp only
  rw [if_pos ⟨rfl, rfl⟩]
theorem AnsD.thr {cd : Nat → Int32} {F : Option ((UInt64 ⊕ Nat) × Mem)} {E : Mem → Option (UInt64 × Mem)} {M : Mem} {B t e : Nat} {L V : LM} {b : UInt64} (h : InX B M t L V) (hF : F = some (.inr e, M)) (hc : ¬ cd e = 0) (hE : EQg E V b (cd e)) : AnsD cd F E M B := Or.inl ⟨e, b, hF, hc, hE.at h, ⟨t, L, V, h⟩⟩
theorem AnsD.ro {cd : Nat → Int32} {F : Option ((UInt64 ⊕ Nat) × Mem)} {E : Mem → Option (UInt64 × Mem)} {M : Mem} {B t : Nat} {L V : LM} {v : UInt64} (h : InX B M t L V) (hF : F = some (.inl v, M)) (hE : EQg E V v 0) : AnsD cd F E M B :=
  Or.inr ⟨v, M, hF, fun w => ⟨_, hE.at (h.ud w), uI_at, ud41, ⟨t, L, V, (h.ud w).ui0 0⟩⟩⟩
theorem sm_c {N : Mem} {V : LM} {c : Nat} {z : Int32} (h7 : N.1 (10, 0, 0) 7 = 0) (hc : c < 8) : (10 : Int32) * (putM 0 0 (uI N (10, 0, 0) 0 z) V).1 (10, 0, 0) 7 + 2 + nI c = nI (2 + c) := by
  rw [rd10, h7u h7, ixs2, Nat.mul_zero, Nat.zero_add]
theorem sm_s {N : Mem} {V : LM} {c : Nat} {z : Int32} (h7 : N.1 (10, 0, 0) 7 = 0) : (10 : Int32) * (putM 0 0 (uI N (10, 0, 0) 0 z) V).1 (10, 0, 0) 7 + nI c = nI c := by
  rw [rd10, h7u h7, ixs0, Nat.mul_zero, Nat.zero_add]
theorem rdL0 {N : Mem} {V : LM} {i : Nat} (hi : i < 10) : (putM 0 0 N V).2.1 (33, 0, 0) i = V.2 (cL i) := by
  have := rdL (β := 0) (σ := 0) (N := N) (V := V) hi
  rw [Nat.mul_zero, Nat.zero_add] at this
  exact this
theorem A_sum {B t : Nat} {M : Mem} {L V : LM} (h : InX B M t L V) (y : Int32) : AnsL (cd1 2) (f_X11_sum y M) (f_X12_sum y) M B := by
  by_cases hy : 0 ≤ y ∧ y ≤ 7
  · obtain ⟨c, hc, rfl⟩ := rng (n := 7) (by first | decide | simp) hy
    refine AnsL.ro (v := L.2 (0, 8, c)) h ?_ (fun N h7 => ?_)
    · unfold f_X11_sum
      rw [rq_c1 hy, bndX_l, if_neg (nbad (by omega) (by first | decide | simp)), nI_clamp (by omega), show M.2.1 (0, 1, c) 8 = L.2 (0, 8, c) from h.2.1.L rfl]
    · unfold f_X12_sum f_X12_sum_14
      rw [isC1 hy, bnd_some, if_neg (by first | decide | simp), fz0, bnd_some, if_pos rfl, sm_c h7 (by omega), if_neg (nbad (by omega) (by first | decide | simp)), nI_clamp (by omega), rdL0 (by omega), cL_c, h.2.2.2.1.1.2]
  · refine AnsL.thr (e := 2) (b := 0) h ?_ (by first | decide | simp) (fun N h7 => ?_)
    · unfold f_X11_sum
      rw [rq_c0 hy, bndX_r]
    · unfold f_X12_sum f_X12_sum_14
      rw [isC0 hy, bnd_some, if_pos rfl, fz1, bnd_some, if_neg (by first | decide | simp)]
      rfl
theorem A_mean {B t : Nat} {M : Mem} {L V : LM} (h : InX B M t L V) (y : Int32) : AnsD (cd2 2 3) (f_X11_mean y M) (f_X12_mean y) M B := by
  have hE := h.2.2.2.1.1
  by_cases hy : 0 ≤ y ∧ y ≤ 7
  · obtain ⟨c, hc, rfl⟩ := rng (n := 7) (by first | decide | simp) hy
    have hc8 : c < 8 := by omega
    have cr : M.1 (0, 1, c) 5 = L.1 (0, 5, c) := h.2.1.I rfl
    have cl : M.2.1 (0, 1, c) 8 = L.2 (0, 8, c) := h.2.1.L rfl
    have em : ∀ N, N.1 (10, 0, 0) 7 = 0 → f_X12_mean (nI c) (putM 0 0 N V) = f_X12_mean_34 (nI c) (L.1 (0, 5, c)) 0 (putM 0 0 N V) := by
      intro N h7
      unfold f_X12_mean f_X12_mean_23
      rw [isC1 hy, bnd_some, if_neg (by first | decide | simp), chan_4, bnd_some, itschan_4 (by exact h7) (by first | decide | simp) hc8, bnd_some, if_neg (by first | decide | simp), hE.1 (0, 5, c) rfl]
    by_cases h0 : L.1 (0, 5, c) = 0
    · refine AnsD.thr (e := 3) (b := 0) h ?_ (by first | decide | simp) (fun N h7 => ?_)
      · unfold f_X11_mean
        rw [rq_c1 hy, bndX_l, if_neg (nbad hc8 (by first | decide | simp)), nI_clamp (by omega), cr, if_pos h0]
      · rw [em N h7]
        unfold f_X12_mean_34 f_X12_mean_43
        rw [if_pos h0, fz2, bnd_some, if_neg (by first | decide | simp)]
        rfl
    · refine AnsD.ro (v := FP.ddiv (FP.l2d (L.2 (0, 8, c))) (FP.i2d (L.1 (0, 5, c)))) h ?_ (fun N h7 => ?_)
      · unfold f_X11_mean
        rw [rq_c1 hy, bndX_l, if_neg (nbad hc8 (by first | decide | simp)), nI_clamp (by omega), cr, if_neg h0, cl, ddiv_ok _ h0, if_neg (by first | decide | simp)]
      · rw [em N h7]
        unfold f_X12_mean_34 f_X12_mean_43
        rw [if_neg h0, fz0, bnd_some, if_pos rfl, sm_c h7 hc8, if_neg (nbad (by omega) (by first | decide | simp)), nI_clamp (by omega), rdL0 (by omega), cL_c, hE.2, ddiv_ok _ h0, if_neg (by first | decide | simp)]
  · refine AnsD.thr (e := 2) (b := 0) h ?_ (by first | decide | simp) (fun N h7 => ?_)
    · unfold f_X11_mean
      rw [rq_c0 hy, bndX_r]
    · unfold f_X12_mean f_X12_mean_23 f_X12_mean_34 f_X12_mean_43
      rw [isC0 hy, bnd_some, if_pos rfl, if_pos rfl, if_pos rfl, fz1, bnd_some, if_neg (by first | decide | simp)]
      rfl
theorem A_latency {B t s : Nat} {M : Mem} {L V : LM} (h : InX B M t L V) (hs : s < 2) : AnsD (cd1 3) (f_X11_latency (nI s) M) (f_X12_latency (nI s)) M B := by
  have hE := h.2.2.2.1.1
  have cs : f_X11_latency (nI s) M = f_X11_latency_13 (nI (s + 1)) 1 M := by
    unfold f_X11_latency
    rcases (show s = 0 ∨ s = 1 by omega) with rfl | rfl <;> rfl
  have sq : f_X3_sequenceOf 1 (nI (s + 1)) M = some ((1, s), M) := by
    rcases (show s = 0 ∨ s = 1 by omega) with rfl | rfl <;> rfl
  have ms : ∀ N, f_X12_latency (nI s) N = f_X12_latency_9 (nI s) N := by
    intro N
    unfold f_X12_latency
    rcases (show s = 0 ∨ s = 1 by omega) with rfl | rfl <;> rfl
  have cr : M.1 (5, 1, s) 8 = L.1 (5, 8, s) := h.2.1.I rfl
  have cl : M.2.1 (5, 1, s) 12 = L.2 (5, 12, s) := h.2.1.L rfl
  by_cases h0 : L.1 (5, 8, s) = 0
  · refine AnsD.thr (e := 3) (b := 0) h ?_ (by first | decide | simp) (fun N h7 => ?_)
    · rw [cs]
      unfold f_X11_latency_13
      rw [sq, bnd_some]
      dsimp only
      rw [cr, if_pos h0]
    · rw [ms]
      unfold f_X12_latency_9 f_X12_latency_30
      rw [seq_4, bnd_some, itsseq_4 (by exact h7) (by first | decide | simp) hs, bnd_some, hE.1 (5, 8, s) rfl, if_pos h0, fz1, bnd_some, if_neg (by first | decide | simp)]
      rfl
  · refine AnsD.ro (v := FP.ddiv (FP.l2d (L.2 (5, 12, s))) (FP.i2d (L.1 (5, 8, s)))) h ?_ (fun N h7 => ?_)
    · rw [cs]
      unfold f_X11_latency_13
      rw [sq, bnd_some]
      dsimp only
      rw [cr, if_neg h0, cl, ddiv_ok _ h0, if_neg (by first | decide | simp)]
    · rw [ms]
      unfold f_X12_latency_9 f_X12_latency_30
      rw [seq_4, bnd_some, itsseq_4 (by exact h7) (by first | decide | simp) hs, bnd_some, hE.1 (5, 8, s) rfl, if_neg h0, fz0, bnd_some, if_pos rfl, sm_s h7, if_neg (nbad (by omega) (by first | decide | simp)), nI_clamp (by omega), rdL0 (by omega), cL_s hs, hE.2, ddiv_ok _ h0, if_neg (by first | decide | simp)]
/-! the length of a pass: both loops side by side -/
theorem pl_loop {B t s n : Nat} {M : Mem} {L V : LM} (h : InX B M t L V) (hs : s < 2) (hn : L.1 (5, 1, s) = nI n) (hn8 : n ≤ capE s) : ∀ (m i f g : Nat) (x : Int32), i + m = n → m < f → m < g → ∃ v, f_X11_passLength_22 f 1 s x (nI i) M = some (v, M) ∧ ∀ N, N.1 (10, 0, 0) 7 = 0 → f_X12_passLength_20 g (nI s) x (nI i) (putM 0 0 (uI N (10, 0, 0) 0 0) V) = some (v, putM 0 0 (uI N (10, 0, 0) 0 0) V) := by
  have hE := h.2.2.2.1.1
  have hc := capE8 (j := s)
  have cn : M.1 (5, 1, s) 1 = nI n := by rw [h.2.1.I rfl, hn]
  have vn : V.1 (5, 1, s) = nI n := by rw [hE.1 _ rfl, hn]
  have ea : (akO (20, 1, s)).2 = capE s := by
    rcases (show s = 0 ∨ s = 1 by omega) with rfl | rfl <;> rfl
  intro m
  induction m with
  | zero =>
    intro i f g x hi hf hg
    obtain ⟨f, rfl⟩ : ∃ k, f = k + 1 := ⟨f - 1, by omega⟩
    obtain ⟨g, rfl⟩ : ∃ k, g = k + 1 := ⟨g - 1, by omega⟩
    refine ⟨x, ?_, fun N h7 => ?_⟩
    · rw [show f_X11_passLength_22 (f + 1) 1 s x (nI i) M = _ from Eq.trans (by unfold f_X11_passLength_22; exact rfl) rfl, cn, if_pos (nI_le (by omega) (by omega))]
    · rw [show f_X12_passLength_20 (g + 1) (nI s) x (nI i) (putM 0 0 (uI N (10, 0, 0) 0 0) V) = _ from Eq.trans (by unfold f_X12_passLength_20; exact rfl) rfl, entries_ hs, bnd_some, vn, if_pos (nI_le (by omega) (by omega))]
  | succ m ih =>
    intro i f g x hi hf hg
    obtain ⟨f, rfl⟩ : ∃ k, f = k + 1 := ⟨f - 1, by omega⟩
    obtain ⟨g, rfl⟩ : ∃ k, g = k + 1 := ⟨g - 1, by omega⟩
    obtain ⟨e, he, he2⟩ := h.2.2.2.1.2.1.2.1 s i hs (by omega)
    have ce : M.1 (20, 1, s) i = nI e := by rw [h.2.1.I rfl, he2]
    have ve : V.1 (20, i, s) = nI e := by rw [hE.1 _ rfl, he2]
    obtain ⟨v, a1, a2⟩ := ih (i + 1) f g (x + ((L.1 (0, 0, e) + 12) <<< (L.1 (2, 12, 0) &&& 31))) (by omega) (by omega) (by omega)
    refine ⟨v, ?_, fun N h7 => ?_⟩
    · rw [show f_X11_passLength_22 (f + 1) 1 s x (nI i) M = _ from Eq.trans (by unfold f_X11_passLength_22; exact rfl) rfl, cn, if_neg (nI_ge (by omega) (by omega)), ea, if_neg (nbad (by omega) (by omega)), nI_clamp (by omega), ce, if_neg (nbad he (by first | decide | simp)), nI_clamp (by omega)]
      have q := h_X1_conversionLength (c := 1) (M := M) (j0 := e) (L := L)
      rw [show putC 1 M L = M from h.2.1, N_cl, mg_some, show putC 1 M L = M from h.2.1] at q
      rw [q, bnd_some, show M.1 (2, 1, 0) 12 = L.1 (2, 12, 0) from h.2.1.I rfl]
      dsimp only [nm]
      rw [nI_1]
      exact a1
    · rw [show f_X12_passLength_20 (g + 1) (nI s) x (nI i) (putM 0 0 (uI N (10, 0, 0) 0 0) V) = _ from Eq.trans (by unfold f_X12_passLength_20; exact rfl) rfl, entries_ hs, bnd_some, vn, if_neg (nI_ge (by omega) (by omega)), entryOf_ hs (by omega), bnd_some, ve, chan_0, bnd_some, itschan_0 (h7u h7) (by first | decide | simp) he, bnd_some, if_neg (of_eq_false nb_2), set_2, hE.1 (0, 0, e) rfl, hE.1 (2, 12, 0) rfl]
      dsimp only [nm]
      rw [nI_1]
      exact a2 N h7
theorem A_passLength {B t s : Nat} {M : Mem} {L V : LM} (h : InX B M t L V) (hs : s < 2) : AnsI (f_X11_passLength (nI s) M) (f_X12_passLength (nI s)) B := by
  obtain ⟨n, hn, hn2⟩ := h.2.2.2.1.2.1.1 s hs
  have hc := capE8 (j := s)
  have cs : f_X11_passLength (nI s) M = f_X11_passLength_13 (nI (s + 1)) 1 M := by
    unfold f_X11_passLength
    rcases (show s = 0 ∨ s = 1 by omega) with rfl | rfl <;> rfl
  have sq : f_X3_sequenceOf 1 (nI (s + 1)) M = some ((1, s), M) := by
    rcases (show s = 0 ∨ s = 1 by omega) with rfl | rfl <;> rfl
  obtain ⟨v, a1, a2⟩ := pl_loop h hs hn2 hn n 0 fuelN fuelN 0 (by omega) (by unfold fuelN; omega) (by unfold fuelN; omega)
  refine AnsI.ro (v := v) h (Nat.le_refl B) ?_ (fun N h7 => ?_)
  · rw [cs]
    unfold f_X11_passLength_13
    rw [sq, bnd_some]
    exact a1
  · unfold f_X12_passLength f_X12_passLength_14
    dsimp only [nm]
    rw [wr10]
    have q := a2 N h7
    rcases (show s = 0 ∨ s = 1 by omega) with rfl | rfl
    · rw [if_pos (by first | decide | simp)]; exact q
    · rw [if_neg (by first | decide | simp)]; exact q
