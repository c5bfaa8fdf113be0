/-! ===== sequence, entry, channel, trigger, window, signal ===== -/
theorem bzif {x : Int32} {M : Mem} (h : bz x) : (if x = 0 then (some (.inl 0, M) : Option ((Int32 ⊕ Nat) × Mem)) else some (.inl 1, M)) = some (.inl x, M) := by
  rcases h with h | h
  · rw [h, if_pos rfl]
  · rw [h, if_neg (by first | decide | simp)]
theorem bzifM {x : Int32} {M : Mem} (h : bz x) : (if x = 0 then (some (0, M) : Option (Int32 × Mem)) else some (1, M)) = some (x, M) := by
  rcases h with h | h
  · rw [h, if_pos rfl]
  · rw [h, if_neg (by first | decide | simp)]
theorem last4 {x : Int32} (h : 0 ≤ x ∧ x ≤ 4) (q0 : ¬ x = 0) (q1 : ¬ x = 1) (q2 : ¬ x = 2) (q3 : ¬ x = 3) : x = 4 := by
  obtain ⟨j, hj, rfl⟩ := rng (n := 4) (by first | decide | simp) h
  rcases (show j = 0 ∨ j = 1 ∨ j = 2 ∨ j = 3 ∨ j = 4 by omega) with rfl | rfl | rfl | rfl | rfl <;> first | rfl | exact absurd rfl q0 | exact absurd rfl q1 | exact absurd rfl q2 | exact absurd rfl q3
theorem last7 {x : Int32} (h : 0 ≤ x ∧ x ≤ 7) (q0 : ¬ x = 0) (q1 : ¬ x = 1) (q2 : ¬ x = 2) (q3 : ¬ x = 3) (q4 : ¬ x = 4) (q5 : ¬ x = 5) (q6 : ¬ x = 6) : x = 7 := by
  obtain ⟨j, hj, rfl⟩ := rng (n := 7) (by first | decide | simp) h
  rcases (show j = 0 ∨ j = 1 ∨ j = 2 ∨ j = 3 ∨ j = 4 ∨ j = 5 ∨ j = 6 ∨ j = 7 by omega) with rfl | rfl | rfl | rfl | rfl | rfl | rfl | rfl <;> first | rfl | exact absurd rfl q0 | exact absurd rfl q1 | exact absurd rfl q2 | exact absurd rfl q3 | exact absurd rfl q4 | exact absurd rfl q5 | exact absurd rfl q6
theorem last8 {x : Int32} (h : 0 ≤ x ∧ x ≤ 8) (q0 : ¬ x = 0) (q1 : ¬ x = 1) (q2 : ¬ x = 2) (q3 : ¬ x = 3) (q4 : ¬ x = 4) (q5 : ¬ x = 5) (q6 : ¬ x = 6) (q7 : ¬ x = 7) : x = 8 := by
  obtain ⟨j, hj, rfl⟩ := rng (n := 8) (by first | decide | simp) h
  rcases (show j = 0 ∨ j = 1 ∨ j = 2 ∨ j = 3 ∨ j = 4 ∨ j = 5 ∨ j = 6 ∨ j = 7 ∨ j = 8 by omega) with rfl | rfl | rfl | rfl | rfl | rfl | rfl | rfl | rfl <;> first | rfl | exact absurd rfl q0 | exact absurd rfl q1 | exact absurd rfl q2 | exact absurd rfl q3 | exact absurd rfl q4 | exact absurd rfl q5 | exact absurd rfl q6 | exact absurd rfl q7
theorem A_sequence {B t s : Nat} {M : Mem} {L V : LM} (h : InX B M t L V) (hs : s < 2) (x : Int32) : Ans (cd1 1) (f_X11_sequence (nI s) x M) (f_X12_sequence (nI s) x) M B := by
  have hC := h.2.1
  have hE := h.2.2.2.1.1
  have hb : bz (L.1 (5, 3, s)) := by obtain ⟨p, n, o, k, s1, s2, s3, s4, s5, _⟩ := h.2.2.2.1.seq hs; exact s5
  have cs : ∀ y, f_X11_sequence (nI s) y M = bndX (f_X11_requireWhat y 7 M) (fun r1 M2 => f_X11_sequence_19 y (nI (s + 1)) 1 M2) := by
    intro y
    unfold f_X11_sequence
    rcases (show s = 0 ∨ s = 1 by omega) with rfl | rfl
    · simp only [show (nI 0 = (0 : Int32)) = True by decide, if_true]; rfl
    · simp only [show (nI 1 = (0 : Int32)) = False by decide, if_false]; rfl
  have sq : f_X3_sequenceOf 1 (nI (s + 1)) M = some ((1, s), M) := by
    rcases (show s = 0 ∨ s = 1 by omega) with rfl | rfl <;> rfl
  have ms : ∀ (y z : Int32) (N : Mem), f_X12_sequence_16 (nI s) y z N = bnd (f_X12_fails z 0 0 N) (fun r1 M2 => if r1 = 0 then f_X12_sequence_35 y (nI s) M2 else some (0, M2)) := by
    intro y z N
    unfold f_X12_sequence_16
    rcases (show s = 0 ∨ s = 1 by omega) with rfl | rfl
    · simp only [show (nI 0 = (0 : Int32)) = True by decide, if_true]; rfl
    · simp only [show (nI 1 = (0 : Int32)) = False by decide, if_false]; rfl
  by_cases hx : 0 ≤ x ∧ x ≤ 7
  · have FE : ∃ v, f_X11_sequence (nI s) x M = some (.inl v, M) ∧ EQ (f_X12_sequence (nI s) x) V V v 0 := by
      unfold EQ f_X12_sequence
      rw [cs, rq_w1 hx, bndX_l]
      unfold f_X11_sequence_19
      rw [sq, bnd_some]
      dsimp only
      have em : ∀ N, bnd (f_X12_inRange x 0 7 (putM 0 0 N V)) (fun r1 M2 => if r1 = 0 then f_X12_sequence_16 (nI s) x 1 M2 else f_X12_sequence_16 (nI s) x 0 M2) = f_X12_sequence_35 x (nI s) (putM 0 0 (uI N (10, 0, 0) 0 0) V) := by
        intro N
        rw [iR1 hx, bnd_some, if_neg (by first | decide | simp), ms, fz0, bnd_some, if_pos rfl]
      simp only [em]
      unfold f_X12_sequence_35
      by_cases q0 : x = 0
      · refine ⟨_, by rw [if_pos q0, show M.1 (5, 1, s) 1 = L.1 (5, 1, s) from hC.I rfl], fun N h7 => ?_⟩
        rw [if_pos q0, entries_ hs, bnd_some, hE.1 (5, 1, s) rfl]
      by_cases q1 : x = 1
      · refine ⟨_, by rw [if_neg q0, if_pos q1, show M.1 (5, 1, s) 3 = L.1 (5, 3, s) from hC.I rfl, bzif hb], fun N h7 => ?_⟩
        rw [if_neg q0, q1, show (1 : Int32) - 1 = 0 by decide, seq_0, bnd_some, itsseq_0 (h7u h7) (by first | decide | simp) hs, bnd_some, hE.1 (5, 3, s) rfl]
      by_cases q2 : x = 2
      · refine ⟨_, by rw [if_neg q0, if_neg q1, if_pos q2, show M.1 (5, 1, s) 4 = L.1 (5, 4, s) from hC.I rfl], fun N h7 => ?_⟩
        rw [if_neg q0, q2, show (2 : Int32) - 1 = 1 by decide, seq_1, bnd_some, itsseq_1 (h7u h7) (by first | decide | simp) hs, bnd_some, hE.1 (5, 4, s) rfl]
      by_cases q3 : x = 3
      · refine ⟨_, by rw [if_neg q0, if_neg q1, if_neg q2, if_pos q3, show M.1 (5, 1, s) 6 = L.1 (5, 6, s) from hC.I rfl], fun N h7 => ?_⟩
        rw [if_neg q0, q3, show (3 : Int32) - 1 = 2 by decide, seq_2, bnd_some, itsseq_2 (h7u h7) (by first | decide | simp) hs, bnd_some, hE.1 (5, 6, s) rfl]
      by_cases q4 : x = 4
      · refine ⟨_, by rw [if_neg q0, if_neg q1, if_neg q2, if_neg q3, if_pos q4, show M.1 (5, 1, s) 7 = L.1 (5, 7, s) from hC.I rfl], fun N h7 => ?_⟩
        rw [if_neg q0, q4, show (4 : Int32) - 1 = 3 by decide, seq_3, bnd_some, itsseq_3 (h7u h7) (by first | decide | simp) hs, bnd_some, hE.1 (5, 7, s) rfl]
      by_cases q5 : x = 5
      · refine ⟨_, by rw [if_neg q0, if_neg q1, if_neg q2, if_neg q3, if_neg q4, if_pos q5, show M.1 (5, 1, s) 8 = L.1 (5, 8, s) from hC.I rfl], fun N h7 => ?_⟩
        rw [if_neg q0, q5, show (5 : Int32) - 1 = 4 by decide, seq_4, bnd_some, itsseq_4 (h7u h7) (by first | decide | simp) hs, bnd_some, hE.1 (5, 8, s) rfl]
      by_cases q6 : x = 6
      · refine ⟨_, by rw [if_neg q0, if_neg q1, if_neg q2, if_neg q3, if_neg q4, if_neg q5, if_pos q6, show M.1 (5, 1, s) 9 = L.1 (5, 9, s) from hC.I rfl], fun N h7 => ?_⟩
        rw [if_neg q0, q6, show (6 : Int32) - 1 = 5 by decide, seq_5, bnd_some, itsseq_5 (h7u h7) (by first | decide | simp) hs, bnd_some, hE.1 (5, 9, s) rfl]
      have q7 : x = 7 := last7 hx q0 q1 q2 q3 q4 q5 q6
      refine ⟨_, by rw [if_neg q0, if_neg q1, if_neg q2, if_neg q3, if_neg q4, if_neg q5, if_neg q6, show M.1 (5, 1, s) 10 = L.1 (5, 10, s) from hC.I rfl], fun N h7 => ?_⟩
      rw [if_neg q0, q7, show (7 : Int32) - 1 = 6 by decide, seq_6, bnd_some, itsseq_6 (h7u h7) (by first | decide | simp) hs, bnd_some, hE.1 (5, 10, s) rfl]
    obtain ⟨v, f, e⟩ := FE
    exact Ans.ro h (Nat.le_refl B) f e
  · refine Ans.thr (e := 1) (b := 0) h (Nat.le_refl B) ?_ (by first | decide | simp) (fun N h7 => ?_)
    · rw [cs, rq_w0 hx, bndX_r]
    · unfold f_X12_sequence
      rw [iR0 hx, bnd_some, if_pos rfl, ms, fz1, bnd_some, if_neg (by first | decide | simp)]
      rfl
theorem A_entry {B t s : Nat} {M : Mem} {L V : LM} (h : InX B M t L V) (hs : s < 2) (x : Int32) : Ans (cd1 2) (f_X11_entry (nI s) x M) (f_X12_entry (nI s) x) M B := by
  have hC := h.2.1
  have hE := h.2.2.2.1.1
  obtain ⟨n, hn, hn2⟩ := h.2.2.2.1.2.1.1 s hs
  have h8 := capE8 (j := s)
  have cs : f_X11_entry (nI s) x M = f_X11_entry_13 x (nI (s + 1)) 1 M := by
    unfold f_X11_entry
    rcases (show s = 0 ∨ s = 1 by omega) with rfl | rfl <;> rfl
  have sq : f_X3_sequenceOf 1 (nI (s + 1)) M = some ((1, s), M) := by
    rcases (show s = 0 ∨ s = 1 by omega) with rfl | rfl <;> rfl
  have ms : ∀ N, f_X12_entry (nI s) x N = f_X12_entry_9 x (nI s) N := by
    intro N
    unfold f_X12_entry
    rcases (show s = 0 ∨ s = 1 by omega) with rfl | rfl <;> rfl
  have ea : (akO (20, 1, s)).2 = capE s := by
    rcases (show s = 0 ∨ s = 1 by omega) with rfl | rfl <;> rfl
  have e1 : V.1 (5, 1, s) = nI n := by rw [hE.1 _ rfl, hn2]
  by_cases hx : ∃ j : Nat, j < n ∧ x = nI j
  · obtain ⟨j, hj, rfl⟩ := hx
    refine Ans.ro (v := L.1 (20, j, s)) h (Nat.le_refl B) ?_ (fun N h7 => ?_)
    · rw [cs]
      unfold f_X11_entry_13
      rw [sq, bnd_some, if_neg (nI_pos (by omega))]
      dsimp only
      rw [show M.1 (5, 1, s) 1 = L.1 (5, 1, s) from hC.I rfl, hn2, if_pos (nI_lt hj (by omega)), ea, if_neg (nbad (by omega) (by omega)), nI_clamp (by omega), show M.1 (20, 1, s) j = L.1 (20, j, s) from hC.I rfl]
    · rw [ms]
      unfold f_X12_entry_9 f_X12_entry_31
      rw [entries_ hs, bnd_some, e1, show (1 : Int32) = nI 1 from rfl, pk_sub (by omega), iR1 ⟨nI_pos' (by omega), nI_le (by omega) (by omega)⟩, bnd_some, if_neg (by first | decide | simp), fz0, bnd_some, if_pos rfl, entryOf_ hs (by omega), bnd_some, hE.1 (20, j, s) rfl]
  · have no : ¬ (0 ≤ x ∧ x ≤ nI n - 1) := by
      intro q
      rcases Nat.eq_zero_or_pos n with z | z
      · subst z
        have : x ≤ -1 := q.2
        exact absurd (Int32.le_trans q.1 this) (by first | decide | simp)
      · rw [show (1 : Int32) = nI 1 from rfl, pk_sub (by omega)] at q
        obtain ⟨j, hj, e⟩ := nI_of (Int32.not_lt.mpr q.1)
        subst e
        exact hx ⟨j, by have := (nI_leI hj (by omega)).mp q.2; omega, rfl⟩
    refine Ans.thr (e := 2) (b := 0) h (Nat.le_refl B) ?_ (by first | decide | simp) (fun N h7 => ?_)
    · rw [cs]
      unfold f_X11_entry_13
      rw [sq, bnd_some]
      dsimp only
      rw [show M.1 (5, 1, s) 1 = L.1 (5, 1, s) from hC.I rfl, hn2]
      by_cases h1 : x < 0
      · rw [if_pos h1]
      · rw [if_neg h1, if_neg]
        intro q
        obtain ⟨j, hj, e⟩ := nI_of h1
        subst e
        exact hx ⟨j, (nI_ltI hj (by omega)).mp q, rfl⟩
    · rw [ms]
      unfold f_X12_entry_9 f_X12_entry_31
      rw [entries_ hs, bnd_some, e1, iR0 no, bnd_some, if_pos rfl, fz1, bnd_some, if_neg (by first | decide | simp)]
      rfl
theorem A_channel {B t : Nat} {M : Mem} {L V : LM} (h : InX B M t L V) (y x : Int32) : Ans (cd2 2 1) (f_X11_channel y x M) (f_X12_channel y x) M B := by
  have hC := h.2.1
  have hE := h.2.2.2.1.1
  by_cases hy : 0 ≤ y ∧ y ≤ 7
  · by_cases hx : 0 ≤ x ∧ x ≤ 7
    · have FE : ∃ v, f_X11_channel y x M = some (.inl v, M) ∧ EQ (f_X12_channel y x) V V v 0 := by
        unfold EQ f_X11_channel f_X12_channel f_X12_channel_14 f_X12_channel_29
        rw [rq_c1 hy, bndX_l, rq_w1 hx, bndX_l]
        simp only [isC1 hy, iR1 hx, bnd_some, i10, if_false, fz0, if_true]
        obtain ⟨c, hc, rfl⟩ := rng (n := 7) (by first | decide | simp) hy
        have hc8 : c < 8 := by omega
        rw [if_neg (nbad hc8 (by first | decide | simp)), nI_clamp (by omega)]
        by_cases q0 : x = 0
        · refine ⟨_, by rw [if_pos q0, show M.1 (0, 1, c) 0 = L.1 (0, 0, c) from hC.I rfl], fun N h7 => ?_⟩
          rw [if_neg (by rw [q0]; decide), if_pos q0, chan_0, bnd_some, itschan_0 (h7u h7) (by first | decide | simp) hc8, bnd_some, hE.1 (0, 0, c) rfl]
        by_cases q1 : x = 1
        · refine ⟨_, by rw [if_neg q0, if_pos q1, show M.1 (0, 1, c) 1 = L.1 (0, 1, c) from hC.I rfl], fun N h7 => ?_⟩
          rw [if_pos q1, if_neg (of_eq_false (nbv_22 hc8)), setv_22 hc8, hE.1 (0, 1, c) rfl]
        by_cases q2 : x = 2
        · refine ⟨_, by rw [if_neg q0, if_neg q1, if_pos q2, show M.1 (0, 1, c) 2 = L.1 (0, 2, c) from hC.I rfl], fun N h7 => ?_⟩
          rw [if_neg q1, if_neg q0, q2, show (2 : Int32) - 1 = 1 by decide, chan_1, bnd_some, itschan_1 (h7u h7) (by first | decide | simp) hc8, bnd_some, hE.1 (0, 2, c) rfl]
        by_cases q3 : x = 3
        · refine ⟨_, by rw [if_neg q0, if_neg q1, if_neg q2, if_pos q3, show M.1 (0, 1, c) 3 = L.1 (0, 3, c) from hC.I rfl], fun N h7 => ?_⟩
          rw [if_neg q1, if_neg q0, q3, show (3 : Int32) - 1 = 2 by decide, chan_2, bnd_some, itschan_2 (h7u h7) (by first | decide | simp) hc8, bnd_some, hE.1 (0, 3, c) rfl]
        by_cases q4 : x = 4
        · refine ⟨_, by rw [if_neg q0, if_neg q1, if_neg q2, if_neg q3, if_pos q4, show M.1 (0, 1, c) 4 = L.1 (0, 4, c) from hC.I rfl], fun N h7 => ?_⟩
          rw [if_neg q1, if_neg q0, q4, show (4 : Int32) - 1 = 3 by decide, chan_3, bnd_some, itschan_3 (h7u h7) (by first | decide | simp) hc8, bnd_some, hE.1 (0, 4, c) rfl]
        by_cases q5 : x = 5
        · refine ⟨_, by rw [if_neg q0, if_neg q1, if_neg q2, if_neg q3, if_neg q4, if_pos q5, show M.1 (0, 1, c) 5 = L.1 (0, 5, c) from hC.I rfl], fun N h7 => ?_⟩
          rw [if_neg q1, if_neg q0, q5, show (5 : Int32) - 1 = 4 by decide, chan_4, bnd_some, itschan_4 (h7u h7) (by first | decide | simp) hc8, bnd_some, hE.1 (0, 5, c) rfl]
        by_cases q6 : x = 6
        · refine ⟨_, by rw [if_neg q0, if_neg q1, if_neg q2, if_neg q3, if_neg q4, if_neg q5, if_pos q6, show M.1 (0, 1, c) 6 = L.1 (0, 6, c) from hC.I rfl], fun N h7 => ?_⟩
          rw [if_neg q1, if_neg q0, q6, show (6 : Int32) - 1 = 5 by decide, chan_5, bnd_some, itschan_5 (h7u h7) (by first | decide | simp) hc8, bnd_some, hE.1 (0, 6, c) rfl]
        have q7 : x = 7 := last7 hx q0 q1 q2 q3 q4 q5 q6
        refine ⟨_, by rw [if_neg q0, if_neg q1, if_neg q2, if_neg q3, if_neg q4, if_neg q5, if_neg q6, show M.1 (0, 1, c) 7 = L.1 (0, 7, c) from hC.I rfl], fun N h7 => ?_⟩
        rw [if_neg q1, if_neg q0, q7, show (7 : Int32) - 1 = 6 by decide, chan_6, bnd_some, itschan_6 (h7u h7) (by first | decide | simp) hc8, bnd_some, hE.1 (0, 7, c) rfl]
      obtain ⟨v, f, e⟩ := FE
      exact Ans.ro h (Nat.le_refl B) f e
    · refine Ans.thr (e := 1) (b := 0) h (Nat.le_refl B) ?_ (by first | decide | simp) (fun N h7 => ?_)
      · unfold f_X11_channel
        rw [rq_c1 hy, bndX_l, rq_w0 hx, bndX_r]
      · unfold f_X12_channel f_X12_channel_14 f_X12_channel_29
        rw [isC1 hy, bnd_some, if_neg (by first | decide | simp), iR0 hx, bnd_some, if_pos rfl, fz2, bnd_some, if_neg (by first | decide | simp)]
        rfl
  · refine Ans.thr (e := 2) (b := 0) h (Nat.le_refl B) ?_ (by first | decide | simp) (fun N h7 => ?_)
    · unfold f_X11_channel
      rw [rq_c0 hy, bndX_r]
    · unfold f_X12_channel f_X12_channel_14 f_X12_channel_29
      rw [isC0 hy, bnd_some, if_pos rfl, e_inRange, bnd_some]
      by_cases q : 0 ≤ x ∧ x ≤ 7
      · rw [if_pos q, if_neg (by first | decide | simp), fz1, bnd_some, if_neg (by first | decide | simp)]
        rfl
      · rw [if_neg q, if_pos rfl, fz1, bnd_some, if_neg (by first | decide | simp)]
        rfl
theorem A_trigger {B t : Nat} {M : Mem} {L V : LM} (h : InX B M t L V) (y x : Int32) : Ans (cd2 2 1) (f_X11_trigger y x M) (f_X12_trigger y x) M B := by
  have hC := h.2.1
  have hE := h.2.2.2.1.1
  by_cases hy : 0 ≤ y ∧ y ≤ 3
  · by_cases hx : 0 ≤ x ∧ x ≤ 4
    · have FE : ∃ v, f_X11_trigger y x M = some (.inl v, M) ∧ EQ (f_X12_trigger y x) V V v 0 := by
        unfold EQ f_X11_trigger f_X12_trigger f_X12_trigger_14 f_X12_trigger_28
        rw [rq_t1 hy, bndX_l, rq_w1 hx, bndX_l]
        simp only [isT1 hy, iR1 hx, bnd_some, i10, if_false, fz0, if_true]
        obtain ⟨c, hc, rfl⟩ := rng (n := 3) (by first | decide | simp) hy
        have hc8 : c < 4 := by omega
        rw [if_neg (nbad hc8 (by first | decide | simp)), nI_clamp (by omega)]
        by_cases q0 : x = 0
        · refine ⟨_, by rw [if_pos q0, show M.1 (7, 1, c) 0 = L.1 (7, 0, c) from hC.I rfl], fun N h7 => ?_⟩
          rw [if_pos q0, if_neg (of_eq_false (nbv_30 hc8)), setv_30 hc8, hE.1 (7, 0, c) rfl]
        by_cases q1 : x = 1
        · refine ⟨_, by rw [if_neg q0, if_pos q1, show M.1 (7, 1, c) 1 = L.1 (7, 1, c) from hC.I rfl], fun N h7 => ?_⟩
          rw [if_neg q0, if_pos q1, if_neg (of_eq_false (nbv_34 hc8)), setv_34 hc8, hE.1 (7, 1, c) rfl]
        by_cases q2 : x = 2
        · refine ⟨_, by rw [if_neg q0, if_neg q1, if_pos q2, show M.1 (7, 1, c) 2 = L.1 (7, 2, c) from hC.I rfl], fun N h7 => ?_⟩
          rw [if_neg q0, if_neg q1, if_pos q2, if_neg (of_eq_false (nbv_38 hc8)), setv_38 hc8, hE.1 (7, 2, c) rfl]
        by_cases q3 : x = 3
        · refine ⟨_, by rw [if_neg q0, if_neg q1, if_neg q2, if_pos q3, show M.1 (7, 1, c) 3 = L.1 (7, 3, c) from hC.I rfl], fun N h7 => ?_⟩
          rw [if_neg q0, if_neg q1, if_neg q2, q3, show (3 : Int32) - 3 = 0 by decide, trig_0, bnd_some, itstrig_0 (h7u h7) (by first | decide | simp) hc8, bnd_some, hE.1 (7, 3, c) rfl]
        have q4 : x = 4 := last4 hx q0 q1 q2 q3
        refine ⟨_, by rw [if_neg q0, if_neg q1, if_neg q2, if_neg q3, show M.1 (7, 1, c) 4 = L.1 (7, 4, c) from hC.I rfl], fun N h7 => ?_⟩
        rw [if_neg q0, if_neg q1, if_neg q2, q4, show (4 : Int32) - 3 = 1 by decide, trig_1, bnd_some, itstrig_1 (h7u h7) (by first | decide | simp) hc8, bnd_some, hE.1 (7, 4, c) rfl]
      obtain ⟨v, f, e⟩ := FE
      exact Ans.ro h (Nat.le_refl B) f e
    · refine Ans.thr (e := 1) (b := 0) h (Nat.le_refl B) ?_ (by first | decide | simp) (fun N h7 => ?_)
      · unfold f_X11_trigger
        rw [rq_t1 hy, bndX_l, rq_w0 hx, bndX_r]
      · unfold f_X12_trigger f_X12_trigger_14 f_X12_trigger_28
        rw [isT1 hy, bnd_some, if_neg (by first | decide | simp), iR0 hx, bnd_some, if_pos rfl, fz2, bnd_some, if_neg (by first | decide | simp)]
        rfl
  · refine Ans.thr (e := 2) (b := 0) h (Nat.le_refl B) ?_ (by first | decide | simp) (fun N h7 => ?_)
    · unfold f_X11_trigger
      rw [rq_t0 hy, bndX_r]
    · unfold f_X12_trigger f_X12_trigger_14 f_X12_trigger_28
      rw [isT0 hy, bnd_some, if_pos rfl, e_inRange, bnd_some]
      by_cases q : 0 ≤ x ∧ x ≤ 4
      · rw [if_pos q, if_neg (by first | decide | simp), fz1, bnd_some, if_neg (by first | decide | simp)]
        rfl
      · rw [if_neg q, if_pos rfl, fz1, bnd_some, if_neg (by first | decide | simp)]
        rfl
theorem A_window {B t : Nat} {M : Mem} {L V : LM} (h : InX B M t L V) (y x : Int32) : Ans (cd2 2 1) (f_X11_window y x M) (f_X12_window y x) M B := by
  have hC := h.2.1
  have hE := h.2.2.2.1.1
  have hbz : ∀ w, w < 3 → bz (L.1 (8, 0, w)) := fun w hw => (h.2.2.2.1.2.1.2.2.2.2.2.2.2.2.2.2.2.1 w hw).1
  by_cases hy : Wt L y
  · have hyV : Wt V y := (Wt.eqq hE).mpr hy
    by_cases hx : 0 ≤ x ∧ x ≤ 8
    · have FE : ∃ v, f_X11_window y x M = some (.inl v, M) ∧ EQ (f_X12_window y x) V V v 0 := by
        unfold EQ f_X11_window f_X12_window f_X12_window_14 f_X12_window_29
        rw [rq_n1 hC hy, bndX_l, rq_w1 hx, bndX_l]
        simp only [isW1 hyV, iR1 hx, bnd_some, i10, if_false, fz0, if_true]
        obtain ⟨c, hc, rfl⟩ := rng (n := 2) (by first | decide | simp) hy.1
        have hc8 : c < 3 := by omega
        rw [if_neg (nbad hc8 (by first | decide | simp)), nI_clamp (by omega)]
        have em : ∀ N : Mem, N.1 (10, 0, 0) 7 = 0 → bnd (f_X12_win (nI c) 3 (putM 0 0 (uI N (10, 0, 0) 0 0) V)) (fun r4 M5 => bnd (f_X12_its r4 M5) (fun r7 M8 => if r7 = 1 then f_X12_window_56 (nI c) x 1 M8 else f_X12_window_56 (nI c) x 0 M8)) = f_X12_window_56 (nI c) x (L.1 (8, 6, c)) (putM 0 0 (uI N (10, 0, 0) 0 0) V) := by
          intro N h7
          rw [win_3, bnd_some, itswin_3 (h7u h7) (by first | decide | simp) hc8, bnd_some, hE.1 (8, 6, c) rfl]
          rcases h.2.2.2.1.2.2.2.2.2.1 c hc8 with q | q
          · rw [q.1, if_neg (by first | decide | simp)]
          · rw [q.1, if_pos rfl]
        have hw := h.2.2.2.1.2.2.2.2.2.1 c hc8
        have hb6 : bz (L.1 (8, 6, c)) := hw.elim (fun q => Or.inl q.1) (fun q => Or.inr q.1)
        by_cases q0 : x = 0
        · refine ⟨_, by rw [if_pos q0, show M.1 (8, 1, c) 1 = L.1 (8, 1, c) from hC.I rfl], fun N h7 => ?_⟩
          rw [em N h7]
          unfold f_X12_window_56
          rw [if_pos q0, q0, win_0, bnd_some, itswin_0 (h7u h7) (by first | decide | simp) hc8, bnd_some, hE.1 (8, 1, c) rfl]
        by_cases q1 : x = 1
        · refine ⟨_, by rw [if_neg q0, if_pos q1, show M.1 (8, 1, c) 2 = L.1 (8, 2, c) from hC.I rfl], fun N h7 => ?_⟩
          rw [em N h7]
          unfold f_X12_window_56
          rw [if_neg q0, if_pos q1, q1, win_1, bnd_some, itswin_1 (h7u h7) (by first | decide | simp) hc8, bnd_some, hE.1 (8, 2, c) rfl]
        by_cases q2 : x = 2
        · refine ⟨_, by rw [if_neg q0, if_neg q1, if_pos q2, show M.1 (8, 1, c) 3 = L.1 (8, 3, c) from hC.I rfl], fun N h7 => ?_⟩
          rw [em N h7]
          unfold f_X12_window_56
          rw [if_neg q0, if_neg q1, if_pos q2, if_neg (of_eq_false (nbv_42 hc8)), setv_42 hc8, hE.1 (8, 3, c) rfl]
        by_cases q3 : x = 3
        · refine ⟨_, by rw [if_neg q0, if_neg q1, if_neg q2, if_pos q3, show M.1 (8, 1, c) 4 = L.1 (8, 4, c) from hC.I rfl], fun N h7 => ?_⟩
          rw [em N h7]
          unfold f_X12_window_56
          rw [if_neg q0, if_neg q1, if_neg q2, if_pos q3, if_neg (of_eq_false (nbv_45 hc8)), setv_45 hc8, hE.1 (8, 4, c) rfl]
        by_cases q4 : x = 4
        · refine ⟨_, by rw [if_neg q0, if_neg q1, if_neg q2, if_neg q3, if_pos q4, show M.1 (8, 1, c) 5 = L.1 (8, 5, c) from hC.I rfl], fun N h7 => ?_⟩
          rw [em N h7]
          unfold f_X12_window_56
          rw [if_neg q0, if_neg q1, if_neg q2, if_neg q3, if_pos q4, win_2, bnd_some, itswin_2 (h7u h7) (by first | decide | simp) hc8, bnd_some, hE.1 (8, 5, c) rfl]
        by_cases q5 : x = 5
        · refine ⟨_, by rw [if_neg q0, if_neg q1, if_neg q2, if_neg q3, if_neg q4, if_pos q5, show M.1 (8, 1, c) 6 = L.1 (8, 6, c) from hC.I rfl, bzif hb6], fun N h7 => ?_⟩
          rw [em N h7]
          unfold f_X12_window_56
          rw [if_neg q0, if_neg q1, if_neg q2, if_neg q3, if_neg q4, if_pos q5, bzifM hb6]
        by_cases q6 : x = 6
        · refine ⟨_, by rw [if_neg q0, if_neg q1, if_neg q2, if_neg q3, if_neg q4, if_neg q5, if_pos q6, show M.1 (8, 1, c) 7 = L.1 (8, 7, c) from hC.I rfl], fun N h7 => ?_⟩
          rw [em N h7]
          unfold f_X12_window_56
          rw [if_neg q0, if_neg q1, if_neg q2, if_neg q3, if_neg q4, if_neg q5, q6]
          rcases hw with w | w
          · rw [w.1, if_pos rfl, w.2.1]
          · rw [w.1, if_neg (by first | decide | simp), show (4 : Int32) + 6 - 6 = 4 by decide, win_4, bnd_some, itswin_4 (h7u h7) (by first | decide | simp) hc8, bnd_some, w.2.1]
        by_cases q7 : x = 7
        · refine ⟨_, by rw [if_neg q0, if_neg q1, if_neg q2, if_neg q3, if_neg q4, if_neg q5, if_neg q6, if_pos q7, show M.1 (8, 1, c) 8 = L.1 (8, 8, c) from hC.I rfl], fun N h7 => ?_⟩
          rw [em N h7]
          unfold f_X12_window_56
          rw [if_neg q0, if_neg q1, if_neg q2, if_neg q3, if_neg q4, if_neg q5, q7]
          rcases hw with w | w
          · rw [w.1, if_pos rfl, w.2.2.1]
          · rw [w.1, if_neg (by first | decide | simp), show (4 : Int32) + 7 - 6 = 5 by decide, win_5, bnd_some, itswin_5 (h7u h7) (by first | decide | simp) hc8, bnd_some, w.2.2.1]
        have q8 : x = 8 := last8 hx q0 q1 q2 q3 q4 q5 q6 q7
        refine ⟨_, by rw [if_neg q0, if_neg q1, if_neg q2, if_neg q3, if_neg q4, if_neg q5, if_neg q6, if_neg q7, show M.1 (8, 1, c) 9 = L.1 (8, 9, c) from hC.I rfl], fun N h7 => ?_⟩
        rw [em N h7]
        unfold f_X12_window_56
        rw [if_neg q0, if_neg q1, if_neg q2, if_neg q3, if_neg q4, if_neg q5, q8]
        rcases hw with w | w
        · rw [w.1, if_pos rfl, w.2.2.2]
        · rw [w.1, if_neg (by first | decide | simp), show (4 : Int32) + 8 - 6 = 6 by decide, win_6, bnd_some, itswin_6 (h7u h7) (by first | decide | simp) hc8, bnd_some, w.2.2.2]
      obtain ⟨v, f, e⟩ := FE
      exact Ans.ro h (Nat.le_refl B) f e
    · refine Ans.thr (e := 1) (b := 0) h (Nat.le_refl B) ?_ (by first | decide | simp) (fun N h7 => ?_)
      · unfold f_X11_window
        rw [rq_n1 hC hy, bndX_l, rq_w0 hx, bndX_r]
      · unfold f_X12_window f_X12_window_14 f_X12_window_29
        rw [isW1 hyV, bnd_some, if_neg (by first | decide | simp), iR0 hx, bnd_some, if_pos rfl, fz2, bnd_some, if_neg (by first | decide | simp)]
        rfl
  · refine Ans.thr (e := 2) (b := 0) h (Nat.le_refl B) ?_ (by first | decide | simp) (fun N h7 => ?_)
    · unfold f_X11_window
      rw [rq_n0 hC hbz hy, bndX_r]
    · unfold f_X12_window f_X12_window_14 f_X12_window_29
      rw [isW0 (fun q => hy ((Wt.eqq hE).mp q)), bnd_some, if_pos rfl, e_inRange, bnd_some]
      by_cases q : 0 ≤ x ∧ x ≤ 8
      · rw [if_pos q, if_neg (by first | decide | simp), fz1, bnd_some, if_neg (by first | decide | simp)]
        rfl
      · rw [if_neg q, if_pos rfl, fz1, bnd_some, if_neg (by first | decide | simp)]
        rfl
theorem A_signal {B t : Nat} {M : Mem} {L V : LM} (h : InX B M t L V) (y x : Int32) : Ans (cd2 2 1) (f_X11_signal y x M) (f_X12_signal y x) M B := by
  have hC := h.2.1
  have hE := h.2.2.2.1.1
  by_cases hy : 0 ≤ y ∧ y ≤ 7
  · by_cases hx : 0 ≤ x
    · obtain ⟨c, hc, rfl⟩ := rng (n := 7) (by first | decide | simp) hy
      have hc8 : c < 8 := by omega
      obtain ⟨q, q1, q2, q3⟩ := h.2.2.2.1.2.1.2.2.2.2.2.2.2.2.2.2.2.2.1 c hc8
      refine Ans.ro (v := sigV (L.1 (0, 2, c)) (L.1 (0, 3, c)) (L.1 (0, 4, c)) x) h (Nat.le_refl B) ?_ (fun N h7 => ?_)
      · unfold f_X11_signal
        rw [rq_c1 hy, bndX_l, if_pos hx, if_neg (nbad hc8 (by first | decide | simp)), nI_clamp (by omega)]
        have e := h_X1_signalAt (c := 1) (M := M) (j0 := c) (x1 := x) (L := L)
        rw [show putC 1 M L = M from hC, N_sig (by rw [q3]; exact nI_nle q1 (by omega)), mg_some, show putC 1 M L = M from hC] at e
        rw [e, bnd_some]
      · unfold f_X12_signal f_X12_signal_14 f_X12_signal_23
        rw [isC1 hy, bnd_some, if_neg (by first | decide | simp), if_pos hx, fz0, bnd_some, if_pos rfl, M_signal (h7u h7) (by first | decide | simp) hc8 (by rw [hE.1 _ rfl, q3]; exact nI_ne0 q1 (by omega)), bnd_some, hE.1 (0, 2, c) rfl, hE.1 (0, 3, c) rfl, hE.1 (0, 4, c) rfl]
    · refine Ans.thr (e := 1) (b := 0) h (Nat.le_refl B) ?_ (by first | decide | simp) (fun N h7 => ?_)
      · unfold f_X11_signal
        rw [rq_c1 hy, bndX_l, if_neg hx]
      · unfold f_X12_signal f_X12_signal_14 f_X12_signal_23
        rw [isC1 hy, bnd_some, if_neg (by first | decide | simp), if_neg hx, fz2, bnd_some, if_neg (by first | decide | simp)]
        rfl
  · refine Ans.thr (e := 2) (b := 0) h (Nat.le_refl B) ?_ (by first | decide | simp) (fun N h7 => ?_)
    · unfold f_X11_signal
      rw [rq_c0 hy, bndX_r]
    · unfold f_X12_signal f_X12_signal_14 f_X12_signal_23
      rw [isC0 hy, bnd_some, if_pos rfl]
      by_cases q : 0 ≤ x
      · rw [if_pos q, fz1, bnd_some, if_neg (by first | decide | simp)]
        rfl
      · rw [if_neg q, fz1, bnd_some, if_neg (by first | decide | simp)]
        rfl
