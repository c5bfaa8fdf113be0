/-! ===== calls that only read ===== -/
def cd1 (a : Nat) : Nat → Int32 := fun e => if e = a then 1 else 0
def cd2 (a b : Nat) : Nat → Int32 := fun e => if e = a then 1 else if e = b then 2 else 0
def cd3 (a b c : Nat) : Nat → Int32 := fun e => if e = a then 1 else if e = b then 2 else if e = c then 3 else 0
theorem A_state {B t : Nat} {M : Mem} {L V : LM} (h : InX B M t L V) (x : Int32) : Ans (cd1 1) (f_X11_state x M) (f_X12_state x) M B := by
  have hC := h.2.1
  have hE := h.2.2.2.1.1
  by_cases hx : 0 ≤ x ∧ x ≤ 10
  · have FE : ∃ v, f_X11_state x M = some (.inl v, M) ∧ EQ (f_X12_state x) V V v 0 := by
      unfold EQ f_X11_state f_X11_state_26 f_X12_state f_X12_state_16
      rw [rq_w1 hx, bndX_l, show M.1 (1, 1, 0) 0 = L.1 (1, 0, 0) from hC.I rfl]
      have c0V : V.1 (1, 0, 0) = L.1 (1, 0, 0) := hE.1 _ rfl
      by_cases c0 : L.1 (1, 0, 0) = 0
      · rw [if_pos c0]
        by_cases q0 : x = 0
        · refine ⟨_, by rw [if_pos q0, show M.1 (2, 1, 0) 15 = L.1 (2, 15, 0) from hC.I rfl], fun N h7 => ?_⟩
          rw [iR1 hx, bnd_some, if_neg (by first | decide | simp), fz0, bnd_some, if_pos rfl, if_pos q0, its_0 (h7u h7) (by first | decide | simp), bnd_some, hE.1 (2, 15, 0) rfl]
        by_cases q1 : x = 1
        · refine ⟨_, by rw [if_neg q0, if_pos q1], fun N h7 => ?_⟩
          rw [iR1 hx, bnd_some, if_neg (by first | decide | simp), fz0, bnd_some, if_pos rfl, if_neg q0, if_pos q1, its_1 (h7u h7) (by first | decide | simp), bnd_some, hE.1 (1, 0, 0) rfl]
        by_cases q2 : x = 2
        · refine ⟨_, by rw [if_neg q0, if_neg q1, if_pos q2, if_pos rfl], fun N h7 => ?_⟩
          rw [iR1 hx, bnd_some, if_neg (by first | decide | simp), fz0, bnd_some, if_pos rfl, if_neg q0, if_neg q1, if_pos q2, its_1 (h7u h7) (by first | decide | simp), bnd_some, c0V, if_pos c0]
        by_cases q3 : x = 3
        · refine ⟨_, by rw [if_neg q0, if_neg q1, if_neg q2, if_pos q3, if_pos rfl], fun N h7 => ?_⟩
          rw [iR1 hx, bnd_some, if_neg (by first | decide | simp), fz0, bnd_some, if_pos rfl, if_neg q0, if_neg q1, if_neg q2, if_pos q3, its_1 (h7u h7) (by first | decide | simp), bnd_some, c0V, if_pos c0]
        by_cases q4 : x = 4
        · refine ⟨_, by rw [if_neg q0, if_neg q1, if_neg q2, if_neg q3, if_pos q4, show M.1 (1, 1, 0) 4 = L.1 (1, 4, 0) from hC.I rfl], fun N h7 => ?_⟩
          rw [iR1 hx, bnd_some, if_neg (by first | decide | simp), fz0, bnd_some, if_pos rfl, if_neg q0, if_neg q1, if_neg q2, if_neg q3, if_pos q4, its_6 (h7u h7) (by first | decide | simp), bnd_some, hE.1 (1, 4, 0) rfl]
        by_cases q5 : x = 5
        · refine ⟨_, by rw [if_neg q0, if_neg q1, if_neg q2, if_neg q3, if_neg q4, if_pos q5, show M.1 (1, 1, 0) 5 = L.1 (1, 5, 0) from hC.I rfl], fun N h7 => ?_⟩
          rw [iR1 hx, bnd_some, if_neg (by first | decide | simp), fz0, bnd_some, if_pos rfl, if_neg q0, if_neg q1, if_neg q2, if_neg q3, if_neg q4, if_pos q5, its_7 (h7u h7) (by first | decide | simp), bnd_some, hE.1 (1, 5, 0) rfl]
        by_cases q6 : x = 6
        · refine ⟨_, by rw [if_neg q0, if_neg q1, if_neg q2, if_neg q3, if_neg q4, if_neg q5, if_pos q6, show M.1 (4, 1, 0) 6 = L.1 (4, 6, 0) from hC.I rfl], fun N h7 => ?_⟩
          rw [iR1 hx, bnd_some, if_neg (by first | decide | simp), fz0, bnd_some, if_pos rfl, if_neg q0, if_neg q1, if_neg q2, if_neg q3, if_neg q4, if_neg q5, if_pos q6, its_8 (h7u h7) (by first | decide | simp), bnd_some, hE.1 (4, 6, 0) rfl]
        by_cases q7 : x = 7
        · refine ⟨_, by rw [if_neg q0, if_neg q1, if_neg q2, if_neg q3, if_neg q4, if_neg q5, if_neg q6, if_pos q7, show M.1 (2, 1, 0) 16 = L.1 (2, 16, 0) from hC.I rfl], fun N h7 => ?_⟩
          rw [iR1 hx, bnd_some, if_neg (by first | decide | simp), fz0, bnd_some, if_pos rfl, if_neg q0, if_neg q1, if_neg q2, if_neg q3, if_neg q4, if_neg q5, if_neg q6, if_pos q7, its_9 (h7u h7) (by first | decide | simp), bnd_some, hE.1 (2, 16, 0) rfl]
        by_cases q8 : x = 8
        · refine ⟨_, by rw [if_neg q0, if_neg q1, if_neg q2, if_neg q3, if_neg q4, if_neg q5, if_neg q6, if_neg q7, if_pos q8, show M.1 (2, 1, 0) 14 = L.1 (2, 14, 0) from hC.I rfl], fun N h7 => ?_⟩
          rw [iR1 hx, bnd_some, if_neg (by first | decide | simp), fz0, bnd_some, if_pos rfl, if_neg q0, if_neg q1, if_neg q2, if_neg q3, if_neg q4, if_neg q5, if_neg q6, if_neg q7, if_pos q8, its_10 (h7u h7) (by first | decide | simp), bnd_some, hE.1 (2, 14, 0) rfl]
        by_cases q9 : x = 9
        · refine ⟨_, by rw [if_neg q0, if_neg q1, if_neg q2, if_neg q3, if_neg q4, if_neg q5, if_neg q6, if_neg q7, if_neg q8, if_pos q9, show M.1 (4, 1, 0) 5 = L.1 (4, 5, 0) from hC.I rfl], fun N h7 => ?_⟩
          rw [iR1 hx, bnd_some, if_neg (by first | decide | simp), fz0, bnd_some, if_pos rfl, if_neg q0, if_neg q1, if_neg q2, if_neg q3, if_neg q4, if_neg q5, if_neg q6, if_neg q7, if_neg q8, if_pos q9, its_11 (h7u h7) (by first | decide | simp), bnd_some, hE.1 (4, 5, 0) rfl]
        · refine ⟨_, by rw [if_neg q0, if_neg q1, if_neg q2, if_neg q3, if_neg q4, if_neg q5, if_neg q6, if_neg q7, if_neg q8, if_neg q9, show M.1 (4, 1, 0) 2 = L.1 (4, 2, 0) from hC.I rfl], fun N h7 => ?_⟩
          rw [iR1 hx, bnd_some, if_neg (by first | decide | simp), fz0, bnd_some, if_pos rfl, if_neg q0, if_neg q1, if_neg q2, if_neg q3, if_neg q4, if_neg q5, if_neg q6, if_neg q7, if_neg q8, if_neg q9, if_neg (of_eq_false nb_8), set_8, hE.1 (4, 2, 0) rfl]
      · rw [if_neg c0]
        by_cases q0 : x = 0
        · refine ⟨_, by rw [if_pos q0, show M.1 (2, 1, 0) 15 = L.1 (2, 15, 0) from hC.I rfl], fun N h7 => ?_⟩
          rw [iR1 hx, bnd_some, if_neg (by first | decide | simp), fz0, bnd_some, if_pos rfl, if_pos q0, its_0 (h7u h7) (by first | decide | simp), bnd_some, hE.1 (2, 15, 0) rfl]
        by_cases q1 : x = 1
        · refine ⟨_, by rw [if_neg q0, if_pos q1], fun N h7 => ?_⟩
          rw [iR1 hx, bnd_some, if_neg (by first | decide | simp), fz0, bnd_some, if_pos rfl, if_neg q0, if_pos q1, its_1 (h7u h7) (by first | decide | simp), bnd_some, hE.1 (1, 0, 0) rfl]
        by_cases q2 : x = 2
        · refine ⟨_, by rw [if_neg q0, if_neg q1, if_pos q2, if_neg (by first | decide | simp), show M.1 (1, 1, 0) 1 = L.1 (1, 1, 0) from hC.I rfl], fun N h7 => ?_⟩
          rw [iR1 hx, bnd_some, if_neg (by first | decide | simp), fz0, bnd_some, if_pos rfl, if_neg q0, if_neg q1, if_pos q2, its_1 (h7u h7) (by first | decide | simp), bnd_some, c0V, if_neg c0, its_2 (h7u h7) (by first | decide | simp), bnd_some, hE.1 (1, 1, 0) rfl]
        by_cases q3 : x = 3
        · refine ⟨_, by rw [if_neg q0, if_neg q1, if_neg q2, if_pos q3, if_neg (by first | decide | simp), show M.1 (1, 1, 0) 2 = L.1 (1, 2, 0) from hC.I rfl], fun N h7 => ?_⟩
          rw [iR1 hx, bnd_some, if_neg (by first | decide | simp), fz0, bnd_some, if_pos rfl, if_neg q0, if_neg q1, if_neg q2, if_pos q3, its_1 (h7u h7) (by first | decide | simp), bnd_some, c0V, if_neg c0, its_3 (h7u h7) (by first | decide | simp), bnd_some, hE.1 (1, 2, 0) rfl]
        by_cases q4 : x = 4
        · refine ⟨_, by rw [if_neg q0, if_neg q1, if_neg q2, if_neg q3, if_pos q4, show M.1 (1, 1, 0) 4 = L.1 (1, 4, 0) from hC.I rfl], fun N h7 => ?_⟩
          rw [iR1 hx, bnd_some, if_neg (by first | decide | simp), fz0, bnd_some, if_pos rfl, if_neg q0, if_neg q1, if_neg q2, if_neg q3, if_pos q4, its_6 (h7u h7) (by first | decide | simp), bnd_some, hE.1 (1, 4, 0) rfl]
        by_cases q5 : x = 5
        · refine ⟨_, by rw [if_neg q0, if_neg q1, if_neg q2, if_neg q3, if_neg q4, if_pos q5, show M.1 (1, 1, 0) 5 = L.1 (1, 5, 0) from hC.I rfl], fun N h7 => ?_⟩
          rw [iR1 hx, bnd_some, if_neg (by first | decide | simp), fz0, bnd_some, if_pos rfl, if_neg q0, if_neg q1, if_neg q2, if_neg q3, if_neg q4, if_pos q5, its_7 (h7u h7) (by first | decide | simp), bnd_some, hE.1 (1, 5, 0) rfl]
        by_cases q6 : x = 6
        · refine ⟨_, by rw [if_neg q0, if_neg q1, if_neg q2, if_neg q3, if_neg q4, if_neg q5, if_pos q6, show M.1 (4, 1, 0) 6 = L.1 (4, 6, 0) from hC.I rfl], fun N h7 => ?_⟩
          rw [iR1 hx, bnd_some, if_neg (by first | decide | simp), fz0, bnd_some, if_pos rfl, if_neg q0, if_neg q1, if_neg q2, if_neg q3, if_neg q4, if_neg q5, if_pos q6, its_8 (h7u h7) (by first | decide | simp), bnd_some, hE.1 (4, 6, 0) rfl]
        by_cases q7 : x = 7
        · refine ⟨_, by rw [if_neg q0, if_neg q1, if_neg q2, if_neg q3, if_neg q4, if_neg q5, if_neg q6, if_pos q7, show M.1 (2, 1, 0) 16 = L.1 (2, 16, 0) from hC.I rfl], fun N h7 => ?_⟩
          rw [iR1 hx, bnd_some, if_neg (by first | decide | simp), fz0, bnd_some, if_pos rfl, if_neg q0, if_neg q1, if_neg q2, if_neg q3, if_neg q4, if_neg q5, if_neg q6, if_pos q7, its_9 (h7u h7) (by first | decide | simp), bnd_some, hE.1 (2, 16, 0) rfl]
        by_cases q8 : x = 8
        · refine ⟨_, by rw [if_neg q0, if_neg q1, if_neg q2, if_neg q3, if_neg q4, if_neg q5, if_neg q6, if_neg q7, if_pos q8, show M.1 (2, 1, 0) 14 = L.1 (2, 14, 0) from hC.I rfl], fun N h7 => ?_⟩
          rw [iR1 hx, bnd_some, if_neg (by first | decide | simp), fz0, bnd_some, if_pos rfl, if_neg q0, if_neg q1, if_neg q2, if_neg q3, if_neg q4, if_neg q5, if_neg q6, if_neg q7, if_pos q8, its_10 (h7u h7) (by first | decide | simp), bnd_some, hE.1 (2, 14, 0) rfl]
        by_cases q9 : x = 9
        · refine ⟨_, by rw [if_neg q0, if_neg q1, if_neg q2, if_neg q3, if_neg q4, if_neg q5, if_neg q6, if_neg q7, if_neg q8, if_pos q9, show M.1 (4, 1, 0) 5 = L.1 (4, 5, 0) from hC.I rfl], fun N h7 => ?_⟩
          rw [iR1 hx, bnd_some, if_neg (by first | decide | simp), fz0, bnd_some, if_pos rfl, if_neg q0, if_neg q1, if_neg q2, if_neg q3, if_neg q4, if_neg q5, if_neg q6, if_neg q7, if_neg q8, if_pos q9, its_11 (h7u h7) (by first | decide | simp), bnd_some, hE.1 (4, 5, 0) rfl]
        · refine ⟨_, by rw [if_neg q0, if_neg q1, if_neg q2, if_neg q3, if_neg q4, if_neg q5, if_neg q6, if_neg q7, if_neg q8, if_neg q9, show M.1 (4, 1, 0) 2 = L.1 (4, 2, 0) from hC.I rfl], fun N h7 => ?_⟩
          rw [iR1 hx, bnd_some, if_neg (by first | decide | simp), fz0, bnd_some, if_pos rfl, if_neg q0, if_neg q1, if_neg q2, if_neg q3, if_neg q4, if_neg q5, if_neg q6, if_neg q7, if_neg q8, if_neg q9, if_neg (of_eq_false nb_8), set_8, hE.1 (4, 2, 0) rfl]
    obtain ⟨v, f, e⟩ := FE
    exact Ans.ro h (Nat.le_refl B) f e
  · refine Ans.thr (e := 1) (b := 0) h (Nat.le_refl B) ?_ (by first | decide | simp) (fun N h7 => ?_)
    · unfold f_X11_state
      rw [rq_w0 hx, bndX_r]
    · unfold f_X12_state f_X12_state_16
      rw [iR0 hx, bnd_some, if_pos rfl, fz1, bnd_some, if_neg (by first | decide | simp)]
      rfl
