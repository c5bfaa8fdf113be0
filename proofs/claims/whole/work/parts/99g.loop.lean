/-! ===== the text, statement by statement ===== -/
theorem TS.le {len p k w : Nat} {M N : Mem} (h : TS len p k w M N) : p ≤ len ∧ len ≤ 900 := by
  obtain ⟨hs, ⟨s, ht⟩, h16⟩ := h
  exact ⟨ht.2.1, hs.1⟩
theorem PL {len : Nat} : ∀ (n m i p k w : Nat) (M N : Mem) (L V : LM), PT len p k w M N L V → 1 ≤ n → n ≤ m → (k = 0 ∨ (len + 2 ≤ n + p ∧ i < p)) → i ≤ len →
    ∃ M' N' j, FC M M' ∧ FM N N' ∧ j ≤ len ∧ ((f_X4_parse_52 n (nI i) (nI i) M = some (nI j, M') ∧ f_X12_setup_112 m (nI i) N = f_X12_setup_136 (nI j) N' ∧ ∃ p' w' L' V', PT len p' 0 w' M' N' L' V') ∨ (f_X4_parse_52 n (nI i) (nI i) M = some (-1, M') ∧ (∃ x, f_X12_setup_112 m (nI i) N = f_X12_setup_136 x N') ∧ Fb M' N')) := by
  intro n
  induction n with
  | zero => intro m i p k w M N L V h h1; omega
  | succ n ih =>
    intro m i p k w M N L V h h1 hm hk hi
    obtain ⟨m, rfl⟩ : ∃ q, m = q + 1 := ⟨m - 1, by omega⟩
    obtain ⟨k1, k2, k3⟩ := h.1.k
    obtain ⟨hp, hl⟩ := h.1.le
    have kl : M.1 (6, 0, 0) 1 = nI len := h.1.1.2.1
    have ec : ∀ X, f_X4_parse_52 (n + 1) (nI i) (nI i) X = _ := fun X => Eq.trans (by unfold f_X4_parse_52; exact rfl) rfl
    have em : ∀ x X, f_X12_setup_112 (m + 1) x X = _ := fun x X => Eq.trans (by unfold f_X12_setup_112; exact rfl) rfl
    by_cases z : k = 0
    · subst z
      refine ⟨M, N, i, FC.refl M, FM.refl N, hi, Or.inl ⟨?_, ?_, p, w, L, V, h⟩⟩
      · rw [ec, kl]
        by_cases y : nI len ≤ nI i
        · rw [if_pos y]
        · rw [if_neg y, k1, if_pos (by first | decide | simp)]
      · rw [em, ok1 h.1.2.2, bnd_some, if_neg (by first | decide | simp), k2, if_pos (by first | decide | simp)]
    · obtain ⟨hk1, hk2⟩ := hk.resolve_left z
      have zk : ¬ nI k = 0 := fun y => z (nIi (b := 0) y (by omega) (by first | decide | simp))
      obtain ⟨M1, N1, s1, s2, s3, s4⟩ := B_stm h
      have e1 : ¬ nI len ≤ nI i := nI_ge (by omega) (by omega)
      rcases s4 with ⟨M2, c1, c2, p', k', w', L', V', hP, hpp, hkk⟩ | ⟨c, fb⟩
      · obtain ⟨M3, N3, j, g1, g2, g3, g4⟩ := ih m (i + 1) p' k' w' M1 N1 L' V' hP (by omega) (by omega) (hkk.imp id (fun y => ⟨by omega, by omega⟩)) (by omega)
        have e5 : f_X4_parse_52 (n + 1) (nI i) (nI i) M = f_X4_parse_52 n (nI (i + 1)) (nI (i + 1)) M1 := by
          rw [ec, kl, if_neg e1, k1, if_neg zk, c1, bnd_some, if_neg (by first | decide | simp), c2, bnd_some, if_neg (by first | decide | simp)]
          dsimp only [nm]
          rw [nI_1]
        have e6 : f_X12_setup_112 (m + 1) (nI i) N = f_X12_setup_112 m (nI (i + 1)) N1 := by
          rw [em, ok1 h.1.2.2, bnd_some, if_neg (by first | decide | simp), k2, if_neg zk, s1, bnd_some]
          dsimp only [nm]
          rw [nI_1]
        refine ⟨M3, N3, j, s2.trans g1, s3.trans g2, g3, ?_⟩
        rw [e5, e6]
        exact g4
      · obtain ⟨m, rfl⟩ : ∃ q, m = q + 1 := ⟨m - 1, by omega⟩
        refine ⟨M1, N1, 0, s2, s3, Nat.zero_le _, Or.inr ⟨?_, ⟨nI (i + 1), ?_⟩, fb⟩⟩
        · rw [ec, kl, if_neg e1, k1, if_neg zk]
          rcases c with c | ⟨M2, c1, c2⟩
          · rw [c, bnd_some, if_pos rfl]
          · rw [c1, bnd_some, if_neg (by first | decide | simp), c2, bnd_some, if_pos rfl]
        · rw [em, ok1 h.1.2.2, bnd_some, if_neg (by first | decide | simp), k2, if_neg zk, s1, bnd_some]
          dsimp only [nm]
          rw [nI_1, show ∀ x X, f_X12_setup_112 (m + 1) x X = _ from fun x X => Eq.trans (by unfold f_X12_setup_112; exact rfl) rfl, ok0 fb.2.2, bnd_some, if_pos rfl]
