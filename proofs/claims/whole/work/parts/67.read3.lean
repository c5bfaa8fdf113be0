/-! ===== results in queue and memory, the injected ones; numbers that don't throw ===== -/
theorem noR {x : Int32} {z : Nat} (hz : z < 2 ^ 31) (hx : ¬ ∃ j : Nat, j < z ∧ x = nI j) : ¬ (0 ≤ x ∧ x ≤ nI z - 1) := by
  intro q
  rcases Nat.eq_zero_or_pos z with e | e
  · subst e
    have : x ≤ -1 := q.2
    exact absurd (Int32.le_trans q.1 this) (by first | decide | simp)
  · rw [show (1 : Int32) = nI 1 from rfl, pk_sub (by omega)] at q
    obtain ⟨j, hj, e⟩ := nI_of (Int32.not_lt.mpr q.1)
    subst e
    exact hx ⟨j, by have := (nI_leI hj (by omega)).mp q.2; omega, rfl⟩
theorem yesR {j z : Nat} (hj : j < z) (hz : z < 2 ^ 31) : 0 ≤ nI j ∧ nI j ≤ nI z - 1 := by
  rw [show (1 : Int32) = nI 1 from rfl, pk_sub (by omega)]
  exact ⟨nI_pos' (by omega), nI_le (by omega) (by omega)⟩
theorem noL {x : Int32} {z : Nat} (hz : z < 2 ^ 31) (hx : ¬ ∃ j : Nat, j < z ∧ x = nI j) (h1 : ¬ x < 0) : ¬ x < nI z := by
  intro q
  obtain ⟨j, hj, e⟩ := nI_of h1
  subst e
  exact hx ⟨j, (nI_ltI hj hz).mp q, rfl⟩
theorem A_ring {B t j b : Nat} {M : Mem} {L V : LM} {x y : Int32} {G : Mem → Option ((Int32 ⊕ Nat) × Mem)} {E : Mem → Option (Int32 × Mem)} (h : InX B M t L V) (hj : j < 2)
    (hG : G M = bndX (f_X11_numberOf 1 j x y M) (fun r1 M2 => some (.inl r1, M2)))
    (hE1 : ∀ N, N.1 (10, 0, 0) 7 = 0 → ∀ i k, i < rk j → k < 4 → nI i < V.1 (4, 5, j) → x = nI i → y = nI k → E (putM 0 0 N V) = some (V.1 (21, 4 * i + k, j), putM 0 0 (uI N (10, 0, 0) 0 0) V))
    (hE2 : ∀ N, N.1 (10, 0, 0) 7 = 0 → (0 ≤ x ∧ x ≤ V.1 (4, 5, j) - 1) → ¬ (0 ≤ y ∧ y ≤ 3) → E (putM 0 0 N V) = some (0, putM 0 0 (uI N (10, 0, 0) 0 2) V))
    (hE3 : ∀ N, N.1 (10, 0, 0) 7 = 0 → ¬ (0 ≤ x ∧ x ≤ V.1 (4, 5, j) - 1) → E (putM 0 0 N V) = some (0, putM 0 0 (uI N (10, 0, 0) 0 1) V)) : Ans (cd2 3 1) (G M) E M B := by
  have hC := h.2.1
  have hE := h.2.2.2.1.1
  have hm : MkC L := h.2.2.2.1.2.1.2.2.2.2.2.2.2.2.2.2.2.2.2.1
  have hr : Rg j L V := by
    rcases (show j = 0 ∨ j = 1 by omega) with rfl | rfl
    · exact h.2.2.2.1.2.2.2.2.2.2.2.1
    · exact h.2.2.2.1.2.2.2.2.2.2.2.2
  obtain ⟨z, o, c, z1, z2, z3, z4, z5, z6, z7, z8⟩ := hr
  have r64 := (rk_pos (j := j)).2
  have ez : V.1 (4, 5, j) = nI z := by rw [hE.1 _ (by rcases (show j = 0 ∨ j = 1 by omega) with rfl | rfl <;> rfl), z1]
  rw [ez] at hE1 hE2 hE3
  have cz : M.1 (4, 1, j) 5 = nI z := by rw [hC.I rfl, z1]
  by_cases hx : ∃ i : Nat, i < z ∧ x = nI i
  · obtain ⟨i, hi, rfl⟩ := hx
    by_cases hy : 0 ≤ y ∧ y ≤ 3
    · obtain ⟨k, hk, rfl⟩ := rng (n := 3) (by first | decide | simp) hy
      refine Ans.ro h (Nat.le_refl B) (v := L.1 (21, 4 * ((o + i) % rk j) + k, j)) ?_ (fun N h7 => ?_)
      · rw [hG]
        unfold f_X11_numberOf
        rw [if_neg (nI_pos (by omega)), cz, if_pos (nI_lt hi (by omega)), rq_w1 hy, bndX_l, show M.1 (4, 1, j) 4 = nI o by rw [hC.I rfl, z2], nI_add]
        have e := h_X5_number (c := 1) (M := M) (j0 := j) (x1 := nI (o + i)) (x2 := nI k) (L := L)
        rw [show putC 1 M L = M from hC, N_num (hm j (by omega)) (by omega) (by omega), mg_some, show putC 1 M L = M from hC] at e
        rw [e, bnd_some, bndX_l]
      · rw [hE1 N h7 i k (by omega) (by omega) (nI_lt hi (by omega)) rfl rfl, z8 i k hi (by omega)]
    · refine Ans.thr (e := 1) (b := 0) h (Nat.le_refl B) ?_ (by first | decide | simp) (fun N h7 => hE2 N h7 (yesR hi (by omega)) hy)
      rw [hG]
      unfold f_X11_numberOf
      rw [if_neg (nI_pos (by omega)), cz, if_pos (nI_lt hi (by omega)), rq_w0 hy, bndX_r, bndX_r]
  · refine Ans.thr (e := 3) (b := 0) h (Nat.le_refl B) ?_ (by first | decide | simp) (fun N h7 => hE3 N h7 (noR (by omega) hx))
    rw [hG]
    unfold f_X11_numberOf
    by_cases h1 : x < 0
    · rw [if_pos h1, bndX_r]
    · rw [if_neg h1, cz, if_neg (noL (by omega) hx h1), bndX_r]
theorem ix4a {b i k : Nat} : nI b + 4 * nI i + nI k = nI (b + (4 * i + k)) := ix4k
theorem A_queued {B t : Nat} {M : Mem} {L V : LM} (h : InX B M t L V) (x y : Int32) : Ans (cd2 3 1) (f_X11_queued x y M) (f_X12_queued x y) M B := by
  refine A_ring (G := fun M => f_X11_queued x y M) (j := 0) (b := 0) h (by first | decide | simp) rfl (fun N h7 i k hi hk hl ex ey => ?_) (fun N h7 hx hy => ?_) (fun N h7 hx => ?_)
  · have r16 : rk 0 = 16 := rfl
    obtain ⟨z, o, c, z1, z2, z3, z4, z5, z6, z7, z8⟩ := h.2.2.2.1.2.2.2.2.2.2.2.1
    have ez : V.1 (4, 5, 0) = nI z := by rw [h.2.2.2.1.1.1 _ rfl, z1]
    subst ex ey
    unfold f_X12_queued f_X12_queued_22 f_X12_queued_36
    rw [its_11 (by exact h7) (by first | decide | simp), bnd_some, ez, iR1 (yesR ((nI_ltI (by omega) (by omega)).mp (by rw [ez] at hl; exact hl)) (by omega)), bnd_some, if_neg (by first | decide | simp), iR1 (show 0 ≤ nI k ∧ nI k ≤ (3 : Int32) from ⟨nI_pos' (by omega), nI_le (b := 3) (by omega) (by first | decide | simp)⟩), bnd_some, if_neg (by first | decide | simp), fz0, bnd_some, if_pos rfl, show (152 : Int32) + 4 * nI i + nI k = nI (152 + (4 * i + k)) from ix4k, i_its (h7u h7) (by first | decide | simp) (by omega) (cA_qu (by omega)), bnd_some]
  · unfold f_X12_queued f_X12_queued_22 f_X12_queued_36
    rw [its_11 (by exact h7) (by first | decide | simp), bnd_some, iR1 hx, bnd_some, if_neg (by first | decide | simp), iR0 hy, bnd_some, if_pos rfl, fz2, bnd_some, if_neg (by first | decide | simp)]
  · unfold f_X12_queued f_X12_queued_22 f_X12_queued_36
    rw [its_11 (by exact h7) (by first | decide | simp), bnd_some, iR0 hx, bnd_some, if_pos rfl, e_inRange, bnd_some]
    by_cases q : 0 ≤ y ∧ y ≤ 3
    · rw [if_pos q, if_neg (by first | decide | simp), fz1, bnd_some, if_neg (by first | decide | simp)]
    · rw [if_neg q, if_pos rfl, fz1, bnd_some, if_neg (by first | decide | simp)]
theorem A_stored {B t : Nat} {M : Mem} {L V : LM} (h : InX B M t L V) (x y : Int32) : Ans (cd2 3 1) (f_X11_stored x y M) (f_X12_stored x y) M B := by
  refine A_ring (G := fun M => f_X11_stored x y M) (j := 1) (b := 0) h (by first | decide | simp) rfl (fun N h7 i k hi hk hl ex ey => ?_) (fun N h7 hx hy => ?_) (fun N h7 hx => ?_)
  · have r16 : rk 1 = 64 := rfl
    obtain ⟨z, o, c, z1, z2, z3, z4, z5, z6, z7, z8⟩ := h.2.2.2.1.2.2.2.2.2.2.2.2
    have ez : V.1 (4, 5, 1) = nI z := by rw [h.2.2.2.1.1.1 _ rfl, z1]
    subst ex ey
    unfold f_X12_stored f_X12_stored_22 f_X12_stored_36
    rw [its_12 (by exact h7) (by first | decide | simp), bnd_some, ez, iR1 (yesR ((nI_ltI (by omega) (by omega)).mp (by rw [ez] at hl; exact hl)) (by omega)), bnd_some, if_neg (by first | decide | simp), iR1 (show 0 ≤ nI k ∧ nI k ≤ (3 : Int32) from ⟨nI_pos' (by omega), nI_le (b := 3) (by omega) (by first | decide | simp)⟩), bnd_some, if_neg (by first | decide | simp), fz0, bnd_some, if_pos rfl, show (216 : Int32) + 4 * nI i + nI k = nI (216 + (4 * i + k)) from ix4k, i_its (h7u h7) (by first | decide | simp) (by omega) cA_me, bnd_some]
  · unfold f_X12_stored f_X12_stored_22 f_X12_stored_36
    rw [its_12 (by exact h7) (by first | decide | simp), bnd_some, iR1 hx, bnd_some, if_neg (by first | decide | simp), iR0 hy, bnd_some, if_pos rfl, fz2, bnd_some, if_neg (by first | decide | simp)]
  · unfold f_X12_stored f_X12_stored_22 f_X12_stored_36
    rw [its_12 (by exact h7) (by first | decide | simp), bnd_some, iR0 hx, bnd_some, if_pos rfl, e_inRange, bnd_some]
    by_cases q : 0 ≤ y ∧ y ≤ 3
    · rw [if_pos q, if_neg (by first | decide | simp), fz1, bnd_some, if_neg (by first | decide | simp)]
    · rw [if_neg q, if_pos rfl, fz1, bnd_some, if_neg (by first | decide | simp)]
theorem A_injected {B t : Nat} {M : Mem} {L V : LM} (h : InX B M t L V) (x y : Int32) : Ans (cd3 2 1 3) (f_X11_injected x y M) (f_X12_injected x y) M B := by
  have hC := h.2.1
  have hE := h.2.2.2.1.1
  have hm : MkC L := h.2.2.2.1.2.1.2.2.2.2.2.2.2.2.2.2.2.2.2.1
  obtain ⟨r, p, n, a1, a2, a3, a4, a5, a6, a7, a8, a9⟩ := h.2.2.2.1.lt
  have en : V.1 (5, 1, 1) = nI n := by rw [hE.1 _ rfl, a5]
  have cn : M.1 (5, 1, 1) 1 = nI n := by rw [hC.I rfl, a5]
  have cr : M.1 (5, 1, 1) 8 = nI r := by rw [hC.I rfl, a1]
  have rk2 : rk 2 = 4 := rfl
  by_cases hx : ∃ i : Nat, i < n ∧ x = nI i
  · obtain ⟨i, hi, rfl⟩ := hx
    have e132 : (132 : Int32) + 5 * nI i = nI (132 + 5 * i) := by rw [show (132 : Int32) = nI 132 from rfl, show (5 : Int32) = nI 5 from rfl, pk_mul, nI_add]
    have fl : ∀ N : Mem, N.1 (10, 0, 0) 7 = 0 → f_X12_its (nI (132 + 5 * i)) (putM 0 0 N V) = some (if i < r then 1 else 0, putM 0 0 N V) := fun N h7 => by
      rw [i_its (by exact h7) (by first | decide | simp) (by omega) (cA_fl i (by omega)), a9 i hi]
    by_cases hy : 0 ≤ y ∧ y ≤ 3
    · obtain ⟨k, hk, rfl⟩ := rng (n := 3) (by first | decide | simp) hy
      by_cases hr : i < r
      · refine Ans.ro h (Nat.le_refl B) (v := L.1 (21, 4 * i + k, 2)) ?_ (fun N h7 => ?_)
        · unfold f_X11_injected
          rw [if_neg (nI_pos (by omega)), cn, if_pos (nI_lt hi (by omega)), rq_w1 hy, bndX_l, cr, if_pos (nI_lt hr (by omega))]
          have e := h_X5_number (c := 1) (M := M) (j0 := 2) (x1 := nI i) (x2 := nI k) (L := L)
          rw [show putC 1 M L = M from hC, N_num (hm 2 (by first | decide | simp)) (by omega) (by omega), mg_some, show putC 1 M L = M from hC, rk2, Nat.mod_eq_of_lt (show i < 4 by omega)] at e
          rw [e, bnd_some]
        · unfold f_X12_injected f_X12_injected_23 f_X12_injected_37 f_X12_injected_59 f_X12_injected_60
          rw [entries_1, bnd_some, en, iR1 (yesR hi (by omega)), bnd_some, if_neg (by first | decide | simp), iR1 hy, bnd_some, if_neg (by first | decide | simp), if_neg (by first | decide | simp), e132, fl N h7, bnd_some, if_pos hr, if_neg (by first | decide | simp), fz0, bnd_some, if_pos rfl, show nI (132 + 5 * i) + 1 + nI k = nI (132 + 5 * i + 1 + k) by rw [show nI (132 + 5 * i) + 1 = nI (132 + 5 * i + 1) from nI_add _ 1, nI_add], i_its (h7u h7) (by first | decide | simp) (by omega) (cA_la i (by omega) k (by omega)), bnd_some, hE.1 (21, 4 * i + k, 2) rfl]
      · refine Ans.thr (e := 3) (b := 0) h (Nat.le_refl B) ?_ (by first | decide | simp) (fun N h7 => ?_)
        · unfold f_X11_injected
          rw [if_neg (nI_pos (by omega)), cn, if_pos (nI_lt hi (by omega)), rq_w1 hy, bndX_l, cr, if_neg (nI_nlt (by omega) (by omega))]
        · unfold f_X12_injected f_X12_injected_23 f_X12_injected_37 f_X12_injected_59 f_X12_injected_60
          rw [entries_1, bnd_some, en, iR1 (yesR hi (by omega)), bnd_some, if_neg (by first | decide | simp), iR1 hy, bnd_some, if_neg (by first | decide | simp), if_neg (by first | decide | simp), e132, fl N h7, bnd_some, if_neg hr, if_pos rfl, fz3, bnd_some, if_neg (by first | decide | simp)]
          rfl
    · refine Ans.thr (e := 1) (b := 0) h (Nat.le_refl B) ?_ (by first | decide | simp) (fun N h7 => ?_)
      · unfold f_X11_injected
        rw [if_neg (nI_pos (by omega)), cn, if_pos (nI_lt hi (by omega)), rq_w0 hy, bndX_r]
      · unfold f_X12_injected f_X12_injected_23 f_X12_injected_37 f_X12_injected_59 f_X12_injected_60
        rw [entries_1, bnd_some, en, iR1 (yesR hi (by omega)), bnd_some, if_neg (by first | decide | simp), iR0 hy, bnd_some, if_pos rfl, if_neg (by first | decide | simp), e132, fl N h7, bnd_some]
        by_cases hr : i < r
        · rw [if_pos hr, if_neg (by first | decide | simp), fz2, bnd_some, if_neg (by first | decide | simp)]
          rfl
        · rw [if_neg hr, if_pos rfl, fz2, bnd_some, if_neg (by first | decide | simp)]
          rfl
  · refine Ans.thr (e := 2) (b := 0) h (Nat.le_refl B) ?_ (by first | decide | simp) (fun N h7 => ?_)
    · unfold f_X11_injected
      by_cases h1 : x < 0
      · rw [if_pos h1]
      · rw [if_neg h1, cn, if_neg (noL (by omega) hx h1)]
    · unfold f_X12_injected f_X12_injected_23 f_X12_injected_37 f_X12_injected_59 f_X12_injected_60
      rw [entries_1, bnd_some, en, iR0 (noR (by omega) hx), bnd_some, if_pos rfl, e_inRange, bnd_some]
      by_cases q : 0 ≤ y ∧ y ≤ 3
      · rw [if_pos q, if_neg (by first | decide | simp), if_pos rfl, fz1, bnd_some, if_neg (by first | decide | simp)]
        rfl
      · rw [if_neg q, if_pos rfl, if_pos rfl, fz1, bnd_some, if_neg (by first | decide | simp)]
        rfl
/-! calls that never throw -/
def AnsI (F : Option (Int32 × Mem)) (E : Mem → Option (Int32 × Mem)) (B' : Nat) : Prop := ∃ v M1 M2, F = some (v, M1) ∧ E M1 = some (v, M2) ∧ Inv B' M2
theorem AnsI.ro {F : Option (Int32 × Mem)} {E : Mem → Option (Int32 × Mem)} {M : Mem} {B B' t : Nat} {L V : LM} {v : Int32} (h : InX B M t L V) (hB : B ≤ B') (hF : F = some (v, M)) (hE : EQ E V V v 0) : AnsI F E B' := by
  have q := hE _ h.h7
  rw [h.m, putM_uI (o := (10, 0, 0)) (by first | decide | simp) (by first | decide | simp), h.m] at q
  exact ⟨v, M, _, hF, q, ⟨t, L, V, (h.ui0 0).up hB⟩⟩
theorem InX.step0 {B B' t t' : Nat} {M : Mem} {L V L' V' : LM} (h : InX B M t L V) (hR : R t' t' L' V') (hB : B ≤ B') (ht : t' ≤ B') (s : ∀ i, i < 52 → V'.1 (cS i) = V.1 (cS i)) : InX B' (putM 0 0 (putC 1 M L') V') t' L' V' := by
  have hm : MkC L' := hR.2.1.2.2.2.2.2.2.2.2.2.2.2.2.2.1
  have k1 : Kp M (putC 1 M L') := Kp.c (by first | decide | simp) (by first | decide | simp) hm
  have k2 : Kp (putC 1 M L') (putM 0 0 (putC 1 M L') V') := Kp.m (Or.inl rfl) (fun i hi => by
    rw [s i hi, ← h.2.2.1.S hi, putC_no rfl])
  exact ⟨ht, hasC.new.m, hasM.new, hR, (k1.trans k2).rest h.2.2.2.2 hB⟩
theorem AnsI.ch {F : Option (Int32 × Mem)} {E : Mem → Option (Int32 × Mem)} {M : Mem} {B B' t t' : Nat} {L V L' V' : LM} {v : Int32} (h : InX B M t L V) (hF : F = some (v, putC 1 M L')) (hE : EQ E V V' v 0) (hR : R t' t' L' V') (hB : B ≤ B') (ht : t' ≤ B') (s : ∀ i, i < 52 → V'.1 (cS i) = V.1 (cS i)) : AnsI F E B' := by
  have hs := h.step0 hR hB ht s
  have e1 : putM 0 0 (putC 1 M L') V = putC 1 M L' := h.2.2.1.c (c := 1) (L := L')
  have q := hE (putC 1 M L') (by rw [putC_no rfl]; exact h.h7)
  rw [e1, putM_uI (o := (10, 0, 0)) (by first | decide | simp) (by first | decide | simp)] at q
  exact ⟨v, _, _, hF, q, ⟨t', L', V', hs.ui0 0⟩⟩
theorem A_memorySize {B t : Nat} {M : Mem} {L V : LM} (h : InX B M t L V) : AnsI (f_X11_memorySize M) f_X12_memorySize B := by
  refine AnsI.ro (v := L.1 (4, 5, 1)) h (Nat.le_refl B) ?_ (fun N h7 => ?_)
  · unfold f_X11_memorySize
    rw [show M.1 (4, 1, 1) 5 = L.1 (4, 5, 1) from h.2.1.I rfl]
  · unfold f_X12_memorySize
    dsimp only [nm]
    rw [wr10, its_12 (h7u h7) (by first | decide | simp), bnd_some, h.2.2.2.1.1.1 (4, 5, 1) rfl]
theorem A_errorCode {B t : Nat} {M : Mem} {L V : LM} (h : InX B M t L V) : AnsI (f_X11_errorCode M) f_X12_errorCode B := by
  refine ⟨_, _, _, rfl, ?_, ⟨t, L, V, h.ui0 0⟩⟩
  unfold f_X12_errorCode
  dsimp only [nm]
  have e : (uI M (10, 0, 0) 0 0).1 (10, 0, 0) 16 = M.1 (10, 0, 0) 16 := by
    unfold uI
    dsimp only
    rw [if_neg (fun q => absurd q.2 (by first | decide | simp))]
  rw [e, h.2.2.2.2.2.2.2.2.2.2.1]
theorem A_errorPosition {B t : Nat} {M : Mem} {L V : LM} (h : InX B M t L V) : AnsI (f_X11_errorPosition M) f_X12_errorPosition B := by
  refine ⟨_, _, _, rfl, ?_, ⟨t, L, V, h.ui0 0⟩⟩
  unfold f_X12_errorPosition
  dsimp only [nm]
  have e : (uI M (10, 0, 0) 0 0).1 (10, 0, 0) 17 = M.1 (10, 0, 0) 17 := by
    unfold uI
    dsimp only
    rw [if_neg (fun q => absurd q.2 (by first | decide | simp))]
  rw [e, h.2.2.2.2.2.2.2.2.2.2.2.1]
