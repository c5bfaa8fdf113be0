/-! ===== a total by a number that isn't 0 is no NaN ===== -/
theorem rr_nn (f : FP.Core.Fmt) (s : Bool) (a b : Nat) (e : Int) : FP.Core.roundRatio f s a b e ≠ FP.Core.Datum.nan := by
  unfold FP.Core.roundRatio
  split
  · simp
  · unfold FP.Core.roundAt FP.Core.settle
    split
    · unfold FP.Core.bound; split <;> simp
    · unfold FP.Core.bound; split <;> simp
theorem round_nn {f : FP.Core.Fmt} (s : Bool) (c : Nat) (q : Int) : FP.Core.round f (.fin s c q) ≠ FP.Core.Datum.nan := rr_nn f s c 1 q
theorem quot_nn {f : FP.Core.Fmt} {x : FP.Core.Datum} (hx : x ≠ .nan) {s : Bool} {c : Nat} {q : Int} (hc : c ≠ 0) : FP.Core.quotient f x (.fin s c q) ≠ FP.Core.Datum.nan := by
  cases x with
  | nan => exact absurd rfl hx
  | inf t => simp [FP.Core.quotient]
  | fin t d r =>
    show (if c = 0 then (if d = 0 then FP.Core.Datum.nan else .inf (t != s)) else FP.Core.roundRatio f (t != s) d c (r - q)) ≠ _
    rw [if_neg hc]
    exact rr_nn _ _ _ _ _
theorem bits_nn {a : UInt64} (h : FP.Core.val64 a ≠ FP.Core.Datum.nan) : a &&& 0x7fffffffffffffff ≤ 0x7ff0000000000000 := by
  rw [UInt64.le_iff_toNat_le, UInt64.toNat_and]
  have e1 : (0x7fffffffffffffff : UInt64).toNat = 2 ^ 63 - 1 := by decide
  have e2 : (0x7ff0000000000000 : UInt64).toNat = 9218868437227405312 := by decide
  rw [e1, e2, Nat.and_two_pow_sub_one_eq_mod]
  refine Nat.le_of_not_lt fun hlt => h ?_
  have hl := a.toNat_lt
  unfold FP.Core.val64 FP.Core.decode
  have hE : FP.Core.fieldE FP.Core.b64 a.toNat = FP.Core.b64.exps - 1 := by
    show a.toNat / 4503599627370496 % 2048 = 2047
    omega
  have hT : ¬ FP.Core.fieldT FP.Core.b64 a.toNat = 0 := by
    show ¬ a.toNat % 4503599627370496 = 0
    omega
  rw [if_pos hE, if_neg hT]
theorem whole_ne {i : Int} {d : FP.Core.Datum} (h : FP.Core.Whole i d) (hi : i ≠ 0) : ∃ (s : Bool) (c : Nat) (q : Int), d = .fin s c q ∧ c ≠ 0 := by
  cases d with
  | nan => exact absurd h (by simp [FP.Core.Whole])
  | inf t => exact absurd h (by simp [FP.Core.Whole])
  | fin s c q =>
    refine ⟨s, c, q, rfl, fun hc => hi ?_⟩
    subst hc
    have h2 : FP.Core.signed s (0 * 2 ^ q.toNat) = i * ((2 ^ (-q).toNat : Nat) : Int) := h
    have h3 : FP.Core.signed s (0 * 2 ^ q.toNat) = 0 := by cases s <;> simp [FP.Core.signed]
    rw [h3] at h2
    rcases Int.mul_eq_zero.mp h2.symm with h4 | h4
    · exact h4
    · have h5 := Nat.two_pow_pos (-q).toNat
      omega
theorem ddiv_nn (t : Int64) {n : Int32} (hn : n ≠ 0) : FP.ddiv (FP.l2d t) (FP.i2d n) &&& 0x7fffffffffffffff ≤ 0x7ff0000000000000 := by
  refine bits_nn ?_
  show FP.Core.val64 (FP.Core.ddiv (FP.Core.l2d t) (FP.Core.i2d n)) ≠ _
  rw [FP.Core.val64_ddiv]
  obtain ⟨s, c, q, h1, h2⟩ := whole_ne (FP.Core.i2d_int n) (fun h => hn (Int32.toInt_inj.mp h))
  rw [h1]
  refine quot_nn ?_ h2
  rw [FP.Core.val64_l2d]
  exact round_nn _ _ _
