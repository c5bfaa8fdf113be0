/-! ===== normal forms, on cells: functions that both sides have (z_), the reference's (m_) ===== -/
theorem rdw {V : LM} {a b : Cl} {x : Int32} : (wI V a x).1 b = if b = a then x else V.1 b := rfl
theorem rdw2 {V : LM} {a : Cl} {x : Int32} : (wI V a x).2 = V.2 := rfl
theorem rdl {V : LM} {a b : Cl} {x : Int64} : (wL V a x).2 b = if b = a then x else V.2 b := rfl
theorem rdl1 {V : LM} {a : Cl} {x : Int64} : (wL V a x).1 = V.1 := rfl
def z_forget (j : Nat) (V : LM) : LM := wI (wI V (5, 10, j) 0) (5, 11, j) 0
def z_idle (j : Nat) (V : LM) : LM := wI (wI (wI V (5, 3, j) 0) (5, 6, j) (-1)) (5, 7, j) (-1)
def z_b (V : LM) : LM := wI (wI V (1, 0, 0) 0) (1, 5, 0) (V.1 (1, 5, 0) + 1)
def z_brk (k : Int32) (V : LM) : LM := if V.1 (1, 0, 0) = 1 then (if k = 0 then z_forget 0 (z_b V) else z_b V) else V
def z_busy (j : Nat) (t : Int32) (V : LM) : LM := wI (wI (wI V (5, 3, j) 1) (5, 6, j) t) (5, 7, j) (V.1 (2, 15, 0))
def lsr (a b : Int32) : Int32 := if b ≤ a then b else a
def m_left (j : Nat) (V : LM) : Int32 := if j = 0 ∧ 0 < V.1 (5, 2, 0) then lsr (V.1 (5, 2, 0)) (V.1 (5, 1, j) - V.1 (5, 4, j)) else V.1 (5, 1, j) - V.1 (5, 4, j)
def m_bp (j : Nat) (V : LM) : LM := wI V (5, 5, j) (m_left j V)
def m_start (j : Nat) (t : Int32) (V : LM) : LM := if j = 1 then z_brk (V.1 (2, 11, 0)) (m_bp j (z_busy j t V)) else m_bp j (z_busy j t V)
theorem M_forget {β : Nat} {N : Mem} {V : LM} (hb : N.1 (10, 0, 0) 7 = nI β) (hβ : β < 5) {j : Nat} (hj : j < 2) : f_X12_clearResult (nI j) (putM β 0 N V) = some ((), putM β 0 N (z_forget j V)) := by
  unfold f_X12_clearResult
  simp only [seq_0, seq_1, seq_2, seq_3, seq_4, seq_5, seq_6, seq_7, seq_8, itsseq_0 hb hβ hj, putsseq_0 hb hβ hj, addsseq_0 hb hβ hj, itsseq_1 hb hβ hj, putsseq_1 hb hβ hj, addsseq_1 hb hβ hj, itsseq_2 hb hβ hj, putsseq_2 hb hβ hj, addsseq_2 hb hβ hj, itsseq_3 hb hβ hj, putsseq_3 hb hβ hj, addsseq_3 hb hβ hj, itsseq_4 hb hβ hj, putsseq_4 hb hβ hj, addsseq_4 hb hβ hj, itsseq_5 hb hβ hj, putsseq_5 hb hβ hj, addsseq_5 hb hβ hj, itsseq_6 hb hβ hj, putsseq_6 hb hβ hj, addsseq_6 hb hβ hj, itsseq_7 hb hβ hj, putsseq_7 hb hβ hj, addsseq_7 hb hβ hj, itsseq_8 hb hβ hj, putsseq_8 hb hβ hj, addsseq_8 hb hβ hj, bnd_some, nm]
  rfl
theorem M_idle {β : Nat} {N : Mem} {V : LM} (hb : N.1 (10, 0, 0) 7 = nI β) (hβ : β < 5) {j : Nat} (hj : j < 2) : f_X12_idle (nI j) (putM β 0 N V) = some ((), putM β 0 N (z_idle j V)) := by
  unfold f_X12_idle
  simp only [seq_0, seq_1, seq_2, seq_3, seq_4, seq_5, seq_6, seq_7, seq_8, itsseq_0 hb hβ hj, putsseq_0 hb hβ hj, addsseq_0 hb hβ hj, itsseq_1 hb hβ hj, putsseq_1 hb hβ hj, addsseq_1 hb hβ hj, itsseq_2 hb hβ hj, putsseq_2 hb hβ hj, addsseq_2 hb hβ hj, itsseq_3 hb hβ hj, putsseq_3 hb hβ hj, addsseq_3 hb hβ hj, itsseq_4 hb hβ hj, putsseq_4 hb hβ hj, addsseq_4 hb hβ hj, itsseq_5 hb hβ hj, putsseq_5 hb hβ hj, addsseq_5 hb hβ hj, itsseq_6 hb hβ hj, putsseq_6 hb hβ hj, addsseq_6 hb hβ hj, itsseq_7 hb hβ hj, putsseq_7 hb hβ hj, addsseq_7 hb hβ hj, itsseq_8 hb hβ hj, putsseq_8 hb hβ hj, addsseq_8 hb hβ hj, bnd_some, nm]
  rfl
theorem M_breakOff {β : Nat} {N : Mem} {V : LM} (hb : N.1 (10, 0, 0) 7 = nI β) (hβ : β < 5) : f_X12_breakOff (putM β 0 N V) = some ((), putM β 0 N (z_b V)) := by
  unfold f_X12_breakOff
  simp only [its_0 hb hβ, puts_0 hb hβ, adds_0 hb hβ, its_1 hb hβ, puts_1 hb hβ, adds_1 hb hβ, its_2 hb hβ, puts_2 hb hβ, adds_2 hb hβ, its_3 hb hβ, puts_3 hb hβ, adds_3 hb hβ, its_4 hb hβ, puts_4 hb hβ, adds_4 hb hβ, its_5 hb hβ, puts_5 hb hβ, adds_5 hb hβ, its_6 hb hβ, puts_6 hb hβ, adds_6 hb hβ, its_7 hb hβ, puts_7 hb hβ, adds_7 hb hβ, its_8 hb hβ, puts_8 hb hβ, adds_8 hb hβ, its_9 hb hβ, puts_9 hb hβ, adds_9 hb hβ, its_10 hb hβ, puts_10 hb hβ, adds_10 hb hβ, its_11 hb hβ, puts_11 hb hβ, adds_11 hb hβ, its_12 hb hβ, puts_12 hb hβ, adds_12 hb hβ, its_13 hb hβ, puts_13 hb hβ, adds_13 hb hβ, its_155 hb hβ, bnd_some, nm, rdw, rdl, rdw2, rdl1, Prod.mk.injEq, Nat.reduceEqDiff, and_self, and_true, true_and, and_false, false_and, ite_true, ite_false, ↓reduceIte]
  rfl
theorem M_lesser {a b : Int32} {M : Mem} : f_X12_lesser a b M = some (lsr a b, M) := by
  unfold f_X12_lesser lsr
  split <;> rfl
theorem M_bp {β : Nat} {N : Mem} {V : LM} (hb : N.1 (10, 0, 0) 7 = nI β) (hβ : β < 5) {j : Nat} (hj : j < 2) : f_X12_beginPass (nI j) (putM β 0 N V) = some ((), putM β 0 N (m_bp j V)) := by
  unfold f_X12_beginPass f_X12_beginPass_46
  simp only [seq_0, seq_1, seq_2, seq_3, seq_4, seq_5, seq_6, seq_7, seq_8, itsseq_0 hb hβ hj, putsseq_0 hb hβ hj, addsseq_0 hb hβ hj, itsseq_1 hb hβ hj, putsseq_1 hb hβ hj, addsseq_1 hb hβ hj, itsseq_2 hb hβ hj, putsseq_2 hb hβ hj, addsseq_2 hb hβ hj, itsseq_3 hb hβ hj, putsseq_3 hb hβ hj, addsseq_3 hb hβ hj, itsseq_4 hb hβ hj, putsseq_4 hb hβ hj, addsseq_4 hb hβ hj, itsseq_5 hb hβ hj, putsseq_5 hb hβ hj, addsseq_5 hb hβ hj, itsseq_6 hb hβ hj, putsseq_6 hb hβ hj, addsseq_6 hb hβ hj, itsseq_7 hb hβ hj, putsseq_7 hb hβ hj, addsseq_7 hb hβ hj, itsseq_8 hb hβ hj, putsseq_8 hb hβ hj, addsseq_8 hb hβ hj, bnd_some, nm, entries_ hj, set_5, nb_5, M_lesser, nI_z hj, if_false]
  unfold m_bp m_left
  by_cases h : j = 0
  · subst h
    by_cases h2 : V.1 (5, 2, 0) ≤ 0
    · rw [if_pos rfl, if_pos h2, if_neg (fun q => absurd q.2 (Int32.not_lt.mpr h2))]
    · rw [if_pos rfl, if_neg h2, if_pos ⟨rfl, Int32.not_le.mp h2⟩]
  · rw [if_neg h, if_neg (fun q => h q.1)]
theorem M_start {β : Nat} {N : Mem} {V : LM} (hb : N.1 (10, 0, 0) 7 = nI β) (hβ : β < 5) {j : Nat} {t : Int32} (hj : j < 2) : f_X12_startSequence (nI j) t (putM β 0 N V) = some ((), putM β 0 N (m_start j t V)) := by
  unfold f_X12_startSequence
  simp only [seq_0, seq_1, seq_2, seq_3, seq_4, seq_5, seq_6, seq_7, seq_8, itsseq_0 hb hβ hj, putsseq_0 hb hβ hj, addsseq_0 hb hβ hj, itsseq_1 hb hβ hj, putsseq_1 hb hβ hj, addsseq_1 hb hβ hj, itsseq_2 hb hβ hj, putsseq_2 hb hβ hj, addsseq_2 hb hβ hj, itsseq_3 hb hβ hj, putsseq_3 hb hβ hj, addsseq_3 hb hβ hj, itsseq_4 hb hβ hj, putsseq_4 hb hβ hj, addsseq_4 hb hβ hj, itsseq_5 hb hβ hj, putsseq_5 hb hβ hj, addsseq_5 hb hβ hj, itsseq_6 hb hβ hj, putsseq_6 hb hβ hj, addsseq_6 hb hβ hj, itsseq_7 hb hβ hj, putsseq_7 hb hβ hj, addsseq_7 hb hβ hj, itsseq_8 hb hβ hj, putsseq_8 hb hβ hj, addsseq_8 hb hβ hj, its_0 hb hβ, puts_0 hb hβ, adds_0 hb hβ, its_1 hb hβ, puts_1 hb hβ, adds_1 hb hβ, its_2 hb hβ, puts_2 hb hβ, adds_2 hb hβ, its_3 hb hβ, puts_3 hb hβ, adds_3 hb hβ, its_4 hb hβ, puts_4 hb hβ, adds_4 hb hβ, its_5 hb hβ, puts_5 hb hβ, adds_5 hb hβ, its_6 hb hβ, puts_6 hb hβ, adds_6 hb hβ, its_7 hb hβ, puts_7 hb hβ, adds_7 hb hβ, its_8 hb hβ, puts_8 hb hβ, adds_8 hb hβ, its_9 hb hβ, puts_9 hb hβ, adds_9 hb hβ, its_10 hb hβ, puts_10 hb hβ, adds_10 hb hβ, its_11 hb hβ, puts_11 hb hβ, adds_11 hb hβ, its_12 hb hβ, puts_12 hb hβ, adds_12 hb hβ, its_13 hb hβ, puts_13 hb hβ, adds_13 hb hβ, its_155 hb hβ, bnd_some, nm, M_bp hb hβ hj, M_breakOff hb hβ, set_4, nb_4, nI_z hj, if_false]
  have hf := fun V : LM => M_forget (V := V) hb hβ (j := 0) (by decide)
  rw [show nI 0 = (0 : Int32) from rfl] at hf
  simp only [hf, bnd_some, nm]
  unfold m_start
  rcases (show j = 0 ∨ j = 1 by omega) with rfl | rfl
  · rfl
  · rw [if_neg (by decide), if_pos rfl]
    unfold z_brk m_bp z_busy
    simp only [rdw, rdl, rdw2, rdl1, Prod.mk.injEq, Nat.reduceEqDiff, and_self, and_true, true_and, and_false, false_and, ite_true, ite_false, ↓reduceIte]
    unfold z_b
    simp only [rdw, rdl, rdw2, rdl1, Prod.mk.injEq, Nat.reduceEqDiff, and_self, and_true, true_and, and_false, false_and, ite_true, ite_false, ↓reduceIte]
    split
    · split
      · rfl
      · rfl
    · rfl
def z_put (j s : Nat) (a b c d : Int32) (V : LM) : LM := wI (wI (wI (wI V (21, s, j) a) (21, s + 1, j) b) (21, s + 2, j) c) (21, s + 3, j) d
theorem M_rowA {β : Nat} {N : Mem} {V : LM} (hb : N.1 (10, 0, 0) 7 = nI β) (hβ : β < 5) {i s j : Nat} {x a b c d : Int32} (hx : x = nI i) (hi : i + 3 < 472) (hc : ∀ k, k < 4 → cA (i + k) = (21, s + k, j)) : f_X12_putRow x a b c d (putM β 0 N V) = some ((), putM β 0 N (z_put j s a b c d V)) := by
  unfold f_X12_putRow
  subst hx
  rw [show nI i + 1 = nI (i + 1) from nI_add i 1, show nI i + 2 = nI (i + 2) from nI_add i 2, show nI i + 3 = nI (i + 3) from nI_add i 3]
  rw [i_puts hb hβ (by omega) (show cA i = (21, s, j) from hc 0 (by decide)), bnd_some, i_puts hb hβ (by omega) (hc 1 (by decide)), bnd_some, i_puts hb hβ (by omega) (hc 2 (by decide)), bnd_some, i_puts hb hβ (by omega) (hc 3 (by decide)), bnd_some]
  rfl
theorem ix4 {b z : Nat} : nI b + 4 * nI z = nI (b + 4 * z) := by
  rw [show (4 : Int32) = nI 4 from rfl, pk_mul, nI_add]
theorem M_rowQ {β : Nat} {N : Mem} {V : LM} (hb : N.1 (10, 0, 0) 7 = nI β) (hβ : β < 5) {z : Nat} {a b c d : Int32} (hz : z < 16) : f_X12_putRow (152 + 4 * nI z) a b c d (putM β 0 N V) = some ((), putM β 0 N (z_put 0 (4 * z) a b c d V)) :=
  M_rowA hb hβ (i := 152 + 4 * z) (ix4 (b := 152)) (by omega) (fun k hk => by rw [Nat.add_assoc]; exact cA_qu (by omega))
theorem M_rowL {β : Nat} {N : Mem} {V : LM} (hb : N.1 (10, 0, 0) 7 = nI β) (hβ : β < 5) {p : Nat} {a b c d : Int32} (hp : p < 4) : f_X12_putRow (132 + 5 * nI p + 1) a b c d (putM β 0 N V) = some ((), putM β 0 N (z_put 2 (4 * p) a b c d V)) :=
  M_rowA hb hβ (i := 132 + 5 * p + 1) (by rw [show (132 : Int32) = nI 132 from rfl, show (5 : Int32) = nI 5 from rfl, show (1 : Int32) = nI 1 from rfl, pk_mul, nI_add, nI_add]) (by omega) (fun k hk => cA_la p hp k hk)
/-! rows that move down by one -/
def sh (j n : Nat) (V : LM) : LM := (fun x => if x.1 = 21 ∧ x.2.2 = j ∧ x.2.1 < n then V.1 (21, x.2.1 + 4, j) else V.1 x, V.2)
theorem sh_0 {j : Nat} {V : LM} : sh j 0 V = V := by
  unfold sh
  refine Prod.ext (funext fun x => ?_) rfl
  exact if_neg (fun h => absurd h.2.2 (Nat.not_lt_zero _))
theorem sh_s {j n : Nat} {V : LM} : wI (sh j n V) (21, n, j) (V.1 (21, n + 4, j)) = sh j (n + 1) V := by
  unfold sh wI
  refine Prod.ext (funext fun x => ?_) rfl
  obtain ⟨a, b, c⟩ := x
  dsimp only
  by_cases h : (a, b, c) = (21, n, j)
  · cases h
    rw [if_pos rfl, if_pos ⟨rfl, rfl, by omega⟩]
  · rw [if_neg h]
    by_cases h2 : a = 21 ∧ c = j ∧ b < n
    · rw [if_pos h2, if_pos ⟨h2.1, h2.2.1, by omega⟩]
    · rw [if_neg h2, if_neg (fun q => h2 ⟨q.1, q.2.1, by
        rcases Nat.lt_or_ge b n with h3 | h3
        · exact h3
        · exact absurd (by rw [q.1, q.2.1, show b = n by omega]) h⟩)]
theorem sh_rd {j n m : Nat} {V : LM} (h : n ≤ m) : (sh j n V).1 (21, m, j) = V.1 (21, m, j) := by
  unfold sh
  dsimp only
  exact if_neg (fun q => by omega)
theorem sh_ne {j n : Nat} {x : Cl} {V : LM} (h : x.1 ≠ 21 ∨ x.2.2 ≠ j) : (sh j n V).1 x = V.1 x := by
  unfold sh
  dsimp only
  exact if_neg (fun q => by rcases h with h | h; exact h q.1; exact h q.2.1)
def m_drop (z : Nat) (V : LM) : LM := wI (sh 0 (4 * z - 4) V) (4, 5, 0) (V.1 (4, 5, 0) + -1)
theorem ix44 {z : Nat} (h : 1 ≤ z) : 4 * nI z - 4 = nI (4 * z - 4) := by
  rw [show (4 : Int32) = nI 4 from rfl, pk_mul, pk_sub (by omega)]
theorem M_drop_2 {β : Nat} {N : Mem} {V : LM} (hb : N.1 (10, 0, 0) 7 = nI β) (hβ : β < 5) {z : Nat} (hz : V.1 (4, 5, 0) = nI z) (h1 : 1 ≤ z) (h2 : z ≤ 16) : ∀ (m i n : Nat), i + m = 4 * z - 4 → m < n → f_X12_dropOldest_2 n (nI i) (putM β 0 N (sh 0 i V)) = some ((), putM β 0 N (m_drop z V)) := by
  intro m
  induction m with
  | zero =>
    intro i n hi hn
    obtain ⟨n, rfl⟩ : ∃ k, n = k + 1 := ⟨n - 1, by omega⟩
    rw [show f_X12_dropOldest_2 (n + 1) (nI i) (putM β 0 N (sh 0 i V)) = _ from Eq.trans rfl rfl]
    unfold f_X12_dropOldest_2
    rw [its_11 hb hβ, bnd_some, sh_ne (Or.inl (by decide)), hz, ix44 h1, if_pos (nI_le (by omega) (by omega)), adds_11 hb hβ, bnd_some, sh_ne (Or.inl (by decide))]
    unfold m_drop
    rw [show i = 4 * z - 4 by omega]
  | succ m ih =>
    intro i n hi hn
    obtain ⟨n, rfl⟩ : ∃ k, n = k + 1 := ⟨n - 1, by omega⟩
    unfold f_X12_dropOldest_2
    rw [its_11 hb hβ, bnd_some, sh_ne (Or.inl (by decide)), hz, ix44 h1, if_neg (nI_ge (by omega) (by omega))]
    have e1 : (152 : Int32) + nI i = nI (152 + i) := nI_add 152 i
    have e2 : nI (152 + i) + 4 = nI (152 + (i + 4)) := nI_add (152 + i) 4
    rw [e1, e2, i_its hb hβ (by omega) (cA_qu (m := i + 4) (by omega)), bnd_some, i_puts hb hβ (by omega) (cA_qu (m := i) (by omega)), bnd_some, sh_rd (by omega), sh_s]
    unfold nm
    rw [nI_1]
    exact ih (i + 1) n (by omega) (by omega)
theorem M_drop {β : Nat} {N : Mem} {V : LM} (hb : N.1 (10, 0, 0) 7 = nI β) (hβ : β < 5) {z : Nat} (hz : V.1 (4, 5, 0) = nI z) (h1 : 1 ≤ z) (h2 : z ≤ 16) : f_X12_dropOldest (putM β 0 N V) = some ((), putM β 0 N (m_drop z V)) := by
  have h := M_drop_2 hb hβ hz h1 h2 (4 * z - 4) 0 fuelN (by omega) (by unfold fuelN; omega)
  rw [sh_0] at h
  exact h
theorem ge3 {k : Nat} (h : k < 3) : ¬ (3 : Int32) ≤ nI k := nI_ge (b := 3) h (by decide)
theorem ge4 {k : Nat} (h : k < 4) : ¬ (4 : Int32) ≤ nI k := nI_ge (b := 4) h (by decide)
theorem ge252 {k : Nat} (h : k < 252) : ¬ (252 : Int32) ≤ nI k := nI_ge (b := 252) h (by decide)
