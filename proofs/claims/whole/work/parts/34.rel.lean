/-! ===== THE RELATION: converter c of the class (cells of M) and block β of the reference (cells of N, settings from place σ on) ===== -/
abbrev mA (N : Mem) (β k : Nat) : Int32 := N.1 (32, 0, 0) (472 * β + k)
abbrev mS (N : Mem) (σ k : Nat) : Int32 := N.1 (31, 0, 0) (σ + k)
abbrev mL (N : Mem) (β k : Nat) : Int64 := N.2.1 (33, 0, 0) (10 * β + k)
def RelCh (c β σ : Nat) (M N : Mem) : Prop := ∀ j, j < 8 → M.1 (0, c, j) 0 = mA N β (44 + 7 * j + 0) ∧ M.1 (0, c, j) 1 = mS N σ (22 + j) ∧ M.1 (0, c, j) 2 = mA N β (44 + 7 * j + 1) ∧ M.1 (0, c, j) 3 = mA N β (44 + 7 * j + 2) ∧ M.1 (0, c, j) 4 = mA N β (44 + 7 * j + 3) ∧
  M.1 (0, c, j) 5 = mA N β (44 + 7 * j + 4) ∧ M.1 (0, c, j) 6 = mA N β (44 + 7 * j + 5) ∧ M.1 (0, c, j) 7 = mA N β (44 + 7 * j + 6) ∧ M.2.1 (0, c, j) 8 = mL N β (2 + j)
def RelTr (c β σ : Nat) (M N : Mem) : Prop := ∀ j, j < 4 → M.1 (7, c, j) 0 = mS N σ (30 + j) ∧ M.1 (7, c, j) 1 = mS N σ (34 + j) ∧ M.1 (7, c, j) 2 = mS N σ (38 + j) ∧ M.1 (7, c, j) 3 = mA N β (100 + 2 * j + 0) ∧ M.1 (7, c, j) 4 = mA N β (100 + 2 * j + 1)
def RelWi (c β σ : Nat) (M N : Mem) : Prop := ∀ j, j < 3 → M.1 (8, c, j) 0 = mS N σ (48 + j) ∧ M.1 (8, c, j) 1 = mA N β (108 + 8 * j + 0) ∧ M.1 (8, c, j) 2 = mA N β (108 + 8 * j + 1) ∧ M.1 (8, c, j) 3 = mS N σ (42 + j) ∧ M.1 (8, c, j) 4 = mS N σ (45 + j) ∧
  M.1 (8, c, j) 5 = mA N β (108 + 8 * j + 2) ∧ M.1 (8, c, j) 6 = mA N β (108 + 8 * j + 3) ∧
  (mA N β (108 + 8 * j + 3) = 1 → M.1 (8, c, j) 7 = mA N β (108 + 8 * j + 4) ∧ M.1 (8, c, j) 8 = mA N β (108 + 8 * j + 5) ∧ M.1 (8, c, j) 9 = mA N β (108 + 8 * j + 6)) ∧
  (mA N β (108 + 8 * j + 3) = 0 → M.1 (8, c, j) 7 = -1 ∧ M.1 (8, c, j) 8 = -1 ∧ M.1 (8, c, j) 9 = -1)
def RelSq (c β σ : Nat) (M N : Mem) : Prop := ∀ s, s < 2 → M.1 (5, c, s) 1 = mS N σ (0 + s) ∧ M.1 (5, c, s) 2 = (if s = 0 then mS N σ 5 else 0) ∧ M.1 (5, c, s) 3 = mA N β (20 + 12 * s + 0) ∧ M.1 (5, c, s) 4 = mA N β (20 + 12 * s + 1) ∧
  M.1 (5, c, s) 6 = mA N β (20 + 12 * s + 2) ∧ M.1 (5, c, s) 7 = mA N β (20 + 12 * s + 3) ∧ M.1 (5, c, s) 8 = mA N β (20 + 12 * s + 4) ∧ M.1 (5, c, s) 9 = mA N β (20 + 12 * s + 5) ∧ M.1 (5, c, s) 10 = mA N β (20 + 12 * s + 6) ∧ M.1 (5, c, s) 11 = mA N β (20 + 12 * s + 7) ∧
  (mA N β (20 + 12 * s + 0) = 1 → M.1 (5, c, s) 5 = mA N β (20 + 12 * s + 1) + mA N β (20 + 12 * s + 8)) ∧ M.2.1 (5, c, s) 12 = mL N β s ∧ (∀ i, i < (if s = 0 then 8 else 4) → M.1 (20, c, s) i = mS N σ (10 + 8 * s + i))
def RelCv (c β : Nat) (M N : Mem) : Prop := M.1 (1, c, 0) 0 = mA N β 1 ∧ M.1 (1, c, 0) 4 = mA N β 6 ∧ M.1 (1, c, 0) 5 = mA N β 7 ∧
  (mA N β 1 ≠ 0 → M.1 (1, c, 0) 1 = mA N β 2 ∧ M.1 (1, c, 0) 2 = mA N β 3 ∧ mA N β 4 + 12 = mA N β 3 ∧ (mA N β 4 ≤ 0 → M.1 (1, c, 0) 3 = mA N β 5))
/-- a ring of rows of four, against rows in a line from place at on -/
def RelRing (c k rows at' : Nat) (β : Nat) (M N : Mem) (n : Nat) : Prop := M.1 (4, c, k) 1 = nI (rows - 1) ∧ M.1 (4, c, k) 5 = nI n ∧ ∃ o : Nat, o < rows ∧ M.1 (4, c, k) 4 = nI o ∧ ∀ i, i < n → ∀ w, w < 4 → M.1 (21, c, k) (4 * ((o + i) % rows) + w) = mA N β (at' + 4 * i + w)
def RelQu (c β σ : Nat) (M N : Mem) : Prop := ∃ n cap : Nat, n ≤ cap ∧ 1 ≤ cap ∧ cap ≤ 16 ∧ mA N β 11 = nI n ∧ mS N σ 8 = nI cap ∧ RelRing c 0 16 152 β M N n ∧ M.1 (4, c, 0) 2 = mS N σ 8 ∧ M.1 (4, c, 0) 3 = mS N σ 9 ∧ M.1 (4, c, 0) 6 = mA N β 8
def RelMe (c β : Nat) (M N : Mem) : Prop := ∃ n : Nat, n ≤ 64 ∧ mA N β 12 = nI n ∧ RelRing c 1 64 216 β M N n ∧ M.1 (4, c, 1) 2 = 64 ∧ M.1 (4, c, 1) 3 = 1
/-- the last results of the injected entries: r results so far -/
def RelLa (c β : Nat) (M N : Mem) : Prop := M.1 (4, c, 2) 1 = 3 ∧ ∃ r : Nat, r < 2 ^ 31 ∧ mA N β 36 = nI r ∧ ∀ q : Nat, q < 4 → (q < r → mA N β (132 + 5 * q) = 1 → ∀ w, w < 4 → M.1 (21, c, 2) (4 * q + w) = mA N β (132 + 5 * q + 1 + w))
def RelFl (c β σ : Nat) (M N : Mem) : Prop := M.1 (2, c, 0) 9 = mS N σ 6 ∧ M.1 (2, c, 0) 10 = mS N σ 7 ∧ M.1 (2, c, 0) 11 = mS N σ 4 ∧ M.1 (2, c, 0) 12 = mS N σ 2 ∧ M.1 (2, c, 0) 13 = mS N σ 3 ∧ M.1 (2, c, 0) 14 = mA N β 10 ∧ M.1 (2, c, 0) 15 = mA N β 0 ∧ M.1 (2, c, 0) 16 = mA N β 9 ∧
  mA N β 13 = mA N β 24 + mA N β 36
def Rel (c β σ : Nat) (M N : Mem) : Prop := RelCh c β σ M N ∧ RelTr c β σ M N ∧ RelWi c β σ M N ∧ RelSq c β σ M N ∧ RelCv c β M N ∧ RelQu c β σ M N ∧ RelMe c β M N ∧ RelLa c β M N ∧ RelFl c β σ M N
