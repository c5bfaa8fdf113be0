/-! ===== the reference's block β and settings from σ on, as cells (kind, field, place) ===== -/
def sqF : Nat → Nat := fun k => match k with | 0 => 3 | 1 => 4 | 2 => 6 | 3 => 7 | 4 => 8 | 5 => 9 | 6 => 10 | 7 => 11 | _ => 5
def chF : Nat → Nat := fun k => match k with | 0 => 0 | 1 => 2 | 2 => 3 | 3 => 4 | 4 => 5 | 5 => 6 | _ => 7
def wnF : Nat → Nat := fun k => match k with | 0 => 1 | 1 => 2 | 2 => 5 | 3 => 6 | 4 => 7 | 5 => 8 | _ => 9
def c0F : Nat → Cl := fun k => match k with
  | 0 => (2, 15, 0) | 1 => (1, 0, 0) | 2 => (1, 1, 0) | 3 => (1, 2, 0) | 4 => (1, 6, 0) | 5 => (1, 3, 0) | 6 => (1, 4, 0) | 7 => (1, 5, 0) | 8 => (4, 6, 0) | 9 => (2, 16, 0)
  | 10 => (2, 14, 0) | 11 => (4, 5, 0) | 12 => (4, 5, 1) | 13 => (2, 17, 0) | i => (30, i, 0)
def cA (i : Nat) : Cl :=
  if i < 20 then c0F i
  else if i < 44 then (if (i - 20) % 12 < 9 then (5, sqF ((i - 20) % 12), (i - 20) / 12) else (30, i, 0))
  else if i < 100 then (0, chF ((i - 44) % 7), (i - 44) / 7)
  else if i < 108 then (7, 3 + (i - 100) % 2, (i - 100) / 2)
  else if i < 132 then (if (i - 108) % 8 < 7 then (8, wnF ((i - 108) % 8), (i - 108) / 8) else (30, i, 0))
  else if i < 152 then (if (i - 132) % 5 = 0 then (22, (i - 132) / 5, 0) else (21, 4 * ((i - 132) / 5) + (i - 132) % 5 - 1, 2))
  else if i < 216 then (21, i - 152, 0)
  else (21, i - 216, 1)
def cS (i : Nat) : Cl :=
  if i < 2 then (5, 1, i)
  else if i = 2 then (2, 12, 0) else if i = 3 then (2, 13, 0) else if i = 4 then (2, 11, 0) else if i = 5 then (5, 2, 0) else if i = 6 then (2, 9, 0) else if i = 7 then (2, 10, 0)
  else if i = 8 then (4, 2, 0) else if i = 9 then (4, 3, 0)
  else if i < 18 then (20, i - 10, 0) else if i < 22 then (20, i - 18, 1)
  else if i < 30 then (0, 1, i - 22) else if i < 34 then (7, 0, i - 30) else if i < 38 then (7, 1, i - 34) else if i < 42 then (7, 2, i - 38)
  else if i < 45 then (8, 3, i - 42) else if i < 48 then (8, 4, i - 45) else if i < 51 then (8, 0, i - 48) else (31, 0, 0)
def cL (i : Nat) : Cl := if i < 2 then (5, 12, i) else (0, 8, i - 2)
/-- the way back: places of the block below 1000, of the settings from 1000 on -/
def bk (x : Cl) : Nat := match x with
  | (0, f, j) => (match f with | 0 => 44 + 7 * j | 1 => 1022 + j | 2 => 45 + 7 * j | 3 => 46 + 7 * j | 4 => 47 + 7 * j | 5 => 48 + 7 * j | 6 => 49 + 7 * j | _ => 50 + 7 * j)
  | (1, f, _) => (match f with | 0 => 1 | 1 => 2 | 2 => 3 | 3 => 5 | 4 => 6 | 5 => 7 | _ => 4)
  | (2, f, _) => (match f with | 9 => 1006 | 10 => 1007 | 11 => 1004 | 12 => 1002 | 13 => 1003 | 14 => 10 | 15 => 0 | 16 => 9 | _ => 13)
  | (4, f, j) => (match f with | 2 => 1008 | 3 => 1009 | 6 => 8 | _ => 11 + j)
  | (5, f, j) => (match f with | 1 => 1000 + j | 2 => 1005 | 3 => 20 + 12 * j | 4 => 21 + 12 * j | 5 => 28 + 12 * j | 6 => 22 + 12 * j | 7 => 23 + 12 * j | 8 => 24 + 12 * j | 9 => 25 + 12 * j | 10 => 26 + 12 * j | _ => 27 + 12 * j)
  | (7, f, j) => (match f with | 0 => 1030 + j | 1 => 1034 + j | 2 => 1038 + j | 3 => 100 + 2 * j | _ => 101 + 2 * j)
  | (8, f, j) => (match f with | 0 => 1048 + j | 1 => 108 + 8 * j | 2 => 109 + 8 * j | 3 => 1042 + j | 4 => 1045 + j | 5 => 110 + 8 * j | 6 => 111 + 8 * j | 7 => 112 + 8 * j | 8 => 113 + 8 * j | _ => 114 + 8 * j)
  | (20, i, j) => 1010 + 8 * j + i
  | (21, i, j) => (match j with | 0 => 152 + i | 1 => 216 + i | _ => 133 + 5 * (i / 4) + i % 4)
  | (22, i, _) => 132 + 5 * i
  | (30, i, _) => i
  | _ => 1051
theorem bk_A : ∀ i, i < 472 → bk (cA i) = i := by decide +kernel
theorem bk_S : ∀ i, i < 52 → bk (cS i) = 1000 + i := by decide +kernel
theorem cA_inj {i j : Nat} (hi : i < 472) (hj : j < 472) (h : cA i = cA j) : i = j := by rw [← bk_A i hi, ← bk_A j hj, h]
theorem cS_inj {i j : Nat} (hi : i < 52) (hj : j < 52) (h : cS i = cS j) : i = j := by
  have := bk_S i hi; have := bk_S j hj; rw [h] at *; omega
theorem cAS {i j : Nat} (hi : i < 472) (hj : j < 52) (h : cA i = cS j) : False := by
  have := bk_A i hi; have := bk_S j hj; rw [h] at *; omega
theorem cL_inj {i j : Nat} (h : cL i = cL j) (hi : i < 10) (hj : j < 10) : i = j := by
  have key : ∀ i, i < 10 → ∀ j, j < 10 → cL i = cL j → i = j := by decide +kernel
  exact key i hi j hj h
/-- block β and settings from σ on hold V, all else is N's -/
def putM (β σ : Nat) (N : Mem) (V : LM) : Mem :=
  (fun o k => if o = (32, 0, 0) ∧ 472 * β ≤ k ∧ k < 472 * β + 472 then V.1 (cA (k - 472 * β)) else if o = (31, 0, 0) ∧ σ ≤ k ∧ k < σ + 52 then V.1 (cS (k - σ)) else N.1 o k,
   fun o k => if o = (33, 0, 0) ∧ 10 * β ≤ k ∧ k < 10 * β + 10 then V.2 (cL (k - 10 * β)) else N.2.1 o k, N.2.2)
theorem rdA {β σ i : Nat} {N : Mem} {V : LM} (hi : i < 472) : (putM β σ N V).1 (32, 0, 0) (472 * β + i) = V.1 (cA i) := by
  unfold putM
  dsimp only
  rw [if_pos ⟨rfl, by omega, by omega⟩, Nat.add_sub_cancel_left]
theorem rdS {β σ i : Nat} {N : Mem} {V : LM} (hi : i < 52) : (putM β σ N V).1 (31, 0, 0) (σ + i) = V.1 (cS i) := by
  unfold putM
  dsimp only
  rw [if_neg (fun h => absurd (congrArg Prod.fst h.1) (by decide)), if_pos ⟨rfl, by omega, by omega⟩, Nat.add_sub_cancel_left]
theorem rdL {β σ i : Nat} {N : Mem} {V : LM} (hi : i < 10) : (putM β σ N V).2.1 (33, 0, 0) (10 * β + i) = V.2 (cL i) := by
  unfold putM
  dsimp only
  rw [if_pos ⟨rfl, by omega, by omega⟩, Nat.add_sub_cancel_left]
theorem rd10 {β σ k : Nat} {N : Mem} {V : LM} : (putM β σ N V).1 (10, 0, 0) k = N.1 (10, 0, 0) k := by
  unfold putM
  dsimp only
  rw [if_neg (fun h => absurd (congrArg Prod.fst h.1) (by decide)), if_neg (fun h => absurd (congrArg Prod.fst h.1) (by decide))]
theorem wr10 {β σ k : Nat} {N : Mem} {V : LM} {x : Int32} : uI (putM β σ N V) (10, 0, 0) k x = putM β σ (uI N (10, 0, 0) k x) V := by
  unfold uI putM
  refine Prod.ext (funext fun o => funext fun q => ?_) rfl
  dsimp only
  by_cases h : o = (10, 0, 0)
  · subst h
    rw [if_neg (c := (10, 0, 0) = ((32, 0, 0) : Oid) ∧ _) (fun h => absurd (congrArg Prod.fst h.1) (by decide)), if_neg (c := (10, 0, 0) = ((31, 0, 0) : Oid) ∧ _) (fun h => absurd (congrArg Prod.fst h.1) (by decide)), if_neg (c := (10, 0, 0) = ((32, 0, 0) : Oid) ∧ _) (fun h => absurd (congrArg Prod.fst h.1) (by decide)), if_neg (c := (10, 0, 0) = ((31, 0, 0) : Oid) ∧ _) (fun h => absurd (congrArg Prod.fst h.1) (by decide))]
  · rw [if_neg (fun q => h q.1), if_neg (c := o = (10, 0, 0) ∧ _) (fun q => h q.1)]
theorem wrA {β σ i : Nat} {N : Mem} {V : LM} {x : Int32} (hi : i < 472) : uI (putM β σ N V) (32, 0, 0) (472 * β + i) x = putM β σ N (wI V (cA i) x) := by
  unfold uI putM wI
  refine Prod.ext (funext fun o => funext fun q => ?_) rfl
  dsimp only
  by_cases h : o = (32, 0, 0)
  · subst h
    by_cases h2 : 472 * β ≤ q ∧ q < 472 * β + 472
    · rw [if_pos (c := _ ∧ 472 * β ≤ q ∧ _) ⟨rfl, h2⟩, if_pos (c := _ ∧ 472 * β ≤ q ∧ _) ⟨rfl, h2⟩]
      by_cases h3 : q = 472 * β + i
      · rw [if_pos ⟨rfl, h3⟩, if_pos (by rw [h3, Nat.add_sub_cancel_left])]
      · rw [if_neg (fun z => h3 z.2), if_neg (fun z => h3 (by have := cA_inj (by omega) hi z; omega))]
    · rw [if_neg (c := _ ∧ q = _) (fun z => h2 (by have := z.2; omega)), if_neg (c := _ ∧ 472 * β ≤ q ∧ _) (fun z => h2 z.2), if_neg (c := _ ∧ 472 * β ≤ q ∧ _) (fun z => h2 z.2), if_neg (fun h => absurd (congrArg Prod.fst h.1) (by decide)), if_neg (fun h => absurd (congrArg Prod.fst h.1) (by decide))]
  · rw [if_neg (c := o = (32, 0, 0) ∧ q = _) (fun z => h z.1), if_neg (c := o = (32, 0, 0) ∧ _) (fun z => h z.1), if_neg (c := o = (32, 0, 0) ∧ _) (fun z => h z.1)]
    by_cases h2 : o = (31, 0, 0) ∧ σ ≤ q ∧ q < σ + 52
    · rw [if_pos h2, if_pos h2, if_neg (fun z => cAS hi (by omega) z.symm)]
    · rw [if_neg h2, if_neg h2]
theorem wrS {β σ i : Nat} {N : Mem} {V : LM} {x : Int32} (hi : i < 52) : uI (putM β σ N V) (31, 0, 0) (σ + i) x = putM β σ N (wI V (cS i) x) := by
  unfold uI putM wI
  refine Prod.ext (funext fun o => funext fun q => ?_) rfl
  dsimp only
  by_cases h : o = (32, 0, 0) ∧ 472 * β ≤ q ∧ q < 472 * β + 472
  · rw [if_pos h, if_pos h, if_neg (fun z => absurd (congrArg Prod.fst (h.1.symm.trans z.1)) (by decide)), if_neg (fun z => cAS (by omega) hi z)]
  · rw [if_neg h, if_neg h]
    by_cases h3 : o = (31, 0, 0) ∧ σ ≤ q ∧ q < σ + 52
    · rw [if_pos h3, if_pos h3]
      by_cases h4 : q = σ + i
      · rw [if_pos ⟨h3.1, h4⟩, if_pos (by rw [h4, Nat.add_sub_cancel_left])]
      · rw [if_neg (fun z => h4 z.2), if_neg (fun z => h4 (by have := cS_inj (by omega) hi z; omega))]
    · rw [if_neg (fun z => h3 ⟨z.1, by omega, by omega⟩), if_neg h3, if_neg h3]
theorem wrL {β σ i : Nat} {N : Mem} {V : LM} {x : Int64} (hi : i < 10) : uL (putM β σ N V) (33, 0, 0) (10 * β + i) x = putM β σ N (wL V (cL i) x) := by
  unfold uL putM wL
  refine Prod.ext rfl (Prod.ext (funext fun o => funext fun q => ?_) rfl)
  dsimp only
  by_cases h : o = (33, 0, 0) ∧ 10 * β ≤ q ∧ q < 10 * β + 10
  · rw [if_pos h, if_pos h]
    by_cases h4 : q = 10 * β + i
    · rw [if_pos ⟨h.1, h4⟩, if_pos (by rw [h4, Nat.add_sub_cancel_left])]
    · rw [if_neg (fun z => h4 z.2), if_neg (fun z => h4 (by have := cL_inj z (by omega) hi; omega))]
  · rw [if_neg h, if_neg h, if_neg (fun z => h ⟨z.1, by omega, by omega⟩)]
def viewM (β σ : Nat) (N : Mem) : LM :=
  (fun x => if bk x < 1000 then N.1 (32, 0, 0) (472 * β + bk x) else N.1 (31, 0, 0) (σ + (bk x - 1000)),
   fun x => N.2.1 (33, 0, 0) (10 * β + match x with | (5, _, j) => j | (_, _, j) => 2 + j))
theorem putM_view {β σ : Nat} {N : Mem} : putM β σ N (viewM β σ N) = N := by
  unfold putM viewM
  refine Prod.ext (funext fun o => funext fun q => ?_) (Prod.ext (funext fun o => funext fun q => ?_) rfl)
  · dsimp only
    by_cases h : o = (32, 0, 0) ∧ 472 * β ≤ q ∧ q < 472 * β + 472
    · rw [if_pos h, bk_A _ (by omega), if_pos (by omega), h.1, show 472 * β + (q - 472 * β) = q by omega]
    · rw [if_neg h]
      by_cases h3 : o = (31, 0, 0) ∧ σ ≤ q ∧ q < σ + 52
      · rw [if_pos h3, bk_S _ (by omega), if_neg (by omega), h3.1, show σ + (1000 + (q - σ) - 1000) = q by omega]
      · rw [if_neg h3]
  · dsimp only
    by_cases h : o = (33, 0, 0) ∧ 10 * β ≤ q ∧ q < 10 * β + 10
    · rw [if_pos h]
      have key : ∀ i, i < 10 → (match cL i with | (5, _, j) => j | (_, _, j) => 2 + j) = i := by decide +kernel
      rw [key _ (by omega), h.1, show 10 * β + (q - 10 * β) = q by omega]
    · rw [if_neg h]
/-! the keys -/
def kSq (s k : Nat) : Int32 := nI (20 + 12 * s + k)
def kCh (s k : Nat) : Int32 := nI (44 + 7 * s + k)
def kTr (s k : Nat) : Int32 := nI (100 + 2 * s + k)
def kWn (s k : Nat) : Int32 := nI (108 + 8 * s + k)
theorem cA_sq : ∀ s, s < 2 → ∀ k, k < 9 → cA (20 + 12 * s + k) = (5, sqF k, s) := by decide +kernel
theorem cA_ch : ∀ s, s < 8 → ∀ k, k < 7 → cA (44 + 7 * s + k) = (0, chF k, s) := by decide +kernel
theorem cA_tr : ∀ s, s < 4 → ∀ k, k < 2 → cA (100 + 2 * s + k) = (7, 3 + k, s) := by decide +kernel
theorem cA_wn : ∀ s, s < 3 → ∀ k, k < 7 → cA (108 + 8 * s + k) = (8, wnF k, s) := by decide +kernel
theorem cA_qu {m : Nat} (h : m < 64) : cA (152 + m) = (21, m, 0) := by
  unfold cA
  rw [if_neg (by omega), if_neg (by omega), if_neg (by omega), if_neg (by omega), if_neg (by omega), if_neg (by omega), if_pos (by omega), Nat.add_sub_cancel_left]
theorem cA_me {m : Nat} : cA (216 + m) = (21, m, 1) := by
  unfold cA
  rw [if_neg (by omega), if_neg (by omega), if_neg (by omega), if_neg (by omega), if_neg (by omega), if_neg (by omega), if_neg (by omega), Nat.add_sub_cancel_left]
theorem cA_fl : ∀ q, q < 4 → cA (132 + 5 * q) = (22, q, 0) := by decide +kernel
theorem cA_la : ∀ q, q < 4 → ∀ w, w < 4 → cA (132 + 5 * q + 1 + w) = (21, 4 * q + w, 2) := by decide +kernel
theorem i_its {β σ i : Nat} {y : Cl} {N : Mem} {V : LM} (hb : N.1 (10, 0, 0) 7 = nI β) (hβ : β < 5) (hi : i < 472) (hy : cA i = y) : f_X12_its (nI i) (putM β σ N V) = some (V.1 y, putM β σ N V) := by
  rw [e_its (by rw [rd10]; exact hb) hβ rfl hi, rdA hi, hy]
theorem i_puts {β σ i : Nat} {y : Cl} {v : Int32} {N : Mem} {V : LM} (hb : N.1 (10, 0, 0) 7 = nI β) (hβ : β < 5) (hi : i < 472) (hy : cA i = y) : f_X12_puts (nI i) v (putM β σ N V) = some ((), putM β σ N (wI V y v)) := by
  rw [e_puts (by rw [rd10]; exact hb) hβ rfl hi, wrA hi, hy]
theorem i_adds {β σ i : Nat} {y : Cl} {v : Int32} {N : Mem} {V : LM} (hb : N.1 (10, 0, 0) 7 = nI β) (hβ : β < 5) (hi : i < 472) (hy : cA i = y) : f_X12_adds (nI i) v (putM β σ N V) = some ((), putM β σ N (wI V y (V.1 y + v))) := by
  rw [e_adds (by rw [rd10]; exact hb) hβ rfl hi, rdA hi, wrA hi, hy]
theorem bnd_some {ρ σ : Type} {r : ρ} {M : Mem} {k : ρ → Mem → Option σ} : bnd (some (r, M)) k = k r M := Eq.trans rfl rfl
theorem bng_some {ρ σ : Type} {r : ρ} {L : LM} {k : ρ → LM → Option σ} : bng (some (r, L)) k = k r L := Eq.trans rfl rfl
theorem bad104 {t b : Nat} (h : b + t < 104) : bad (nI b + nI t) 104 = False := by
  rw [nI_add]; exact eq_false (nbad h (by decide))
theorem rdSet {β b t : Nat} {y : Cl} {N : Mem} {V : LM} (h : b + t < 52) (hy : cS (b + t) = y) : (putM β 0 N V).1 (31, 0, 0) (Int32.toNatClampNeg (nI b + nI t)) = V.1 y := by
  rw [nI_add, nI_clamp (by omega), ← hy, ← rdS (β := β) (σ := 0) (N := N) (V := V) h, Nat.zero_add]

theorem its_0 {β σ : Nat} {N : Mem} {V : LM} (hb : N.1 (10, 0, 0) 7 = nI β) (hβ : β < 5) : f_X12_its 0 (putM β σ N V) = some (V.1 (2, 15, 0), putM β σ N V) := i_its (i := 0) hb hβ (by decide) (by rfl)
theorem puts_0 {β σ : Nat} {N : Mem} {V : LM} (hb : N.1 (10, 0, 0) 7 = nI β) (hβ : β < 5) {v : Int32} : f_X12_puts 0 v (putM β σ N V) = some ((), putM β σ N (wI V (2, 15, 0) v)) := i_puts (i := 0) hb hβ (by decide) (by rfl)
theorem adds_0 {β σ : Nat} {N : Mem} {V : LM} (hb : N.1 (10, 0, 0) 7 = nI β) (hβ : β < 5) {v : Int32} : f_X12_adds 0 v (putM β σ N V) = some ((), putM β σ N (wI V (2, 15, 0) (V.1 (2, 15, 0) + v))) := i_adds (i := 0) hb hβ (by decide) (by rfl)
theorem its_1 {β σ : Nat} {N : Mem} {V : LM} (hb : N.1 (10, 0, 0) 7 = nI β) (hβ : β < 5) : f_X12_its 1 (putM β σ N V) = some (V.1 (1, 0, 0), putM β σ N V) := i_its (i := 1) hb hβ (by decide) (by rfl)
theorem puts_1 {β σ : Nat} {N : Mem} {V : LM} (hb : N.1 (10, 0, 0) 7 = nI β) (hβ : β < 5) {v : Int32} : f_X12_puts 1 v (putM β σ N V) = some ((), putM β σ N (wI V (1, 0, 0) v)) := i_puts (i := 1) hb hβ (by decide) (by rfl)
theorem adds_1 {β σ : Nat} {N : Mem} {V : LM} (hb : N.1 (10, 0, 0) 7 = nI β) (hβ : β < 5) {v : Int32} : f_X12_adds 1 v (putM β σ N V) = some ((), putM β σ N (wI V (1, 0, 0) (V.1 (1, 0, 0) + v))) := i_adds (i := 1) hb hβ (by decide) (by rfl)
theorem its_2 {β σ : Nat} {N : Mem} {V : LM} (hb : N.1 (10, 0, 0) 7 = nI β) (hβ : β < 5) : f_X12_its 2 (putM β σ N V) = some (V.1 (1, 1, 0), putM β σ N V) := i_its (i := 2) hb hβ (by decide) (by rfl)
theorem puts_2 {β σ : Nat} {N : Mem} {V : LM} (hb : N.1 (10, 0, 0) 7 = nI β) (hβ : β < 5) {v : Int32} : f_X12_puts 2 v (putM β σ N V) = some ((), putM β σ N (wI V (1, 1, 0) v)) := i_puts (i := 2) hb hβ (by decide) (by rfl)
theorem adds_2 {β σ : Nat} {N : Mem} {V : LM} (hb : N.1 (10, 0, 0) 7 = nI β) (hβ : β < 5) {v : Int32} : f_X12_adds 2 v (putM β σ N V) = some ((), putM β σ N (wI V (1, 1, 0) (V.1 (1, 1, 0) + v))) := i_adds (i := 2) hb hβ (by decide) (by rfl)
theorem its_3 {β σ : Nat} {N : Mem} {V : LM} (hb : N.1 (10, 0, 0) 7 = nI β) (hβ : β < 5) : f_X12_its 3 (putM β σ N V) = some (V.1 (1, 2, 0), putM β σ N V) := i_its (i := 3) hb hβ (by decide) (by rfl)
theorem puts_3 {β σ : Nat} {N : Mem} {V : LM} (hb : N.1 (10, 0, 0) 7 = nI β) (hβ : β < 5) {v : Int32} : f_X12_puts 3 v (putM β σ N V) = some ((), putM β σ N (wI V (1, 2, 0) v)) := i_puts (i := 3) hb hβ (by decide) (by rfl)
theorem adds_3 {β σ : Nat} {N : Mem} {V : LM} (hb : N.1 (10, 0, 0) 7 = nI β) (hβ : β < 5) {v : Int32} : f_X12_adds 3 v (putM β σ N V) = some ((), putM β σ N (wI V (1, 2, 0) (V.1 (1, 2, 0) + v))) := i_adds (i := 3) hb hβ (by decide) (by rfl)
theorem its_4 {β σ : Nat} {N : Mem} {V : LM} (hb : N.1 (10, 0, 0) 7 = nI β) (hβ : β < 5) : f_X12_its 4 (putM β σ N V) = some (V.1 (1, 6, 0), putM β σ N V) := i_its (i := 4) hb hβ (by decide) (by rfl)
theorem puts_4 {β σ : Nat} {N : Mem} {V : LM} (hb : N.1 (10, 0, 0) 7 = nI β) (hβ : β < 5) {v : Int32} : f_X12_puts 4 v (putM β σ N V) = some ((), putM β σ N (wI V (1, 6, 0) v)) := i_puts (i := 4) hb hβ (by decide) (by rfl)
theorem adds_4 {β σ : Nat} {N : Mem} {V : LM} (hb : N.1 (10, 0, 0) 7 = nI β) (hβ : β < 5) {v : Int32} : f_X12_adds 4 v (putM β σ N V) = some ((), putM β σ N (wI V (1, 6, 0) (V.1 (1, 6, 0) + v))) := i_adds (i := 4) hb hβ (by decide) (by rfl)
theorem its_5 {β σ : Nat} {N : Mem} {V : LM} (hb : N.1 (10, 0, 0) 7 = nI β) (hβ : β < 5) : f_X12_its 5 (putM β σ N V) = some (V.1 (1, 3, 0), putM β σ N V) := i_its (i := 5) hb hβ (by decide) (by rfl)
theorem puts_5 {β σ : Nat} {N : Mem} {V : LM} (hb : N.1 (10, 0, 0) 7 = nI β) (hβ : β < 5) {v : Int32} : f_X12_puts 5 v (putM β σ N V) = some ((), putM β σ N (wI V (1, 3, 0) v)) := i_puts (i := 5) hb hβ (by decide) (by rfl)
theorem adds_5 {β σ : Nat} {N : Mem} {V : LM} (hb : N.1 (10, 0, 0) 7 = nI β) (hβ : β < 5) {v : Int32} : f_X12_adds 5 v (putM β σ N V) = some ((), putM β σ N (wI V (1, 3, 0) (V.1 (1, 3, 0) + v))) := i_adds (i := 5) hb hβ (by decide) (by rfl)
theorem its_6 {β σ : Nat} {N : Mem} {V : LM} (hb : N.1 (10, 0, 0) 7 = nI β) (hβ : β < 5) : f_X12_its 6 (putM β σ N V) = some (V.1 (1, 4, 0), putM β σ N V) := i_its (i := 6) hb hβ (by decide) (by rfl)
theorem puts_6 {β σ : Nat} {N : Mem} {V : LM} (hb : N.1 (10, 0, 0) 7 = nI β) (hβ : β < 5) {v : Int32} : f_X12_puts 6 v (putM β σ N V) = some ((), putM β σ N (wI V (1, 4, 0) v)) := i_puts (i := 6) hb hβ (by decide) (by rfl)
theorem adds_6 {β σ : Nat} {N : Mem} {V : LM} (hb : N.1 (10, 0, 0) 7 = nI β) (hβ : β < 5) {v : Int32} : f_X12_adds 6 v (putM β σ N V) = some ((), putM β σ N (wI V (1, 4, 0) (V.1 (1, 4, 0) + v))) := i_adds (i := 6) hb hβ (by decide) (by rfl)
theorem its_7 {β σ : Nat} {N : Mem} {V : LM} (hb : N.1 (10, 0, 0) 7 = nI β) (hβ : β < 5) : f_X12_its 7 (putM β σ N V) = some (V.1 (1, 5, 0), putM β σ N V) := i_its (i := 7) hb hβ (by decide) (by rfl)
theorem puts_7 {β σ : Nat} {N : Mem} {V : LM} (hb : N.1 (10, 0, 0) 7 = nI β) (hβ : β < 5) {v : Int32} : f_X12_puts 7 v (putM β σ N V) = some ((), putM β σ N (wI V (1, 5, 0) v)) := i_puts (i := 7) hb hβ (by decide) (by rfl)
theorem adds_7 {β σ : Nat} {N : Mem} {V : LM} (hb : N.1 (10, 0, 0) 7 = nI β) (hβ : β < 5) {v : Int32} : f_X12_adds 7 v (putM β σ N V) = some ((), putM β σ N (wI V (1, 5, 0) (V.1 (1, 5, 0) + v))) := i_adds (i := 7) hb hβ (by decide) (by rfl)
theorem its_8 {β σ : Nat} {N : Mem} {V : LM} (hb : N.1 (10, 0, 0) 7 = nI β) (hβ : β < 5) : f_X12_its 8 (putM β σ N V) = some (V.1 (4, 6, 0), putM β σ N V) := i_its (i := 8) hb hβ (by decide) (by rfl)
theorem puts_8 {β σ : Nat} {N : Mem} {V : LM} (hb : N.1 (10, 0, 0) 7 = nI β) (hβ : β < 5) {v : Int32} : f_X12_puts 8 v (putM β σ N V) = some ((), putM β σ N (wI V (4, 6, 0) v)) := i_puts (i := 8) hb hβ (by decide) (by rfl)
theorem adds_8 {β σ : Nat} {N : Mem} {V : LM} (hb : N.1 (10, 0, 0) 7 = nI β) (hβ : β < 5) {v : Int32} : f_X12_adds 8 v (putM β σ N V) = some ((), putM β σ N (wI V (4, 6, 0) (V.1 (4, 6, 0) + v))) := i_adds (i := 8) hb hβ (by decide) (by rfl)
theorem its_9 {β σ : Nat} {N : Mem} {V : LM} (hb : N.1 (10, 0, 0) 7 = nI β) (hβ : β < 5) : f_X12_its 9 (putM β σ N V) = some (V.1 (2, 16, 0), putM β σ N V) := i_its (i := 9) hb hβ (by decide) (by rfl)
theorem puts_9 {β σ : Nat} {N : Mem} {V : LM} (hb : N.1 (10, 0, 0) 7 = nI β) (hβ : β < 5) {v : Int32} : f_X12_puts 9 v (putM β σ N V) = some ((), putM β σ N (wI V (2, 16, 0) v)) := i_puts (i := 9) hb hβ (by decide) (by rfl)
theorem adds_9 {β σ : Nat} {N : Mem} {V : LM} (hb : N.1 (10, 0, 0) 7 = nI β) (hβ : β < 5) {v : Int32} : f_X12_adds 9 v (putM β σ N V) = some ((), putM β σ N (wI V (2, 16, 0) (V.1 (2, 16, 0) + v))) := i_adds (i := 9) hb hβ (by decide) (by rfl)
theorem its_10 {β σ : Nat} {N : Mem} {V : LM} (hb : N.1 (10, 0, 0) 7 = nI β) (hβ : β < 5) : f_X12_its 10 (putM β σ N V) = some (V.1 (2, 14, 0), putM β σ N V) := i_its (i := 10) hb hβ (by decide) (by rfl)
theorem puts_10 {β σ : Nat} {N : Mem} {V : LM} (hb : N.1 (10, 0, 0) 7 = nI β) (hβ : β < 5) {v : Int32} : f_X12_puts 10 v (putM β σ N V) = some ((), putM β σ N (wI V (2, 14, 0) v)) := i_puts (i := 10) hb hβ (by decide) (by rfl)
theorem adds_10 {β σ : Nat} {N : Mem} {V : LM} (hb : N.1 (10, 0, 0) 7 = nI β) (hβ : β < 5) {v : Int32} : f_X12_adds 10 v (putM β σ N V) = some ((), putM β σ N (wI V (2, 14, 0) (V.1 (2, 14, 0) + v))) := i_adds (i := 10) hb hβ (by decide) (by rfl)
theorem its_11 {β σ : Nat} {N : Mem} {V : LM} (hb : N.1 (10, 0, 0) 7 = nI β) (hβ : β < 5) : f_X12_its 11 (putM β σ N V) = some (V.1 (4, 5, 0), putM β σ N V) := i_its (i := 11) hb hβ (by decide) (by rfl)
theorem puts_11 {β σ : Nat} {N : Mem} {V : LM} (hb : N.1 (10, 0, 0) 7 = nI β) (hβ : β < 5) {v : Int32} : f_X12_puts 11 v (putM β σ N V) = some ((), putM β σ N (wI V (4, 5, 0) v)) := i_puts (i := 11) hb hβ (by decide) (by rfl)
theorem adds_11 {β σ : Nat} {N : Mem} {V : LM} (hb : N.1 (10, 0, 0) 7 = nI β) (hβ : β < 5) {v : Int32} : f_X12_adds 11 v (putM β σ N V) = some ((), putM β σ N (wI V (4, 5, 0) (V.1 (4, 5, 0) + v))) := i_adds (i := 11) hb hβ (by decide) (by rfl)
theorem its_12 {β σ : Nat} {N : Mem} {V : LM} (hb : N.1 (10, 0, 0) 7 = nI β) (hβ : β < 5) : f_X12_its 12 (putM β σ N V) = some (V.1 (4, 5, 1), putM β σ N V) := i_its (i := 12) hb hβ (by decide) (by rfl)
theorem puts_12 {β σ : Nat} {N : Mem} {V : LM} (hb : N.1 (10, 0, 0) 7 = nI β) (hβ : β < 5) {v : Int32} : f_X12_puts 12 v (putM β σ N V) = some ((), putM β σ N (wI V (4, 5, 1) v)) := i_puts (i := 12) hb hβ (by decide) (by rfl)
theorem adds_12 {β σ : Nat} {N : Mem} {V : LM} (hb : N.1 (10, 0, 0) 7 = nI β) (hβ : β < 5) {v : Int32} : f_X12_adds 12 v (putM β σ N V) = some ((), putM β σ N (wI V (4, 5, 1) (V.1 (4, 5, 1) + v))) := i_adds (i := 12) hb hβ (by decide) (by rfl)
theorem its_13 {β σ : Nat} {N : Mem} {V : LM} (hb : N.1 (10, 0, 0) 7 = nI β) (hβ : β < 5) : f_X12_its 13 (putM β σ N V) = some (V.1 (2, 17, 0), putM β σ N V) := i_its (i := 13) hb hβ (by decide) (by rfl)
theorem puts_13 {β σ : Nat} {N : Mem} {V : LM} (hb : N.1 (10, 0, 0) 7 = nI β) (hβ : β < 5) {v : Int32} : f_X12_puts 13 v (putM β σ N V) = some ((), putM β σ N (wI V (2, 17, 0) v)) := i_puts (i := 13) hb hβ (by decide) (by rfl)
theorem adds_13 {β σ : Nat} {N : Mem} {V : LM} (hb : N.1 (10, 0, 0) 7 = nI β) (hβ : β < 5) {v : Int32} : f_X12_adds 13 v (putM β σ N V) = some ((), putM β σ N (wI V (2, 17, 0) (V.1 (2, 17, 0) + v))) := i_adds (i := 13) hb hβ (by decide) (by rfl)
theorem its_155 {β σ : Nat} {N : Mem} {V : LM} (hb : N.1 (10, 0, 0) 7 = nI β) (hβ : β < 5) : f_X12_its 155 (putM β σ N V) = some (V.1 (21, 3, 0), putM β σ N V) := i_its (i := 155) hb hβ (by decide) (by decide)
theorem puts_155 {β σ : Nat} {N : Mem} {V : LM} (hb : N.1 (10, 0, 0) 7 = nI β) (hβ : β < 5) {v : Int32} : f_X12_puts 155 v (putM β σ N V) = some ((), putM β σ N (wI V (21, 3, 0) v)) := i_puts (i := 155) hb hβ (by decide) (by decide)
theorem adds_155 {β σ : Nat} {N : Mem} {V : LM} (hb : N.1 (10, 0, 0) 7 = nI β) (hβ : β < 5) {v : Int32} : f_X12_adds 155 v (putM β σ N V) = some ((), putM β σ N (wI V (21, 3, 0) (V.1 (21, 3, 0) + v))) := i_adds (i := 155) hb hβ (by decide) (by decide)
theorem seq_0 {s : Nat} {M : Mem} : f_X12_seq (nI s) 0 M = some (kSq s 0, M) := e_seq rfl (k := 0) rfl
theorem seq_0_0 {M : Mem} : f_X12_seq 0 0 M = some (kSq 0 0, M) := e_seq (s := 0) rfl (k := 0) rfl
theorem seq_1_0 {M : Mem} : f_X12_seq 1 0 M = some (kSq 1 0, M) := e_seq (s := 1) rfl (k := 0) rfl
theorem itsseq_0 {β σ : Nat} {N : Mem} {V : LM} (hb : N.1 (10, 0, 0) 7 = nI β) (hβ : β < 5) {s : Nat} (hs : s < 2) : f_X12_its (kSq s 0) (putM β σ N V) = some (V.1 (5, 3, s), putM β σ N V) := i_its hb hβ (by omega) (cA_sq s hs 0 (by decide))
theorem putsseq_0 {β σ : Nat} {N : Mem} {V : LM} (hb : N.1 (10, 0, 0) 7 = nI β) (hβ : β < 5) {s : Nat} {v : Int32} (hs : s < 2) : f_X12_puts (kSq s 0) v (putM β σ N V) = some ((), putM β σ N (wI V (5, 3, s) v)) := i_puts hb hβ (by omega) (cA_sq s hs 0 (by decide))
theorem addsseq_0 {β σ : Nat} {N : Mem} {V : LM} (hb : N.1 (10, 0, 0) 7 = nI β) (hβ : β < 5) {s : Nat} {v : Int32} (hs : s < 2) : f_X12_adds (kSq s 0) v (putM β σ N V) = some ((), putM β σ N (wI V (5, 3, s) (V.1 (5, 3, s) + v))) := i_adds hb hβ (by omega) (cA_sq s hs 0 (by decide))
theorem seq_1 {s : Nat} {M : Mem} : f_X12_seq (nI s) 1 M = some (kSq s 1, M) := e_seq rfl (k := 1) rfl
theorem seq_0_1 {M : Mem} : f_X12_seq 0 1 M = some (kSq 0 1, M) := e_seq (s := 0) rfl (k := 1) rfl
theorem seq_1_1 {M : Mem} : f_X12_seq 1 1 M = some (kSq 1 1, M) := e_seq (s := 1) rfl (k := 1) rfl
theorem itsseq_1 {β σ : Nat} {N : Mem} {V : LM} (hb : N.1 (10, 0, 0) 7 = nI β) (hβ : β < 5) {s : Nat} (hs : s < 2) : f_X12_its (kSq s 1) (putM β σ N V) = some (V.1 (5, 4, s), putM β σ N V) := i_its hb hβ (by omega) (cA_sq s hs 1 (by decide))
theorem putsseq_1 {β σ : Nat} {N : Mem} {V : LM} (hb : N.1 (10, 0, 0) 7 = nI β) (hβ : β < 5) {s : Nat} {v : Int32} (hs : s < 2) : f_X12_puts (kSq s 1) v (putM β σ N V) = some ((), putM β σ N (wI V (5, 4, s) v)) := i_puts hb hβ (by omega) (cA_sq s hs 1 (by decide))
theorem addsseq_1 {β σ : Nat} {N : Mem} {V : LM} (hb : N.1 (10, 0, 0) 7 = nI β) (hβ : β < 5) {s : Nat} {v : Int32} (hs : s < 2) : f_X12_adds (kSq s 1) v (putM β σ N V) = some ((), putM β σ N (wI V (5, 4, s) (V.1 (5, 4, s) + v))) := i_adds hb hβ (by omega) (cA_sq s hs 1 (by decide))
theorem seq_2 {s : Nat} {M : Mem} : f_X12_seq (nI s) 2 M = some (kSq s 2, M) := e_seq rfl (k := 2) rfl
theorem seq_0_2 {M : Mem} : f_X12_seq 0 2 M = some (kSq 0 2, M) := e_seq (s := 0) rfl (k := 2) rfl
theorem seq_1_2 {M : Mem} : f_X12_seq 1 2 M = some (kSq 1 2, M) := e_seq (s := 1) rfl (k := 2) rfl
theorem itsseq_2 {β σ : Nat} {N : Mem} {V : LM} (hb : N.1 (10, 0, 0) 7 = nI β) (hβ : β < 5) {s : Nat} (hs : s < 2) : f_X12_its (kSq s 2) (putM β σ N V) = some (V.1 (5, 6, s), putM β σ N V) := i_its hb hβ (by omega) (cA_sq s hs 2 (by decide))
theorem putsseq_2 {β σ : Nat} {N : Mem} {V : LM} (hb : N.1 (10, 0, 0) 7 = nI β) (hβ : β < 5) {s : Nat} {v : Int32} (hs : s < 2) : f_X12_puts (kSq s 2) v (putM β σ N V) = some ((), putM β σ N (wI V (5, 6, s) v)) := i_puts hb hβ (by omega) (cA_sq s hs 2 (by decide))
theorem addsseq_2 {β σ : Nat} {N : Mem} {V : LM} (hb : N.1 (10, 0, 0) 7 = nI β) (hβ : β < 5) {s : Nat} {v : Int32} (hs : s < 2) : f_X12_adds (kSq s 2) v (putM β σ N V) = some ((), putM β σ N (wI V (5, 6, s) (V.1 (5, 6, s) + v))) := i_adds hb hβ (by omega) (cA_sq s hs 2 (by decide))
theorem seq_3 {s : Nat} {M : Mem} : f_X12_seq (nI s) 3 M = some (kSq s 3, M) := e_seq rfl (k := 3) rfl
theorem seq_0_3 {M : Mem} : f_X12_seq 0 3 M = some (kSq 0 3, M) := e_seq (s := 0) rfl (k := 3) rfl
theorem seq_1_3 {M : Mem} : f_X12_seq 1 3 M = some (kSq 1 3, M) := e_seq (s := 1) rfl (k := 3) rfl
theorem itsseq_3 {β σ : Nat} {N : Mem} {V : LM} (hb : N.1 (10, 0, 0) 7 = nI β) (hβ : β < 5) {s : Nat} (hs : s < 2) : f_X12_its (kSq s 3) (putM β σ N V) = some (V.1 (5, 7, s), putM β σ N V) := i_its hb hβ (by omega) (cA_sq s hs 3 (by decide))
theorem putsseq_3 {β σ : Nat} {N : Mem} {V : LM} (hb : N.1 (10, 0, 0) 7 = nI β) (hβ : β < 5) {s : Nat} {v : Int32} (hs : s < 2) : f_X12_puts (kSq s 3) v (putM β σ N V) = some ((), putM β σ N (wI V (5, 7, s) v)) := i_puts hb hβ (by omega) (cA_sq s hs 3 (by decide))
theorem addsseq_3 {β σ : Nat} {N : Mem} {V : LM} (hb : N.1 (10, 0, 0) 7 = nI β) (hβ : β < 5) {s : Nat} {v : Int32} (hs : s < 2) : f_X12_adds (kSq s 3) v (putM β σ N V) = some ((), putM β σ N (wI V (5, 7, s) (V.1 (5, 7, s) + v))) := i_adds hb hβ (by omega) (cA_sq s hs 3 (by decide))
theorem seq_4 {s : Nat} {M : Mem} : f_X12_seq (nI s) 4 M = some (kSq s 4, M) := e_seq rfl (k := 4) rfl
theorem seq_0_4 {M : Mem} : f_X12_seq 0 4 M = some (kSq 0 4, M) := e_seq (s := 0) rfl (k := 4) rfl
theorem seq_1_4 {M : Mem} : f_X12_seq 1 4 M = some (kSq 1 4, M) := e_seq (s := 1) rfl (k := 4) rfl
theorem itsseq_4 {β σ : Nat} {N : Mem} {V : LM} (hb : N.1 (10, 0, 0) 7 = nI β) (hβ : β < 5) {s : Nat} (hs : s < 2) : f_X12_its (kSq s 4) (putM β σ N V) = some (V.1 (5, 8, s), putM β σ N V) := i_its hb hβ (by omega) (cA_sq s hs 4 (by decide))
theorem putsseq_4 {β σ : Nat} {N : Mem} {V : LM} (hb : N.1 (10, 0, 0) 7 = nI β) (hβ : β < 5) {s : Nat} {v : Int32} (hs : s < 2) : f_X12_puts (kSq s 4) v (putM β σ N V) = some ((), putM β σ N (wI V (5, 8, s) v)) := i_puts hb hβ (by omega) (cA_sq s hs 4 (by decide))
theorem addsseq_4 {β σ : Nat} {N : Mem} {V : LM} (hb : N.1 (10, 0, 0) 7 = nI β) (hβ : β < 5) {s : Nat} {v : Int32} (hs : s < 2) : f_X12_adds (kSq s 4) v (putM β σ N V) = some ((), putM β σ N (wI V (5, 8, s) (V.1 (5, 8, s) + v))) := i_adds hb hβ (by omega) (cA_sq s hs 4 (by decide))
theorem seq_5 {s : Nat} {M : Mem} : f_X12_seq (nI s) 5 M = some (kSq s 5, M) := e_seq rfl (k := 5) rfl
theorem seq_0_5 {M : Mem} : f_X12_seq 0 5 M = some (kSq 0 5, M) := e_seq (s := 0) rfl (k := 5) rfl
theorem seq_1_5 {M : Mem} : f_X12_seq 1 5 M = some (kSq 1 5, M) := e_seq (s := 1) rfl (k := 5) rfl
theorem itsseq_5 {β σ : Nat} {N : Mem} {V : LM} (hb : N.1 (10, 0, 0) 7 = nI β) (hβ : β < 5) {s : Nat} (hs : s < 2) : f_X12_its (kSq s 5) (putM β σ N V) = some (V.1 (5, 9, s), putM β σ N V) := i_its hb hβ (by omega) (cA_sq s hs 5 (by decide))
theorem putsseq_5 {β σ : Nat} {N : Mem} {V : LM} (hb : N.1 (10, 0, 0) 7 = nI β) (hβ : β < 5) {s : Nat} {v : Int32} (hs : s < 2) : f_X12_puts (kSq s 5) v (putM β σ N V) = some ((), putM β σ N (wI V (5, 9, s) v)) := i_puts hb hβ (by omega) (cA_sq s hs 5 (by decide))
theorem addsseq_5 {β σ : Nat} {N : Mem} {V : LM} (hb : N.1 (10, 0, 0) 7 = nI β) (hβ : β < 5) {s : Nat} {v : Int32} (hs : s < 2) : f_X12_adds (kSq s 5) v (putM β σ N V) = some ((), putM β σ N (wI V (5, 9, s) (V.1 (5, 9, s) + v))) := i_adds hb hβ (by omega) (cA_sq s hs 5 (by decide))
theorem seq_6 {s : Nat} {M : Mem} : f_X12_seq (nI s) 6 M = some (kSq s 6, M) := e_seq rfl (k := 6) rfl
theorem seq_0_6 {M : Mem} : f_X12_seq 0 6 M = some (kSq 0 6, M) := e_seq (s := 0) rfl (k := 6) rfl
theorem seq_1_6 {M : Mem} : f_X12_seq 1 6 M = some (kSq 1 6, M) := e_seq (s := 1) rfl (k := 6) rfl
theorem itsseq_6 {β σ : Nat} {N : Mem} {V : LM} (hb : N.1 (10, 0, 0) 7 = nI β) (hβ : β < 5) {s : Nat} (hs : s < 2) : f_X12_its (kSq s 6) (putM β σ N V) = some (V.1 (5, 10, s), putM β σ N V) := i_its hb hβ (by omega) (cA_sq s hs 6 (by decide))
theorem putsseq_6 {β σ : Nat} {N : Mem} {V : LM} (hb : N.1 (10, 0, 0) 7 = nI β) (hβ : β < 5) {s : Nat} {v : Int32} (hs : s < 2) : f_X12_puts (kSq s 6) v (putM β σ N V) = some ((), putM β σ N (wI V (5, 10, s) v)) := i_puts hb hβ (by omega) (cA_sq s hs 6 (by decide))
theorem addsseq_6 {β σ : Nat} {N : Mem} {V : LM} (hb : N.1 (10, 0, 0) 7 = nI β) (hβ : β < 5) {s : Nat} {v : Int32} (hs : s < 2) : f_X12_adds (kSq s 6) v (putM β σ N V) = some ((), putM β σ N (wI V (5, 10, s) (V.1 (5, 10, s) + v))) := i_adds hb hβ (by omega) (cA_sq s hs 6 (by decide))
theorem seq_7 {s : Nat} {M : Mem} : f_X12_seq (nI s) 7 M = some (kSq s 7, M) := e_seq rfl (k := 7) rfl
theorem seq_0_7 {M : Mem} : f_X12_seq 0 7 M = some (kSq 0 7, M) := e_seq (s := 0) rfl (k := 7) rfl
theorem seq_1_7 {M : Mem} : f_X12_seq 1 7 M = some (kSq 1 7, M) := e_seq (s := 1) rfl (k := 7) rfl
theorem itsseq_7 {β σ : Nat} {N : Mem} {V : LM} (hb : N.1 (10, 0, 0) 7 = nI β) (hβ : β < 5) {s : Nat} (hs : s < 2) : f_X12_its (kSq s 7) (putM β σ N V) = some (V.1 (5, 11, s), putM β σ N V) := i_its hb hβ (by omega) (cA_sq s hs 7 (by decide))
theorem putsseq_7 {β σ : Nat} {N : Mem} {V : LM} (hb : N.1 (10, 0, 0) 7 = nI β) (hβ : β < 5) {s : Nat} {v : Int32} (hs : s < 2) : f_X12_puts (kSq s 7) v (putM β σ N V) = some ((), putM β σ N (wI V (5, 11, s) v)) := i_puts hb hβ (by omega) (cA_sq s hs 7 (by decide))
theorem addsseq_7 {β σ : Nat} {N : Mem} {V : LM} (hb : N.1 (10, 0, 0) 7 = nI β) (hβ : β < 5) {s : Nat} {v : Int32} (hs : s < 2) : f_X12_adds (kSq s 7) v (putM β σ N V) = some ((), putM β σ N (wI V (5, 11, s) (V.1 (5, 11, s) + v))) := i_adds hb hβ (by omega) (cA_sq s hs 7 (by decide))
theorem seq_8 {s : Nat} {M : Mem} : f_X12_seq (nI s) 8 M = some (kSq s 8, M) := e_seq rfl (k := 8) rfl
theorem seq_0_8 {M : Mem} : f_X12_seq 0 8 M = some (kSq 0 8, M) := e_seq (s := 0) rfl (k := 8) rfl
theorem seq_1_8 {M : Mem} : f_X12_seq 1 8 M = some (kSq 1 8, M) := e_seq (s := 1) rfl (k := 8) rfl
theorem itsseq_8 {β σ : Nat} {N : Mem} {V : LM} (hb : N.1 (10, 0, 0) 7 = nI β) (hβ : β < 5) {s : Nat} (hs : s < 2) : f_X12_its (kSq s 8) (putM β σ N V) = some (V.1 (5, 5, s), putM β σ N V) := i_its hb hβ (by omega) (cA_sq s hs 8 (by decide))
theorem putsseq_8 {β σ : Nat} {N : Mem} {V : LM} (hb : N.1 (10, 0, 0) 7 = nI β) (hβ : β < 5) {s : Nat} {v : Int32} (hs : s < 2) : f_X12_puts (kSq s 8) v (putM β σ N V) = some ((), putM β σ N (wI V (5, 5, s) v)) := i_puts hb hβ (by omega) (cA_sq s hs 8 (by decide))
theorem addsseq_8 {β σ : Nat} {N : Mem} {V : LM} (hb : N.1 (10, 0, 0) 7 = nI β) (hβ : β < 5) {s : Nat} {v : Int32} (hs : s < 2) : f_X12_adds (kSq s 8) v (putM β σ N V) = some ((), putM β σ N (wI V (5, 5, s) (V.1 (5, 5, s) + v))) := i_adds hb hβ (by omega) (cA_sq s hs 8 (by decide))
theorem chan_0 {s : Nat} {M : Mem} : f_X12_chan (nI s) 0 M = some (kCh s 0, M) := e_chan rfl (k := 0) rfl
theorem itschan_0 {β σ : Nat} {N : Mem} {V : LM} (hb : N.1 (10, 0, 0) 7 = nI β) (hβ : β < 5) {s : Nat} (hs : s < 8) : f_X12_its (kCh s 0) (putM β σ N V) = some (V.1 (0, 0, s), putM β σ N V) := i_its hb hβ (by omega) (cA_ch s hs 0 (by decide))
theorem putschan_0 {β σ : Nat} {N : Mem} {V : LM} (hb : N.1 (10, 0, 0) 7 = nI β) (hβ : β < 5) {s : Nat} {v : Int32} (hs : s < 8) : f_X12_puts (kCh s 0) v (putM β σ N V) = some ((), putM β σ N (wI V (0, 0, s) v)) := i_puts hb hβ (by omega) (cA_ch s hs 0 (by decide))
theorem addschan_0 {β σ : Nat} {N : Mem} {V : LM} (hb : N.1 (10, 0, 0) 7 = nI β) (hβ : β < 5) {s : Nat} {v : Int32} (hs : s < 8) : f_X12_adds (kCh s 0) v (putM β σ N V) = some ((), putM β σ N (wI V (0, 0, s) (V.1 (0, 0, s) + v))) := i_adds hb hβ (by omega) (cA_ch s hs 0 (by decide))
theorem chan_1 {s : Nat} {M : Mem} : f_X12_chan (nI s) 1 M = some (kCh s 1, M) := e_chan rfl (k := 1) rfl
theorem itschan_1 {β σ : Nat} {N : Mem} {V : LM} (hb : N.1 (10, 0, 0) 7 = nI β) (hβ : β < 5) {s : Nat} (hs : s < 8) : f_X12_its (kCh s 1) (putM β σ N V) = some (V.1 (0, 2, s), putM β σ N V) := i_its hb hβ (by omega) (cA_ch s hs 1 (by decide))
theorem putschan_1 {β σ : Nat} {N : Mem} {V : LM} (hb : N.1 (10, 0, 0) 7 = nI β) (hβ : β < 5) {s : Nat} {v : Int32} (hs : s < 8) : f_X12_puts (kCh s 1) v (putM β σ N V) = some ((), putM β σ N (wI V (0, 2, s) v)) := i_puts hb hβ (by omega) (cA_ch s hs 1 (by decide))
theorem addschan_1 {β σ : Nat} {N : Mem} {V : LM} (hb : N.1 (10, 0, 0) 7 = nI β) (hβ : β < 5) {s : Nat} {v : Int32} (hs : s < 8) : f_X12_adds (kCh s 1) v (putM β σ N V) = some ((), putM β σ N (wI V (0, 2, s) (V.1 (0, 2, s) + v))) := i_adds hb hβ (by omega) (cA_ch s hs 1 (by decide))
theorem chan_2 {s : Nat} {M : Mem} : f_X12_chan (nI s) 2 M = some (kCh s 2, M) := e_chan rfl (k := 2) rfl
theorem itschan_2 {β σ : Nat} {N : Mem} {V : LM} (hb : N.1 (10, 0, 0) 7 = nI β) (hβ : β < 5) {s : Nat} (hs : s < 8) : f_X12_its (kCh s 2) (putM β σ N V) = some (V.1 (0, 3, s), putM β σ N V) := i_its hb hβ (by omega) (cA_ch s hs 2 (by decide))
theorem putschan_2 {β σ : Nat} {N : Mem} {V : LM} (hb : N.1 (10, 0, 0) 7 = nI β) (hβ : β < 5) {s : Nat} {v : Int32} (hs : s < 8) : f_X12_puts (kCh s 2) v (putM β σ N V) = some ((), putM β σ N (wI V (0, 3, s) v)) := i_puts hb hβ (by omega) (cA_ch s hs 2 (by decide))
theorem addschan_2 {β σ : Nat} {N : Mem} {V : LM} (hb : N.1 (10, 0, 0) 7 = nI β) (hβ : β < 5) {s : Nat} {v : Int32} (hs : s < 8) : f_X12_adds (kCh s 2) v (putM β σ N V) = some ((), putM β σ N (wI V (0, 3, s) (V.1 (0, 3, s) + v))) := i_adds hb hβ (by omega) (cA_ch s hs 2 (by decide))
theorem chan_3 {s : Nat} {M : Mem} : f_X12_chan (nI s) 3 M = some (kCh s 3, M) := e_chan rfl (k := 3) rfl
theorem itschan_3 {β σ : Nat} {N : Mem} {V : LM} (hb : N.1 (10, 0, 0) 7 = nI β) (hβ : β < 5) {s : Nat} (hs : s < 8) : f_X12_its (kCh s 3) (putM β σ N V) = some (V.1 (0, 4, s), putM β σ N V) := i_its hb hβ (by omega) (cA_ch s hs 3 (by decide))
theorem putschan_3 {β σ : Nat} {N : Mem} {V : LM} (hb : N.1 (10, 0, 0) 7 = nI β) (hβ : β < 5) {s : Nat} {v : Int32} (hs : s < 8) : f_X12_puts (kCh s 3) v (putM β σ N V) = some ((), putM β σ N (wI V (0, 4, s) v)) := i_puts hb hβ (by omega) (cA_ch s hs 3 (by decide))
theorem addschan_3 {β σ : Nat} {N : Mem} {V : LM} (hb : N.1 (10, 0, 0) 7 = nI β) (hβ : β < 5) {s : Nat} {v : Int32} (hs : s < 8) : f_X12_adds (kCh s 3) v (putM β σ N V) = some ((), putM β σ N (wI V (0, 4, s) (V.1 (0, 4, s) + v))) := i_adds hb hβ (by omega) (cA_ch s hs 3 (by decide))
theorem chan_4 {s : Nat} {M : Mem} : f_X12_chan (nI s) 4 M = some (kCh s 4, M) := e_chan rfl (k := 4) rfl
theorem itschan_4 {β σ : Nat} {N : Mem} {V : LM} (hb : N.1 (10, 0, 0) 7 = nI β) (hβ : β < 5) {s : Nat} (hs : s < 8) : f_X12_its (kCh s 4) (putM β σ N V) = some (V.1 (0, 5, s), putM β σ N V) := i_its hb hβ (by omega) (cA_ch s hs 4 (by decide))
theorem putschan_4 {β σ : Nat} {N : Mem} {V : LM} (hb : N.1 (10, 0, 0) 7 = nI β) (hβ : β < 5) {s : Nat} {v : Int32} (hs : s < 8) : f_X12_puts (kCh s 4) v (putM β σ N V) = some ((), putM β σ N (wI V (0, 5, s) v)) := i_puts hb hβ (by omega) (cA_ch s hs 4 (by decide))
theorem addschan_4 {β σ : Nat} {N : Mem} {V : LM} (hb : N.1 (10, 0, 0) 7 = nI β) (hβ : β < 5) {s : Nat} {v : Int32} (hs : s < 8) : f_X12_adds (kCh s 4) v (putM β σ N V) = some ((), putM β σ N (wI V (0, 5, s) (V.1 (0, 5, s) + v))) := i_adds hb hβ (by omega) (cA_ch s hs 4 (by decide))
theorem chan_5 {s : Nat} {M : Mem} : f_X12_chan (nI s) 5 M = some (kCh s 5, M) := e_chan rfl (k := 5) rfl
theorem itschan_5 {β σ : Nat} {N : Mem} {V : LM} (hb : N.1 (10, 0, 0) 7 = nI β) (hβ : β < 5) {s : Nat} (hs : s < 8) : f_X12_its (kCh s 5) (putM β σ N V) = some (V.1 (0, 6, s), putM β σ N V) := i_its hb hβ (by omega) (cA_ch s hs 5 (by decide))
theorem putschan_5 {β σ : Nat} {N : Mem} {V : LM} (hb : N.1 (10, 0, 0) 7 = nI β) (hβ : β < 5) {s : Nat} {v : Int32} (hs : s < 8) : f_X12_puts (kCh s 5) v (putM β σ N V) = some ((), putM β σ N (wI V (0, 6, s) v)) := i_puts hb hβ (by omega) (cA_ch s hs 5 (by decide))
theorem addschan_5 {β σ : Nat} {N : Mem} {V : LM} (hb : N.1 (10, 0, 0) 7 = nI β) (hβ : β < 5) {s : Nat} {v : Int32} (hs : s < 8) : f_X12_adds (kCh s 5) v (putM β σ N V) = some ((), putM β σ N (wI V (0, 6, s) (V.1 (0, 6, s) + v))) := i_adds hb hβ (by omega) (cA_ch s hs 5 (by decide))
theorem chan_6 {s : Nat} {M : Mem} : f_X12_chan (nI s) 6 M = some (kCh s 6, M) := e_chan rfl (k := 6) rfl
theorem itschan_6 {β σ : Nat} {N : Mem} {V : LM} (hb : N.1 (10, 0, 0) 7 = nI β) (hβ : β < 5) {s : Nat} (hs : s < 8) : f_X12_its (kCh s 6) (putM β σ N V) = some (V.1 (0, 7, s), putM β σ N V) := i_its hb hβ (by omega) (cA_ch s hs 6 (by decide))
theorem putschan_6 {β σ : Nat} {N : Mem} {V : LM} (hb : N.1 (10, 0, 0) 7 = nI β) (hβ : β < 5) {s : Nat} {v : Int32} (hs : s < 8) : f_X12_puts (kCh s 6) v (putM β σ N V) = some ((), putM β σ N (wI V (0, 7, s) v)) := i_puts hb hβ (by omega) (cA_ch s hs 6 (by decide))
theorem addschan_6 {β σ : Nat} {N : Mem} {V : LM} (hb : N.1 (10, 0, 0) 7 = nI β) (hβ : β < 5) {s : Nat} {v : Int32} (hs : s < 8) : f_X12_adds (kCh s 6) v (putM β σ N V) = some ((), putM β σ N (wI V (0, 7, s) (V.1 (0, 7, s) + v))) := i_adds hb hβ (by omega) (cA_ch s hs 6 (by decide))
theorem trig_0 {s : Nat} {M : Mem} : f_X12_trig (nI s) 0 M = some (kTr s 0, M) := e_trig rfl (k := 0) rfl
theorem itstrig_0 {β σ : Nat} {N : Mem} {V : LM} (hb : N.1 (10, 0, 0) 7 = nI β) (hβ : β < 5) {s : Nat} (hs : s < 4) : f_X12_its (kTr s 0) (putM β σ N V) = some (V.1 (7, 3, s), putM β σ N V) := i_its hb hβ (by omega) (cA_tr s hs 0 (by decide))
theorem putstrig_0 {β σ : Nat} {N : Mem} {V : LM} (hb : N.1 (10, 0, 0) 7 = nI β) (hβ : β < 5) {s : Nat} {v : Int32} (hs : s < 4) : f_X12_puts (kTr s 0) v (putM β σ N V) = some ((), putM β σ N (wI V (7, 3, s) v)) := i_puts hb hβ (by omega) (cA_tr s hs 0 (by decide))
theorem addstrig_0 {β σ : Nat} {N : Mem} {V : LM} (hb : N.1 (10, 0, 0) 7 = nI β) (hβ : β < 5) {s : Nat} {v : Int32} (hs : s < 4) : f_X12_adds (kTr s 0) v (putM β σ N V) = some ((), putM β σ N (wI V (7, 3, s) (V.1 (7, 3, s) + v))) := i_adds hb hβ (by omega) (cA_tr s hs 0 (by decide))
theorem trig_1 {s : Nat} {M : Mem} : f_X12_trig (nI s) 1 M = some (kTr s 1, M) := e_trig rfl (k := 1) rfl
theorem itstrig_1 {β σ : Nat} {N : Mem} {V : LM} (hb : N.1 (10, 0, 0) 7 = nI β) (hβ : β < 5) {s : Nat} (hs : s < 4) : f_X12_its (kTr s 1) (putM β σ N V) = some (V.1 (7, 4, s), putM β σ N V) := i_its hb hβ (by omega) (cA_tr s hs 1 (by decide))
theorem putstrig_1 {β σ : Nat} {N : Mem} {V : LM} (hb : N.1 (10, 0, 0) 7 = nI β) (hβ : β < 5) {s : Nat} {v : Int32} (hs : s < 4) : f_X12_puts (kTr s 1) v (putM β σ N V) = some ((), putM β σ N (wI V (7, 4, s) v)) := i_puts hb hβ (by omega) (cA_tr s hs 1 (by decide))
theorem addstrig_1 {β σ : Nat} {N : Mem} {V : LM} (hb : N.1 (10, 0, 0) 7 = nI β) (hβ : β < 5) {s : Nat} {v : Int32} (hs : s < 4) : f_X12_adds (kTr s 1) v (putM β σ N V) = some ((), putM β σ N (wI V (7, 4, s) (V.1 (7, 4, s) + v))) := i_adds hb hβ (by omega) (cA_tr s hs 1 (by decide))
theorem win_0 {s : Nat} {M : Mem} : f_X12_win (nI s) 0 M = some (kWn s 0, M) := e_win rfl (k := 0) rfl
theorem itswin_0 {β σ : Nat} {N : Mem} {V : LM} (hb : N.1 (10, 0, 0) 7 = nI β) (hβ : β < 5) {s : Nat} (hs : s < 3) : f_X12_its (kWn s 0) (putM β σ N V) = some (V.1 (8, 1, s), putM β σ N V) := i_its hb hβ (by omega) (cA_wn s hs 0 (by decide))
theorem putswin_0 {β σ : Nat} {N : Mem} {V : LM} (hb : N.1 (10, 0, 0) 7 = nI β) (hβ : β < 5) {s : Nat} {v : Int32} (hs : s < 3) : f_X12_puts (kWn s 0) v (putM β σ N V) = some ((), putM β σ N (wI V (8, 1, s) v)) := i_puts hb hβ (by omega) (cA_wn s hs 0 (by decide))
theorem addswin_0 {β σ : Nat} {N : Mem} {V : LM} (hb : N.1 (10, 0, 0) 7 = nI β) (hβ : β < 5) {s : Nat} {v : Int32} (hs : s < 3) : f_X12_adds (kWn s 0) v (putM β σ N V) = some ((), putM β σ N (wI V (8, 1, s) (V.1 (8, 1, s) + v))) := i_adds hb hβ (by omega) (cA_wn s hs 0 (by decide))
theorem win_1 {s : Nat} {M : Mem} : f_X12_win (nI s) 1 M = some (kWn s 1, M) := e_win rfl (k := 1) rfl
theorem itswin_1 {β σ : Nat} {N : Mem} {V : LM} (hb : N.1 (10, 0, 0) 7 = nI β) (hβ : β < 5) {s : Nat} (hs : s < 3) : f_X12_its (kWn s 1) (putM β σ N V) = some (V.1 (8, 2, s), putM β σ N V) := i_its hb hβ (by omega) (cA_wn s hs 1 (by decide))
theorem putswin_1 {β σ : Nat} {N : Mem} {V : LM} (hb : N.1 (10, 0, 0) 7 = nI β) (hβ : β < 5) {s : Nat} {v : Int32} (hs : s < 3) : f_X12_puts (kWn s 1) v (putM β σ N V) = some ((), putM β σ N (wI V (8, 2, s) v)) := i_puts hb hβ (by omega) (cA_wn s hs 1 (by decide))
theorem addswin_1 {β σ : Nat} {N : Mem} {V : LM} (hb : N.1 (10, 0, 0) 7 = nI β) (hβ : β < 5) {s : Nat} {v : Int32} (hs : s < 3) : f_X12_adds (kWn s 1) v (putM β σ N V) = some ((), putM β σ N (wI V (8, 2, s) (V.1 (8, 2, s) + v))) := i_adds hb hβ (by omega) (cA_wn s hs 1 (by decide))
theorem win_2 {s : Nat} {M : Mem} : f_X12_win (nI s) 2 M = some (kWn s 2, M) := e_win rfl (k := 2) rfl
theorem itswin_2 {β σ : Nat} {N : Mem} {V : LM} (hb : N.1 (10, 0, 0) 7 = nI β) (hβ : β < 5) {s : Nat} (hs : s < 3) : f_X12_its (kWn s 2) (putM β σ N V) = some (V.1 (8, 5, s), putM β σ N V) := i_its hb hβ (by omega) (cA_wn s hs 2 (by decide))
theorem putswin_2 {β σ : Nat} {N : Mem} {V : LM} (hb : N.1 (10, 0, 0) 7 = nI β) (hβ : β < 5) {s : Nat} {v : Int32} (hs : s < 3) : f_X12_puts (kWn s 2) v (putM β σ N V) = some ((), putM β σ N (wI V (8, 5, s) v)) := i_puts hb hβ (by omega) (cA_wn s hs 2 (by decide))
theorem addswin_2 {β σ : Nat} {N : Mem} {V : LM} (hb : N.1 (10, 0, 0) 7 = nI β) (hβ : β < 5) {s : Nat} {v : Int32} (hs : s < 3) : f_X12_adds (kWn s 2) v (putM β σ N V) = some ((), putM β σ N (wI V (8, 5, s) (V.1 (8, 5, s) + v))) := i_adds hb hβ (by omega) (cA_wn s hs 2 (by decide))
theorem win_3 {s : Nat} {M : Mem} : f_X12_win (nI s) 3 M = some (kWn s 3, M) := e_win rfl (k := 3) rfl
theorem itswin_3 {β σ : Nat} {N : Mem} {V : LM} (hb : N.1 (10, 0, 0) 7 = nI β) (hβ : β < 5) {s : Nat} (hs : s < 3) : f_X12_its (kWn s 3) (putM β σ N V) = some (V.1 (8, 6, s), putM β σ N V) := i_its hb hβ (by omega) (cA_wn s hs 3 (by decide))
theorem putswin_3 {β σ : Nat} {N : Mem} {V : LM} (hb : N.1 (10, 0, 0) 7 = nI β) (hβ : β < 5) {s : Nat} {v : Int32} (hs : s < 3) : f_X12_puts (kWn s 3) v (putM β σ N V) = some ((), putM β σ N (wI V (8, 6, s) v)) := i_puts hb hβ (by omega) (cA_wn s hs 3 (by decide))
theorem addswin_3 {β σ : Nat} {N : Mem} {V : LM} (hb : N.1 (10, 0, 0) 7 = nI β) (hβ : β < 5) {s : Nat} {v : Int32} (hs : s < 3) : f_X12_adds (kWn s 3) v (putM β σ N V) = some ((), putM β σ N (wI V (8, 6, s) (V.1 (8, 6, s) + v))) := i_adds hb hβ (by omega) (cA_wn s hs 3 (by decide))
theorem win_4 {s : Nat} {M : Mem} : f_X12_win (nI s) 4 M = some (kWn s 4, M) := e_win rfl (k := 4) rfl
theorem itswin_4 {β σ : Nat} {N : Mem} {V : LM} (hb : N.1 (10, 0, 0) 7 = nI β) (hβ : β < 5) {s : Nat} (hs : s < 3) : f_X12_its (kWn s 4) (putM β σ N V) = some (V.1 (8, 7, s), putM β σ N V) := i_its hb hβ (by omega) (cA_wn s hs 4 (by decide))
theorem putswin_4 {β σ : Nat} {N : Mem} {V : LM} (hb : N.1 (10, 0, 0) 7 = nI β) (hβ : β < 5) {s : Nat} {v : Int32} (hs : s < 3) : f_X12_puts (kWn s 4) v (putM β σ N V) = some ((), putM β σ N (wI V (8, 7, s) v)) := i_puts hb hβ (by omega) (cA_wn s hs 4 (by decide))
theorem addswin_4 {β σ : Nat} {N : Mem} {V : LM} (hb : N.1 (10, 0, 0) 7 = nI β) (hβ : β < 5) {s : Nat} {v : Int32} (hs : s < 3) : f_X12_adds (kWn s 4) v (putM β σ N V) = some ((), putM β σ N (wI V (8, 7, s) (V.1 (8, 7, s) + v))) := i_adds hb hβ (by omega) (cA_wn s hs 4 (by decide))
theorem win_5 {s : Nat} {M : Mem} : f_X12_win (nI s) 5 M = some (kWn s 5, M) := e_win rfl (k := 5) rfl
theorem itswin_5 {β σ : Nat} {N : Mem} {V : LM} (hb : N.1 (10, 0, 0) 7 = nI β) (hβ : β < 5) {s : Nat} (hs : s < 3) : f_X12_its (kWn s 5) (putM β σ N V) = some (V.1 (8, 8, s), putM β σ N V) := i_its hb hβ (by omega) (cA_wn s hs 5 (by decide))
theorem putswin_5 {β σ : Nat} {N : Mem} {V : LM} (hb : N.1 (10, 0, 0) 7 = nI β) (hβ : β < 5) {s : Nat} {v : Int32} (hs : s < 3) : f_X12_puts (kWn s 5) v (putM β σ N V) = some ((), putM β σ N (wI V (8, 8, s) v)) := i_puts hb hβ (by omega) (cA_wn s hs 5 (by decide))
theorem addswin_5 {β σ : Nat} {N : Mem} {V : LM} (hb : N.1 (10, 0, 0) 7 = nI β) (hβ : β < 5) {s : Nat} {v : Int32} (hs : s < 3) : f_X12_adds (kWn s 5) v (putM β σ N V) = some ((), putM β σ N (wI V (8, 8, s) (V.1 (8, 8, s) + v))) := i_adds hb hβ (by omega) (cA_wn s hs 5 (by decide))
theorem win_6 {s : Nat} {M : Mem} : f_X12_win (nI s) 6 M = some (kWn s 6, M) := e_win rfl (k := 6) rfl
theorem itswin_6 {β σ : Nat} {N : Mem} {V : LM} (hb : N.1 (10, 0, 0) 7 = nI β) (hβ : β < 5) {s : Nat} (hs : s < 3) : f_X12_its (kWn s 6) (putM β σ N V) = some (V.1 (8, 9, s), putM β σ N V) := i_its hb hβ (by omega) (cA_wn s hs 6 (by decide))
theorem putswin_6 {β σ : Nat} {N : Mem} {V : LM} (hb : N.1 (10, 0, 0) 7 = nI β) (hβ : β < 5) {s : Nat} {v : Int32} (hs : s < 3) : f_X12_puts (kWn s 6) v (putM β σ N V) = some ((), putM β σ N (wI V (8, 9, s) v)) := i_puts hb hβ (by omega) (cA_wn s hs 6 (by decide))
theorem addswin_6 {β σ : Nat} {N : Mem} {V : LM} (hb : N.1 (10, 0, 0) 7 = nI β) (hβ : β < 5) {s : Nat} {v : Int32} (hs : s < 3) : f_X12_adds (kWn s 6) v (putM β σ N V) = some ((), putM β σ N (wI V (8, 9, s) (V.1 (8, 9, s) + v))) := i_adds hb hβ (by omega) (cA_wn s hs 6 (by decide))
theorem set_2 {β : Nat} {N : Mem} {V : LM} : (putM β 0 N V).1 (31, 0, 0) (Int32.toNatClampNeg 2) = V.1 (2, 12, 0) := rdSet (b := 2) (t := 0) (by decide) rfl
theorem nb_2 : bad 2 104 = False := eq_false (nbad (k := 2) (by decide) (by decide))
theorem set_3 {β : Nat} {N : Mem} {V : LM} : (putM β 0 N V).1 (31, 0, 0) (Int32.toNatClampNeg 3) = V.1 (2, 13, 0) := rdSet (b := 3) (t := 0) (by decide) rfl
theorem nb_3 : bad 3 104 = False := eq_false (nbad (k := 3) (by decide) (by decide))
theorem set_4 {β : Nat} {N : Mem} {V : LM} : (putM β 0 N V).1 (31, 0, 0) (Int32.toNatClampNeg 4) = V.1 (2, 11, 0) := rdSet (b := 4) (t := 0) (by decide) rfl
theorem nb_4 : bad 4 104 = False := eq_false (nbad (k := 4) (by decide) (by decide))
theorem set_5 {β : Nat} {N : Mem} {V : LM} : (putM β 0 N V).1 (31, 0, 0) (Int32.toNatClampNeg 5) = V.1 (5, 2, 0) := rdSet (b := 5) (t := 0) (by decide) rfl
theorem nb_5 : bad 5 104 = False := eq_false (nbad (k := 5) (by decide) (by decide))
theorem set_6 {β : Nat} {N : Mem} {V : LM} : (putM β 0 N V).1 (31, 0, 0) (Int32.toNatClampNeg 6) = V.1 (2, 9, 0) := rdSet (b := 6) (t := 0) (by decide) rfl
theorem nb_6 : bad 6 104 = False := eq_false (nbad (k := 6) (by decide) (by decide))
theorem set_7 {β : Nat} {N : Mem} {V : LM} : (putM β 0 N V).1 (31, 0, 0) (Int32.toNatClampNeg 7) = V.1 (2, 10, 0) := rdSet (b := 7) (t := 0) (by decide) rfl
theorem nb_7 : bad 7 104 = False := eq_false (nbad (k := 7) (by decide) (by decide))
theorem set_8 {β : Nat} {N : Mem} {V : LM} : (putM β 0 N V).1 (31, 0, 0) (Int32.toNatClampNeg 8) = V.1 (4, 2, 0) := rdSet (b := 8) (t := 0) (by decide) rfl
theorem nb_8 : bad 8 104 = False := eq_false (nbad (k := 8) (by decide) (by decide))
theorem set_9 {β : Nat} {N : Mem} {V : LM} : (putM β 0 N V).1 (31, 0, 0) (Int32.toNatClampNeg 9) = V.1 (4, 3, 0) := rdSet (b := 9) (t := 0) (by decide) rfl
theorem nb_9 : bad 9 104 = False := eq_false (nbad (k := 9) (by decide) (by decide))
theorem cS_22 : ∀ t, t < 8 → cS (22 + t) = (0, 1, t) := by decide +kernel
theorem setv_22 {β t : Nat} {N : Mem} {V : LM} (ht : t < 8) : (putM β 0 N V).1 (31, 0, 0) (Int32.toNatClampNeg (22 + nI t)) = V.1 (0, 1, t) := rdSet (b := 22) (by omega) (cS_22 t ht)
theorem nbv_22 {t : Nat} (ht : t < 8) : bad (22 + nI t) 104 = False := bad104 (b := 22) (by omega)
theorem cS_30 : ∀ t, t < 4 → cS (30 + t) = (7, 0, t) := by decide +kernel
theorem setv_30 {β t : Nat} {N : Mem} {V : LM} (ht : t < 4) : (putM β 0 N V).1 (31, 0, 0) (Int32.toNatClampNeg (30 + nI t)) = V.1 (7, 0, t) := rdSet (b := 30) (by omega) (cS_30 t ht)
theorem nbv_30 {t : Nat} (ht : t < 4) : bad (30 + nI t) 104 = False := bad104 (b := 30) (by omega)
theorem cS_34 : ∀ t, t < 4 → cS (34 + t) = (7, 1, t) := by decide +kernel
theorem setv_34 {β t : Nat} {N : Mem} {V : LM} (ht : t < 4) : (putM β 0 N V).1 (31, 0, 0) (Int32.toNatClampNeg (34 + nI t)) = V.1 (7, 1, t) := rdSet (b := 34) (by omega) (cS_34 t ht)
theorem nbv_34 {t : Nat} (ht : t < 4) : bad (34 + nI t) 104 = False := bad104 (b := 34) (by omega)
theorem cS_38 : ∀ t, t < 4 → cS (38 + t) = (7, 2, t) := by decide +kernel
theorem setv_38 {β t : Nat} {N : Mem} {V : LM} (ht : t < 4) : (putM β 0 N V).1 (31, 0, 0) (Int32.toNatClampNeg (38 + nI t)) = V.1 (7, 2, t) := rdSet (b := 38) (by omega) (cS_38 t ht)
theorem nbv_38 {t : Nat} (ht : t < 4) : bad (38 + nI t) 104 = False := bad104 (b := 38) (by omega)
theorem cS_42 : ∀ t, t < 3 → cS (42 + t) = (8, 3, t) := by decide +kernel
theorem setv_42 {β t : Nat} {N : Mem} {V : LM} (ht : t < 3) : (putM β 0 N V).1 (31, 0, 0) (Int32.toNatClampNeg (42 + nI t)) = V.1 (8, 3, t) := rdSet (b := 42) (by omega) (cS_42 t ht)
theorem nbv_42 {t : Nat} (ht : t < 3) : bad (42 + nI t) 104 = False := bad104 (b := 42) (by omega)
theorem cS_45 : ∀ t, t < 3 → cS (45 + t) = (8, 4, t) := by decide +kernel
theorem setv_45 {β t : Nat} {N : Mem} {V : LM} (ht : t < 3) : (putM β 0 N V).1 (31, 0, 0) (Int32.toNatClampNeg (45 + nI t)) = V.1 (8, 4, t) := rdSet (b := 45) (by omega) (cS_45 t ht)
theorem nbv_45 {t : Nat} (ht : t < 3) : bad (45 + nI t) 104 = False := bad104 (b := 45) (by omega)
theorem cS_48 : ∀ t, t < 3 → cS (48 + t) = (8, 0, t) := by decide +kernel
theorem setv_48 {β t : Nat} {N : Mem} {V : LM} (ht : t < 3) : (putM β 0 N V).1 (31, 0, 0) (Int32.toNatClampNeg (48 + nI t)) = V.1 (8, 0, t) := rdSet (b := 48) (by omega) (cS_48 t ht)
theorem nbv_48 {t : Nat} (ht : t < 3) : bad (48 + nI t) 104 = False := bad104 (b := 48) (by omega)
theorem cS_e : ∀ s, s < 2 → cS s = (5, 1, s) := by decide +kernel
theorem cS_o0 : ∀ k, k < 8 → cS (10 + 8 * 0 + k) = (20, k, 0) := by decide +kernel
theorem cS_o1 : ∀ k, k < 4 → cS (10 + 8 * 1 + k) = (20, k, 1) := by decide +kernel
theorem entries_ {β s : Nat} {N : Mem} {V : LM} (hs : s < 2) : f_X12_entries (nI s) (putM β 0 N V) = some (V.1 (5, 1, s), putM β 0 N V) := by
  rw [e_entries rfl (by omega)]
  have h := rdS (β := β) (σ := 0) (N := N) (V := V) (i := s) (by omega)
  rw [Nat.zero_add, cS_e s hs] at h
  rw [h]
theorem entries_0 {β : Nat} {N : Mem} {V : LM} : f_X12_entries 0 (putM β 0 N V) = some (V.1 (5, 1, 0), putM β 0 N V) := entries_ (s := 0) (by decide)
theorem entries_1 {β : Nat} {N : Mem} {V : LM} : f_X12_entries 1 (putM β 0 N V) = some (V.1 (5, 1, 1), putM β 0 N V) := entries_ (s := 1) (by decide)
/-- how many entries a sequence may have -/
def capE (s : Nat) : Nat := if s = 0 then 8 else 4
theorem entryOf_ {β s k : Nat} {N : Mem} {V : LM} (hs : s < 2) (hk : k < capE s) : f_X12_entryOf (nI s) (nI k) (putM β 0 N V) = some (V.1 (20, k, s), putM β 0 N V) := by
  have hc : capE s ≤ 8 := by unfold capE; split <;> decide
  rw [e_entryOf rfl rfl (by omega)]
  have h2 : cS (10 + 8 * s + k) = (20, k, s) := by
    rcases (show s = 0 ∨ s = 1 by omega) with rfl | rfl
    · exact cS_o0 k hk
    · exact cS_o1 k hk
  have h := rdS (β := β) (σ := 0) (N := N) (V := V) (i := 10 + 8 * s + k) (by unfold capE at hk; split at hk <;> omega)
  rw [Nat.zero_add, h2] at h
  rw [h]
theorem nI_z {s : Nat} (hs : s < 2) : (nI s = 0) = (s = 0) := propext (by rw [show (0 : Int32) = nI 0 from rfl]; exact nI_eq (by omega) (by decide))
theorem nI_o {s : Nat} (hs : s < 2) : (nI s = 1) = (s = 1) := propext (by rw [show (1 : Int32) = nI 1 from rfl]; exact nI_eq (by omega) (by decide))
