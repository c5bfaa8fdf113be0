/-! ===== the reference's queue, memory, windows, channels ===== -/
def m_put (z : Nat) (a t x : Int32) (V : LM) : LM := wI (z_put 0 (4 * z) a t (V.1 (2, 15, 0)) x V) (4, 5, 0) (V.1 (4, 5, 0) + 1)
def m_enq (z c : Nat) (a t x : Int32) (V : LM) : LM :=
  if z = c then (if V.1 (4, 3, 0) = 0 then wI V (4, 6, 0) (V.1 (4, 6, 0) + 1) else m_put (z - 1) a t x (m_drop z (wI V (4, 6, 0) (V.1 (4, 6, 0) + 1)))) else m_put z a t x V
theorem z_put_rd {j s : Nat} {a b c d : Int32} {V : LM} {x : Cl} (h : x.1 ≠ 21) : (z_put j s a b c d V).1 x = V.1 x := by
  unfold z_put
  simp only [rdw]
  rw [if_neg (fun q => h (congrArg Prod.fst q)), if_neg (fun q => h (congrArg Prod.fst q)), if_neg (fun q => h (congrArg Prod.fst q)), if_neg (fun q => h (congrArg Prod.fst q))]
theorem m_drop_rd {z : Nat} {V : LM} {x : Cl} (h : x.1 ≠ 21) (h2 : x ≠ (4, 5, 0)) : (m_drop z V).1 x = V.1 x := by
  unfold m_drop
  rw [rdw, if_neg h2, sh_ne (Or.inl h)]
theorem m_drop_z {z : Nat} {V : LM} (hz : V.1 (4, 5, 0) = nI z) (h1 : 1 ≤ z) : (m_drop z V).1 (4, 5, 0) = nI (z - 1) := by
  unfold m_drop
  rw [rdw, if_pos rfl, hz, show z = (z - 1) + 1 by omega, pk_m1, Nat.add_sub_cancel]
theorem M_put {β : Nat} {N : Mem} {V : LM} (hb : N.1 (10, 0, 0) 7 = nI β) (hβ : β < 5) {z : Nat} {a t x : Int32} (hz : V.1 (4, 5, 0) = nI z) (h : z < 16) : f_X12_enqueue_38 a t x (putM β 0 N V) = some ((), putM β 0 N (m_put z a t x V)) := by
  unfold f_X12_enqueue_38
  rw [its_11 hb hβ, bnd_some, its_0 hb hβ, bnd_some, hz, M_rowQ hb hβ h, bnd_some, adds_11 hb hβ, bnd_some, z_put_rd (by decide)]
  unfold m_put
  rfl
theorem M_enq {β : Nat} {N : Mem} {V : LM} (hb : N.1 (10, 0, 0) 7 = nI β) (hβ : β < 5) {z c : Nat} {a t x : Int32} (hz : V.1 (4, 5, 0) = nI z) (hc : V.1 (4, 2, 0) = nI c) (h0 : 1 ≤ c) (h1 : c ≤ 16) (h2 : z ≤ c) : f_X12_enqueue a t x (putM β 0 N V) = some ((), putM β 0 N (m_enq z c a t x V)) := by
  unfold f_X12_enqueue m_enq
  rw [its_11 hb hβ, bnd_some, if_neg (of_eq_false nb_8), set_8, hz, hc]
  by_cases h : z = c
  · subst h
    rw [if_pos rfl, if_pos rfl, adds_8 hb hβ, bnd_some, if_neg (of_eq_false nb_9), set_9]
    have e : (wI V (4, 6, 0) (V.1 (4, 6, 0) + 1)).1 (4, 3, 0) = V.1 (4, 3, 0) := by rw [rdw, if_neg (by decide)]
    have e2 : (wI V (4, 6, 0) (V.1 (4, 6, 0) + 1)).1 (4, 5, 0) = nI z := by rw [rdw, if_neg (by decide), hz]
    rw [e]
    split
    · rfl
    · rw [M_drop hb hβ e2 h0 h1, bnd_some]
      exact M_put hb hβ (m_drop_z e2 h0) (by omega)
  · rw [if_neg (fun q => h ((nI_eq (by omega) (by omega)).mp q)), if_neg h]
    exact M_put hb hβ hz (by omega)
/-! the transfer -/
def m_tr2 (z y : Nat) (V : LM) : LM :=
  m_drop z (wI (wI (z_put 1 (4 * y) (V.1 (21, 0, 0)) (V.1 (21, 1, 0)) (V.1 (21, 2, 0)) (V.1 (21, 3, 0)) V) (4, 5, 1) (V.1 (4, 5, 1) + 1)) (2, 16, 0) (V.1 (2, 16, 0) + 1))
def m_tr (z y : Nat) (V : LM) : LM := if y = 64 then m_tr2 z 63 (wI (sh 1 252 V) (4, 5, 1) (V.1 (4, 5, 1) + -1)) else m_tr2 z y V
theorem ix4k {b y k : Nat} : nI b + 4 * nI y + nI k = nI (b + (4 * y + k)) := by
  rw [ix4, nI_add, Nat.add_assoc]
theorem M_cpy1 {β : Nat} {N : Mem} {V : LM} (hb : N.1 (10, 0, 0) 7 = nI β) (hβ : β < 5) {y k : Nat} (hy : V.1 (4, 5, 1) = nI y) (h : y < 64) (hk : k < 4) {n : Nat} : f_X12_transfer_88 (n + 1) (nI k) (putM β 0 N V) = f_X12_transfer_88 n (nI (k + 1)) (putM β 0 N (wI V (21, 4 * y + k, 1) (V.1 (21, k, 0)))) := by
  rw [show f_X12_transfer_88 (n + 1) (nI k) (putM β 0 N V) = _ from Eq.trans (by unfold f_X12_transfer_88; exact rfl) rfl]
  rw [if_neg (ge4 hk), its_12 hb hβ, bnd_some, hy]
  have e1 : (152 : Int32) + nI k = nI (152 + k) := nI_add 152 k
  have e2 : (216 : Int32) + 4 * nI y + nI k = nI (216 + (4 * y + k)) := ix4k (b := 216)
  rw [e1, e2, i_its hb hβ (by omega) (cA_qu (m := k) (by omega)), bnd_some, i_puts hb hβ (by omega) cA_me, bnd_some]
  unfold nm
  rw [nI_1]
theorem M_tr2 {β : Nat} {N : Mem} {V : LM} (hb : N.1 (10, 0, 0) 7 = nI β) (hβ : β < 5) {z y : Nat} (hz : V.1 (4, 5, 0) = nI z) (h1 : 1 ≤ z) (h2 : z ≤ 16) (hy : V.1 (4, 5, 1) = nI y) (h : y < 64) : f_X12_transfer_86 (putM β 0 N V) = some ((), putM β 0 N (m_tr2 z y V)) := by
  unfold f_X12_transfer_86
  rw [show fuelN = 5995 + 1 + 1 + 1 + 1 + 1 from rfl, show (0 : Int32) = nI 0 from rfl]
  rw [M_cpy1 hb hβ hy h (by decide), M_cpy1 hb hβ (by rw [rdw, if_neg (by simp), hy]) h (by decide), M_cpy1 hb hβ (by rw [rdw, if_neg (by simp), rdw, if_neg (by simp), hy]) h (by decide), M_cpy1 hb hβ (by rw [rdw, if_neg (by simp), rdw, if_neg (by simp), rdw, if_neg (by simp), hy]) h (by decide)]
  unfold f_X12_transfer_88
  rw [if_pos (by decide), adds_12 hb hβ, bnd_some, adds_9 hb hβ, bnd_some]
  simp only [rdw, rdl, rdw2, rdl1, Prod.mk.injEq, Nat.reduceEqDiff, and_self, and_true, true_and, and_false, false_and, ite_true, ite_false, ↓reduceIte]
  rw [M_drop hb hβ (z := z) (by simp only [rdw, rdl, rdw2, rdl1, Prod.mk.injEq, Nat.reduceEqDiff, and_self, and_true, true_and, and_false, false_and, ite_true, ite_false, ↓reduceIte]; exact hz) h1 h2, bnd_some]
  unfold m_tr2 z_put
  simp only [rdw, rdl, rdw2, rdl1, Prod.mk.injEq, Nat.reduceEqDiff, and_self, and_true, true_and, and_false, false_and, ite_true, ite_false, ↓reduceIte, Nat.add_zero]
theorem M_sh1 {β : Nat} {N : Mem} {V : LM} (hb : N.1 (10, 0, 0) 7 = nI β) (hβ : β < 5) {z y : Nat} (hz : V.1 (4, 5, 0) = nI z) (h1 : 1 ≤ z) (h2 : z ≤ 16) (hy : V.1 (4, 5, 1) = nI 64) : ∀ (m i n : Nat), i + m = 252 → m < n → f_X12_transfer_46 n (nI i) (putM β 0 N (sh 1 i V)) = some ((), putM β 0 N (m_tr z 64 V)) := by
  intro m
  induction m with
  | zero =>
    intro i n hi hn
    obtain ⟨n, rfl⟩ : ∃ k, n = k + 1 := ⟨n - 1, by omega⟩
    unfold f_X12_transfer_46
    rw [show i = 252 by omega, if_pos (by decide), adds_12 hb hβ, bnd_some, sh_ne (Or.inl (by decide))]
    unfold m_tr
    rw [if_pos rfl]
    exact M_tr2 hb hβ (by rw [rdw, if_neg (by decide), sh_ne (Or.inl (by decide)), hz]) h1 h2 (by rw [rdw, if_pos rfl, hy]; exact pk_m1 63) (by decide)
  | succ m ih =>
    intro i n hi hn
    obtain ⟨n, rfl⟩ : ∃ k, n = k + 1 := ⟨n - 1, by omega⟩
    unfold f_X12_transfer_46
    rw [if_neg (ge252 (by omega))]
    have e1 : (216 : Int32) + nI i = nI (216 + i) := nI_add 216 i
    have e2 : nI (216 + i) + 4 = nI (216 + (i + 4)) := nI_add (216 + i) 4
    rw [e1, e2, i_its hb hβ (by omega) (cA_me (m := i + 4)), bnd_some, i_puts hb hβ (by omega) (cA_me (m := i)), bnd_some, sh_rd (by omega), sh_s]
    unfold nm
    rw [nI_1]
    exact ih (i + 1) n (by omega) (by omega)
theorem M_tr {β : Nat} {N : Mem} {V : LM} (hb : N.1 (10, 0, 0) 7 = nI β) (hβ : β < 5) {z y p : Nat} (hz : V.1 (4, 5, 0) = nI z) (h2 : z ≤ 16) (hy : V.1 (4, 5, 1) = nI y) (h : y ≤ 64) (hp : V.1 (2, 14, 0) = nI p) (hp2 : p < 1000) : f_X12_transfer (putM β 0 N V) = some ((), putM β 0 N (if p = 0 ∨ ¬ (V.1 (2, 15, 0) + 1 - (V.1 (2, 15, 0) + 1) / nI p * nI p = 0) ∨ z = 0 then V else m_tr z y V)) := by
  unfold f_X12_transfer
  rw [its_10 hb hβ, bnd_some, hp]
  by_cases h3 : p = 0
  · rw [if_pos (Or.inl h3), h3, if_pos (by decide)]
  · have h4 : ¬ nI p = 0 := nI_ne0 (by omega) (by omega)
    rw [if_neg h4, its_0 hb hβ, bnd_some, if_neg h4]
    by_cases h5 : V.1 (2, 15, 0) + 1 - (V.1 (2, 15, 0) + 1) / nI p * nI p = 0
    · rw [if_pos h5, its_11 hb hβ, bnd_some, hz]
      by_cases h6 : z = 0
      · rw [if_pos (Or.inr (Or.inr h6)), h6, if_pos (by decide)]
      · rw [if_neg (nI_ne0 (by omega) (by omega)), its_12 hb hβ, bnd_some, hy, if_neg (c := _ ∨ _ ∨ _) (by rintro (q | q | q); exact h3 q; exact q h5; exact h6 q)]
        by_cases h7 : y = 64
        · subst h7
          rw [if_pos (show nI 64 = (64 : Int32) from rfl)]
          have h8 := M_sh1 hb hβ (y := 64) hz (by omega) h2 hy 252 0 fuelN (by omega) (by unfold fuelN; omega)
          rw [sh_0] at h8
          exact h8
        · rw [if_neg (show ¬ nI y = (64 : Int32) from fun q => h7 ((nI_eq (b := 64) (by omega) (by decide)).mp q))]
          unfold m_tr
          rw [if_neg h7]
          exact M_tr2 hb hβ hz (by omega) h2 hy (by omega)
    · rw [if_neg h5, if_pos (Or.inr (Or.inl h5))]
/-! signals -/
theorem M_signal {β : Nat} {N : Mem} {V : LM} (hb : N.1 (10, 0, 0) 7 = nI β) (hβ : β < 5) {c : Nat} {x : Int32} (hc : c < 8) (h : ¬ V.1 (0, 4, c) = 0) : f_X12_signalOf (nI c) x (putM β 0 N V) = some (sigV (V.1 (0, 2, c)) (V.1 (0, 3, c)) (V.1 (0, 4, c)) x, putM β 0 N V) := by
  unfold f_X12_signalOf
  simp only [chan_0, chan_1, chan_2, chan_3, chan_4, chan_5, chan_6, itschan_0 hb hβ hc, putschan_0 hb hβ hc, addschan_0 hb hβ hc, itschan_1 hb hβ hc, putschan_1 hb hβ hc, addschan_1 hb hβ hc, itschan_2 hb hβ hc, putschan_2 hb hβ hc, addschan_2 hb hβ hc, itschan_3 hb hβ hc, putschan_3 hb hβ hc, addschan_3 hb hβ hc, itschan_4 hb hβ hc, putschan_4 hb hβ hc, addschan_4 hb hβ hc, itschan_5 hb hβ hc, putschan_5 hb hβ hc, addschan_5 hb hβ hc, itschan_6 hb hβ hc, putschan_6 hb hβ hc, addschan_6 hb hβ hc, bnd_some, nm, h, if_false, M_lesser]
  unfold sigV lsr
  split
  · split <;> rfl
  · rfl
/-! windows -/
def z_cnt (w : Nat) (x : Int32) (V : LM) : Int32 := if x < V.1 (8, 1, w) ∨ V.1 (8, 2, w) < x then V.1 (8, 5, w) + 1 else 0
def z_look (w : Nat) (c t y x : Int32) (V : LM) : LM :=
  if (V.1 (8, 4, w) >>> (c &&& 31)) &&& 1 = 0 then V
  else if z_cnt w x V < V.1 (8, 3, w) ∨ ¬ V.1 (8, 6, w) = 0 then wI V (8, 5, w) (z_cnt w x V)
  else wI (wI (wI (wI (wI V (8, 5, w) (z_cnt w x V)) (8, 6, w) 1) (8, 7, w) y) (8, 8, w) c) (8, 9, w) t
theorem zo1 {x : Int32} (h : x = 0 ∨ x = 1) : (x = 1) = ¬ x = 0 := by
  rcases h with rfl | rfl
  · exact propext ⟨fun h => absurd h (by decide), fun h => absurd rfl h⟩
  · exact propext ⟨fun _ => by decide, fun _ => rfl⟩
theorem M_look {β : Nat} {N : Mem} {V : LM} (hb : N.1 (10, 0, 0) 7 = nI β) (hβ : β < 5) {w : Nat} {c t x : Int32} (hw : w < 3) (h1 : V.1 (8, 0, w) = 0 → V.1 (8, 4, w) = 0) (h2 : V.1 (8, 6, w) = 0 ∨ V.1 (8, 6, w) = 1) : f_X12_lookAt (nI w) c t x (putM β 0 N V) = some ((), putM β 0 N (z_look w c t (V.1 (2, 15, 0)) x V)) := by
  have key : ∀ n : Int32, f_X12_lookAt_90 (nI w) c t n (kWn w 2) (putM β 0 N V) = some ((), putM β 0 N (if n < V.1 (8, 3, w) ∨ ¬ V.1 (8, 6, w) = 0 then wI V (8, 5, w) n else wI (wI (wI (wI (wI V (8, 5, w) n) (8, 6, w) 1) (8, 7, w) (V.1 (2, 15, 0))) (8, 8, w) c) (8, 9, w) t)) := by
    intro n
    unfold f_X12_lookAt_90
    simp only [win_0, win_1, win_2, win_3, win_4, win_5, win_6, itswin_0 hb hβ hw, putswin_0 hb hβ hw, addswin_0 hb hβ hw, itswin_1 hb hβ hw, putswin_1 hb hβ hw, addswin_1 hb hβ hw, itswin_2 hb hβ hw, putswin_2 hb hβ hw, addswin_2 hb hβ hw, itswin_3 hb hβ hw, putswin_3 hb hβ hw, addswin_3 hb hβ hw, itswin_4 hb hβ hw, putswin_4 hb hβ hw, addswin_4 hb hβ hw, itswin_5 hb hβ hw, putswin_5 hb hβ hw, addswin_5 hb hβ hw, itswin_6 hb hβ hw, putswin_6 hb hβ hw, addswin_6 hb hβ hw, bnd_some, nm, its_0 hb hβ, puts_0 hb hβ, adds_0 hb hβ, its_1 hb hβ, puts_1 hb hβ, adds_1 hb hβ, its_2 hb hβ, puts_2 hb hβ, adds_2 hb hβ, its_3 hb hβ, puts_3 hb hβ, adds_3 hb hβ, its_4 hb hβ, puts_4 hb hβ, adds_4 hb hβ, its_5 hb hβ, puts_5 hb hβ, adds_5 hb hβ, its_6 hb hβ, puts_6 hb hβ, adds_6 hb hβ, its_7 hb hβ, puts_7 hb hβ, adds_7 hb hβ, its_8 hb hβ, puts_8 hb hβ, adds_8 hb hβ, its_9 hb hβ, puts_9 hb hβ, adds_9 hb hβ, its_10 hb hβ, puts_10 hb hβ, adds_10 hb hβ, its_11 hb hβ, puts_11 hb hβ, adds_11 hb hβ, its_12 hb hβ, puts_12 hb hβ, adds_12 hb hβ, its_13 hb hβ, puts_13 hb hβ, adds_13 hb hβ, its_155 hb hβ, rdw, rdl, rdw2, rdl1, Prod.mk.injEq, Nat.reduceEqDiff, and_self, and_true, true_and, and_false, false_and, ite_true, ite_false, ↓reduceIte, setv_42 hw, nbv_42 hw, if_false, zo1 h2]
    by_cases h3 : n < V.1 (8, 3, w)
    · rw [if_pos h3, if_pos (Or.inl h3)]
    · rw [if_neg h3]
      by_cases h4 : V.1 (8, 6, w) = 0
      · rw [if_neg (fun q => q h4), if_neg (c := _ ∨ _) (by rintro (q | q); exact h3 q; exact q h4)]
      · rw [if_pos h4, if_pos (Or.inr h4)]
  unfold f_X12_lookAt f_X12_lookAt_57 f_X12_lookAt_62
  simp only [win_0, win_1, win_2, win_3, win_4, win_5, win_6, itswin_0 hb hβ hw, putswin_0 hb hβ hw, addswin_0 hb hβ hw, itswin_1 hb hβ hw, putswin_1 hb hβ hw, addswin_1 hb hβ hw, itswin_2 hb hβ hw, putswin_2 hb hβ hw, addswin_2 hb hβ hw, itswin_3 hb hβ hw, putswin_3 hb hβ hw, addswin_3 hb hβ hw, itswin_4 hb hβ hw, putswin_4 hb hβ hw, addswin_4 hb hβ hw, itswin_5 hb hβ hw, putswin_5 hb hβ hw, addswin_5 hb hβ hw, itswin_6 hb hβ hw, putswin_6 hb hβ hw, addswin_6 hb hβ hw, bnd_some, nm, setv_45 hw, nbv_45 hw, setv_48 hw, nbv_48 hw, if_false, key]
  unfold z_look z_cnt
  by_cases h3 : V.1 (8, 4, w) >>> (c &&& 31) &&& 1 = 0
  · rw [if_pos h3, if_pos h3]
    split <;> rfl
  · rw [if_neg h3, if_neg h3, if_neg (c := V.1 (8, 0, w) = 0) (fun q => h3 (by rw [h1 q]; simp))]
    by_cases h4 : x < V.1 (8, 1, w)
    · rw [if_pos h4, if_pos (c := x < V.1 (8, 1, w) ∨ _) (Or.inl h4), if_neg (by decide)]
    · rw [if_neg h4]
      by_cases h5 : x ≤ V.1 (8, 2, w)
      · rw [if_pos h5, if_neg (c := x < V.1 (8, 1, w) ∨ _) (by rintro (q | q); exact h4 q; exact absurd q (Int32.not_lt.mpr h5)), if_pos trivial]
      · rw [if_neg h5, if_pos (c := x < V.1 (8, 1, w) ∨ _) (Or.inr (Int32.not_le.mp h5)), if_neg (by decide)]
