/-! ===== a property of a channel ===== -/
def clE (r55 : Nat → Nat → Int32 → Int32 → Mem → Option (Int32 × Mem)) (j : Nat) (e x3 : Int32) (w : Nat) (M : Mem) : Option (Int32 × Mem) := if 0 ≤ (wLeast.getD w 0) then f_X4_readChannel_134 r55 2 j e x3 w M else bnd (f_X4_skipSign 45 M) (fun r10 M11 => if r10 = 0 then f_X4_readChannel_134 r55 2 j e x3 w M11 else f_X4_readChannel_135 r55 2 j e x3 w 1 M11)
theorem setP {j w : Nat} {x : Int32} {M : Mem} (h1 : 11 ≤ w) (h2 : w ≤ 15) : f_X4_setProperty 2 j w x M = some ((), uI M (0, 2, j) (w - 11) x) := by
  unfold f_X4_setProperty
  rcases (show w = 11 ∨ w = 12 ∨ w = 13 ∨ w = 14 ∨ w = 15 by omega) with rfl | rfl | rfl | rfl | rfl
  · rw [if_pos (by first | decide | simp)]; rfl
  · rw [if_neg (by first | decide | simp), if_pos (by first | decide | simp)]; rfl
  · rw [if_neg (by first | decide | simp), if_neg (by first | decide | simp), if_pos (by first | decide | simp)]; rfl
  · rw [if_neg (by first | decide | simp), if_neg (by first | decide | simp), if_neg (by first | decide | simp), if_pos (by first | decide | simp)]; rfl
  · rw [if_neg (by first | decide | simp), if_neg (by first | decide | simp), if_neg (by first | decide | simp), if_neg (by first | decide | simp)]; rfl
theorem cl_u {r55 : Nat → Nat → Int32 → Int32 → Mem → Option (Int32 × Mem)} {j w : Nat} {e x3 b : Int32} {M : Mem} (h1 : 11 ≤ w) (h2 : w ≤ 15) (hb : bz b) : f_X4_readChannel_135 r55 2 j e x3 w b M = bnd (f_X4_takeNumber w 0 M) (fun r1 M2 => if r1 = 0 then some (0, M2) else r55 2 j e (x3 + 1) (uI M2 (0, 2, j) (w - 11) (if b = 0 then M2.1 (3, 0, 0) 3 else - M2.1 (3, 0, 0) 3))) := by
  unfold f_X4_readChannel_135 f_X4_readChannel_169
  rcases hb with rfl | rfl
  · simp only [if_true, setP h1 h2, bnd_some]
    rfl
  · simp only [i10, if_false, setP h1 h2, bnd_some]
    rfl
def PrO (len p j w : Nat) (M N M' N' : Mem) : Prop := (∀ r36 e, f_X12_parseChannel_102 r36 (nI j) e 1888 (nI (w - 10)) N = r36 (nI j) e 1888 N') ∧ FC M M' ∧ FM N N' ∧ ((∃ p' k' w' L' V', (∀ r55 e x3, clE r55 j e x3 w M = r55 2 j e (x3 + 1) M') ∧ PT len p' k' w' M' N' L' V' ∧ p ≤ p') ∨ ((∀ r55 e x3, clE r55 j e x3 w M = some (0, M')) ∧ Fb M' N'))
theorem cA44 {j : Nat} (hj : j < 8) : cA (44 + 7 * j + 0) = (0, 0, j) ∧ cA (44 + 7 * j + 1) = (0, 2, j) ∧ cA (44 + 7 * j + 2) = (0, 3, j) ∧ cA (44 + 7 * j + 3) = (0, 4, j) := ⟨cA_ch j hj 0 (by first | decide | simp), cA_ch j hj 1 (by first | decide | simp), cA_ch j hj 2 (by first | decide | simp), cA_ch j hj 3 (by first | decide | simp)⟩
theorem cS22 : ∀ j, j < 8 → cS (22 + j) = (0, 1, j) := by decide
theorem ix18 {j k : Nat} : (1888 : Int32) + kCh j k = nI (1888 + (44 + 7 * j + k)) := by
  unfold kCh
  rw [show (1888 : Int32) = nI 1888 from rfl, nI_add]
theorem PRu {len p k w wd lo hi j f : Nat} {M N : Mem} {L V : LM} (h : PT len p k w M N L V) (hj : j < 8) (h1 : 11 ≤ wd) (h2 : wd ≤ 15) (hlo : wLeast.getD wd 0 = nI lo) (hp : (0 : Int32) ≤ wLeast.getD wd 0) (hhi : wMost.getD wd 0 = nI hi) (hb : hi < 2 ^ 31) (hl : lo < 2 ^ 31) (hf : f < 7) (ef : cA (44 + 7 * j + f) = (0, wd - 11, j)) (h4 : wd = 15 → 1 ≤ lo ∧ hi ≤ 9999)
    (em : ∀ r36 e X, f_X12_parseChannel_102 r36 (nI j) e 1888 (nI (wd - 10)) X = bnd (f_X12_readNumber (nI lo) (nI hi) X) (fun r M => r36 (nI j) e 1888 (uI M (32, 0, 0) (1888 + (44 + 7 * j + f)) r))) : ∃ M' N', PrO len p j wd M N M' N' := by
  have st : stb (0, wd - 11, j) = true := by
    show Nat.ble (wd - 11) 4 = true
    exact Nat.ble_eq.mpr (by omega)
  obtain ⟨M1, r, N1, e1, o⟩ := B_num (wd := wd) (lo := lo) (hi := hi) (a := (0, wd - 11, j)) h hlo hhi hb hl st (by simp) (by simp) rfl (fun v v1 v2 => h.2.2.2.1.2.1.q (by simp) (by simp) (by simp) (by simp) (by simp) (by simp) (by simp) (by simp) (by simp) (by simp) (by simp) (by simp) (by simp) (fun _ q => by
    have q' : wd - 11 = 4 := q
    obtain ⟨q1, q2⟩ := h4 (by omega)
    exact ⟨v, by omega, by omega, rfl⟩) (by simp)) (W_A (i := 44 + 7 * j + f) ef (by omega))
  have cc : ∀ r55 e x3, clE r55 j e x3 wd M = bnd (f_X4_takeNumber wd 0 M) (fun r1 M2 => if r1 = 0 then some (0, M2) else r55 2 j e (x3 + 1) (uI M2 (0, 2, j) (wd - 11) (M2.1 (3, 0, 0) 3))) := fun r55 e x3 => by
    unfold clE f_X4_readChannel_134
    rw [if_pos hp, cl_u h1 h2 (Or.inl rfl)]
    rfl
  rcases o with ⟨c, v, p', k', w', v1, v2, v3, q, v5, v6, v7⟩ | ⟨c, fb, f1, f2⟩
  · refine ⟨_, _, fun r36 e => by rw [em, e1, bnd_some], v6, v7, Or.inl ⟨p', k', w', _, _, fun r55 e x3 => ?_, q, v5⟩⟩
    rw [cc, c, bnd_some, if_neg (by first | decide | simp), v3]
  · exact ⟨_, _, fun r36 e => by rw [em, e1, bnd_some], f1, f2, Or.inr ⟨fun r55 e x3 => by rw [cc, c, bnd_some, if_pos rfl], fb⟩⟩
theorem PRs {len p k w wd j i f : Nat} {W : Mem → Int32 → Mem} {M N : Mem} {L V : LM} (h : PT len p k w M N L V) (hj : j < 8) (h1 : 11 ≤ wd) (h2 : wd ≤ 14) (hlo : wLeast.getD wd 0 = -99) (hhi : wMost.getD wd 0 = nI 99)
    (hW : ∀ N x, LN N (W N x) ∧ (hasM 4 52 N V → hasM 4 52 (W N x) (wI V (0, wd - 11, j) x)))
    (em : ∀ r36 e X, f_X12_parseChannel_102 r36 (nI j) e 1888 (nI (wd - 10)) X = bnd (f_X12_readSigned 99 X) (fun r M => r36 (nI j) e 1888 (W M r))) : ∃ M' N', PrO len p j wd M N M' N' := by
  have st : stb (0, wd - 11, j) = true := by
    show Nat.ble (wd - 11) 4 = true
    exact Nat.ble_eq.mpr (by omega)
  obtain ⟨M0, b, M1, r, N1, g1, g2, e1, o⟩ := B_sg (wd := wd) (a := (0, wd - 11, j)) h hlo hhi st (by simp) (by simp) rfl (fun x => h.2.2.2.1.2.1.q (by simp) (by simp) (by simp) (by simp) (by simp) (by simp) (by simp) (by simp) (by simp) (by simp) (by simp) (by simp) (by simp) (fun _ q => by
    have q' : wd - 11 = 4 := q
    omega) (by simp)) hW
  have cc : ∀ r55 e x3, clE r55 j e x3 wd M = bnd (f_X4_takeNumber wd 0 M0) (fun r1 M2 => if r1 = 0 then some (0, M2) else r55 2 j e (x3 + 1) (uI M2 (0, 2, j) (wd - 11) (if b = 0 then M2.1 (3, 0, 0) 3 else - M2.1 (3, 0, 0) 3))) := fun r55 e x3 => by
    unfold clE f_X4_readChannel_134
    rw [if_neg (by rw [hlo]; decide), g1, bnd_some]
    rcases g2 with rfl | rfl
    · rw [if_pos rfl, cl_u h1 (by omega) (Or.inl rfl)]
    · rw [if_neg (by first | decide | simp), cl_u h1 (by omega) (Or.inr rfl)]
  rcases o with ⟨c, v, p', k', w', v3, v4, q, v5, v6, v7⟩ | ⟨c, fb, f1, f2⟩
  · refine ⟨_, _, fun r36 e => by rw [em, e1, bnd_some], v6, v7, Or.inl ⟨p', k', w', _, _, fun r55 e x3 => ?_, q, v5⟩⟩
    rw [cc, c, bnd_some, if_neg (by first | decide | simp), v3, v4]
  · exact ⟨_, _, fun r36 e => by rw [em, e1, bnd_some], f1, f2, Or.inr ⟨fun r55 e x3 => by rw [cc, c, bnd_some, if_pos rfl], fb⟩⟩
