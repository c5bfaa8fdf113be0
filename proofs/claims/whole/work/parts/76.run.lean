/-! ===== a run of digits, a run of letters ===== -/
theorem nI_3 {a b : Nat} (h : b ≤ a) : nI a - nI b = nI (a - b) := nI_sub h
theorem Bt.dig {b n : Int32} (h : Bt b n) : (∃ d, d < 10 ∧ b = nI (48 + d) ∧ n = nI (48 + d)) ∨ ((b < 48 ∨ 57 < b) ∧ ¬ (48 ≤ n ∧ n ≤ 57)) := by
  rcases h.cs with ⟨v, hv, rfl, rfl⟩ | ⟨v, h1, h2, rfl, h3⟩
  · by_cases q : 48 ≤ v ∧ v ≤ 57
    · exact Or.inl ⟨v - 48, by omega, by rw [show 48 + (v - 48) = v by omega], by rw [show 48 + (v - 48) = v by omega]⟩
    · refine Or.inr ⟨?_, fun z => ?_⟩
      · by_cases q2 : v < 48
        · exact Or.inl (Int32.not_le.mp (nI_ge (b := 48) q2 (by first | decide | simp)))
        · exact Or.inr (Int32.not_le.mp (nI_ge (a := 57) (b := v) (by omega) (by omega)))
      · by_cases q2 : v < 48
        · exact nI_ge (b := 48) q2 (by first | decide | simp) z.1
        · exact nI_ge (a := 57) (b := v) (by omega) (by omega) z.2
  · refine Or.inr ⟨Or.inl (Int32.lt_trans h3 (by first | decide | simp)), fun z => nI_ge (a := 57) (b := v) (by omega) (by omega) z.2⟩
theorem Bt.let {b n : Int32} (h : Bt b n) : (∃ d, d < 26 ∧ b = nI (97 + d) ∧ n = nI (97 + d)) ∨ ((b < 97 ∨ 122 < b) ∧ ¬ (97 ≤ n ∧ n ≤ 122)) := by
  rcases h.cs with ⟨v, hv, rfl, rfl⟩ | ⟨v, h1, h2, rfl, h3⟩
  · by_cases q : 97 ≤ v ∧ v ≤ 122
    · exact Or.inl ⟨v - 97, by omega, by rw [show 97 + (v - 97) = v by omega], by rw [show 97 + (v - 97) = v by omega]⟩
    · refine Or.inr ⟨?_, fun z => ?_⟩
      · by_cases q2 : v < 97
        · exact Or.inl (Int32.not_le.mp (nI_ge (b := 97) q2 (by first | decide | simp)))
        · exact Or.inr (Int32.not_le.mp (nI_ge (a := 122) (b := v) (by omega) (by omega)))
      · by_cases q2 : v < 97
        · exact nI_ge (b := 97) q2 (by first | decide | simp) z.1
        · exact nI_ge (a := 122) (b := v) (by omega) (by omega) z.2
  · refine Or.inr ⟨Or.inl (Int32.lt_trans h3 (by first | decide | simp)), fun z => nI_ge (a := 122) (b := v) (by omega) (by omega) z.2⟩
theorem isD1 {len p : Nat} {N : Mem} (h : N.1 (10, 0, 0) 9 = nI len) (hl : len ≤ 900) (hp : p < len) (q : 48 ≤ N.1 (30, 0, 0) p ∧ N.1 (30, 0, 0) p ≤ 57) : f_X12_isDigit (nI p) N = some (1, N) := by
  unfold f_X12_isDigit
  rw [bA_in h hl hp, bnd_some, iR1 q, bnd_some, if_neg (by first | decide | simp)]
theorem isD0 {len p : Nat} {N : Mem} (h : N.1 (10, 0, 0) 9 = nI len) (hl : len ≤ 900) (hp : p ≤ len) (q : p < len → ¬ (48 ≤ N.1 (30, 0, 0) p ∧ N.1 (30, 0, 0) p ≤ 57)) : f_X12_isDigit (nI p) N = some (0, N) := by
  unfold f_X12_isDigit
  by_cases z : p < len
  · rw [bA_in h hl z, bnd_some, iR0 (q z), bnd_some, if_neg (by first | decide | simp)]
  · rw [show p = len by omega, bA_out h hl, bnd_some, iR0 (by first | decide | simp), bnd_some, if_neg (by first | decide | simp)]
theorem isL1 {len p : Nat} {N : Mem} (h : N.1 (10, 0, 0) 9 = nI len) (hl : len ≤ 900) (hp : p < len) (q : 97 ≤ N.1 (30, 0, 0) p ∧ N.1 (30, 0, 0) p ≤ 122) : f_X12_isLetter (nI p) N = some (1, N) := by
  unfold f_X12_isLetter
  rw [bA_in h hl hp, bnd_some, iR1 q, bnd_some, if_neg (by first | decide | simp)]
theorem isL0 {len p : Nat} {N : Mem} (h : N.1 (10, 0, 0) 9 = nI len) (hl : len ≤ 900) (hp : p ≤ len) (q : p < len → ¬ (97 ≤ N.1 (30, 0, 0) p ∧ N.1 (30, 0, 0) p ≤ 122)) : f_X12_isLetter (nI p) N = some (0, N) := by
  unfold f_X12_isLetter
  by_cases z : p < len
  · rw [bA_in h hl z, bnd_some, iR0 (q z), bnd_some, if_neg (by first | decide | simp)]
  · rw [show p = len by omega, bA_out h hl, bnd_some, iR0 (by first | decide | simp), bnd_some, if_neg (by first | decide | simp)]
/-- where the class's run stops -/
theorem rr_end {len s q f : Nat} {k lo hi mx : Int32} {n : Nat} {M : Mem} (h : M.1 (6, 0, 0) 1 = nI len) (hl : len ≤ 900) (hs : M.1 (6, 0, 0) 4 = nI s) (hsq : s ≤ q) (hq : q ≤ len) (hn : mx = nI n) (hn2 : n < 900) (z : q < len → (M.1 (22, 0, 0) q < lo ∨ hi < M.1 (22, 0, 0) q)) :
    f_X7_readRun_16 (f + 1) k lo hi mx (nI q) M = some ((), uI (uI M (6, 0, 0) 2 (nI q)) (6, 0, 0) 5 (if q - s ≤ n then k else 4)) := by
  have e : f_X7_readRun_99 k mx (nI q) M = some ((), uI (uI M (6, 0, 0) 2 (nI q)) (6, 0, 0) 5 (if q - s ≤ n then k else 4)) := by
    unfold f_X7_readRun_99
    dsimp only [nm]
    rw [show (uI M (6, 0, 0) 2 (nI q)).1 (6, 0, 0) 4 = nI s by rw [uI_q (fun y => absurd y.2 (by first | decide | simp))]; exact hs, nI_sub hsq, hn]
    by_cases y : q - s ≤ n
    · rw [if_pos (nI_le (by omega) (by omega)), if_pos y]
    · rw [if_neg (nI_ge (by omega) (by omega)), if_neg y]
  rw [show f_X7_readRun_16 (f + 1) k lo hi mx (nI q) M = _ from Eq.trans (by unfold f_X7_readRun_16; exact rfl) rfl, h, e]
  by_cases y : q < len
  · have ec : (nI q).toNatClampNeg = q := nI_clamp (by omega)
    rw [if_neg (nI_ge y (by omega)), if_neg (nbad (by omega) (by first | decide | simp))]
    rcases z y with w | w
    · rw [if_pos (by rw [ec]; exact w)]
    · by_cases w2 : M.1 (22, 0, 0) q < lo
      · rw [if_pos (by rw [ec]; exact w2)]
      · rw [if_neg (by rw [ec]; exact w2), if_neg (nbad (by omega) (by first | decide | simp)), if_pos (by rw [ec]; exact w)]
  · rw [if_pos (nI_le (by omega) (by omega))]
theorem rr_step {len q f : Nat} {k lo hi mx : Int32} {M : Mem} (h : M.1 (6, 0, 0) 1 = nI len) (hl : len ≤ 900) (hq : q < len) (z1 : ¬ M.1 (22, 0, 0) q < lo) (z2 : ¬ hi < M.1 (22, 0, 0) q) :
    f_X7_readRun_16 (f + 1) k lo hi mx (nI q) M = f_X7_readRun_16 f k lo hi mx (nI (q + 1)) (uI (uL M (6, 0, 0) 3 ((32 * (M.2.1 (6, 0, 0) 3)) + (Int32.toInt64 ((M.1 (22, 0, 0) q - lo) + 1)))) (6, 0, 0) 6 ((10 * M.1 (6, 0, 0) 6) + (M.1 (22, 0, 0) q - lo))) := by
  have ec : (nI q).toNatClampNeg = q := nI_clamp (by omega)
  rw [show f_X7_readRun_16 (f + 1) k lo hi mx (nI q) M = _ from Eq.trans (by unfold f_X7_readRun_16; exact rfl) rfl, h, if_neg (nI_ge hq (by omega)), if_neg (nbad (by omega) (by first | decide | simp)), if_neg (by rw [ec]; exact z1), if_neg (nbad (by omega) (by first | decide | simp)), if_neg (by rw [ec]; exact z2), if_neg (nbad (by omega) (by first | decide | simp))]
  dsimp only [nm]
  rw [if_neg (nbad (by omega) (by first | decide | simp)), ec, nI_1]
  rfl
theorem uIr {M : Mem} {k f : Nat} {x : Int32} {o : Oid} (h : f ≠ k := by decide) : (uI M o k x).1 o f = M.1 o f := uI_q (fun z => h z.2)
def NumR (s q len : Nat) (M N M' N' : Mem) : Prop := FT M M' ∧ GT N N' ∧ M'.1 (6, 0, 0) 7 = M.1 (6, 0, 0) 7 ∧ M'.1 (6, 0, 0) 4 = nI s ∧ N'.1 (10, 0, 0) 12 = nI s ∧ N'.1 (10, 0, 0) 15 = N.1 (10, 0, 0) 15 ∧ ∃ e, q ≤ e ∧ (q < len → 48 ≤ N.1 (30, 0, 0) q ∧ N.1 (30, 0, 0) q ≤ 57 → q < e) ∧ e ≤ len ∧ M'.1 (6, 0, 0) 2 = nI e ∧ N'.1 (10, 0, 0) 10 = nI e ∧
      ((M'.1 (6, 0, 0) 5 = 2 ∧ N'.1 (10, 0, 0) 11 = 2 ∧ ∃ a, a ≤ 99999 ∧ M'.1 (6, 0, 0) 6 = nI a ∧ N'.1 (10, 0, 0) 13 = nI a) ∨ (M'.1 (6, 0, 0) 5 = 4 ∧ N'.1 (10, 0, 0) 11 = 4))
theorem num_end {len s q f g : Nat} {M N : Mem} (h : Sta len M N) (h4 : M.1 (6, 0, 0) 4 = nI s) (h12 : N.1 (10, 0, 0) 12 = nI s) (h10 : N.1 (10, 0, 0) 10 = nI q) (h11 : N.1 (10, 0, 0) 11 = 2) (hs : s ≤ q) (hq : q ≤ len) (hv : q - s ≤ 5 → ∃ a, a < 10 ^ (q - s) ∧ M.1 (6, 0, 0) 6 = nI a ∧ N.1 (10, 0, 0) 13 = nI a)
    (z1 : q < len → (M.1 (22, 0, 0) q < 48 ∨ 57 < M.1 (22, 0, 0) q)) (z2 : q < len → ¬ (48 ≤ N.1 (30, 0, 0) q ∧ N.1 (30, 0, 0) q ≤ 57)) :
    ∃ M' N', f_X7_readRun_16 (f + 1) 2 48 57 5 (nI q) M = some ((), M') ∧ f_X12_scanNumber_10 (g + 1) N = some ((), N') ∧ NumR s q len M N M' N' := by
  obtain ⟨hl, c1, m9, hb, hk⟩ := h
  have ec := rr_end (f := f) (k := 2) (lo := 48) (hi := 57) (mx := 5) (n := 5) c1 hl h4 hs hq rfl (by first | decide | simp) z1
  have em : f_X12_scanNumber_10 (g + 1) N = _ := Eq.trans (by unfold f_X12_scanNumber_10; exact rfl) rfl
  by_cases y : q - s ≤ 5
  · obtain ⟨a, ha, a1, a2⟩ := hv y
    refine ⟨_, N, ec, ?_, (FT.u (by first | decide | simp)).trans (FT.u (by first | decide | simp)), GT.refl N, by rw [uIr, uIr], by rw [uIr, uIr]; exact h4, h12, rfl, q, Nat.le_refl q, fun a b => absurd b (z2 a), hq, by rw [uIr]; exact uI_at, h10, Or.inl ⟨by rw [if_pos y]; exact uI_at, h11, a, ?_, by rw [uIr, uIr]; exact a1, a2⟩⟩
    · rw [em, h10, isD0 m9 hl hq z2, bnd_some, if_pos rfl, h10, h12, nI_sub hs, if_pos (show nI (q - s) ≤ (5 : Int32) from nI_le (b := 5) y (by first | decide | simp))]
    · have : 10 ^ (q - s) ≤ 10 ^ 5 := Nat.pow_le_pow_right (by first | decide | simp) y
      omega
  · refine ⟨_, uI N (10, 0, 0) 11 4, ec, ?_, (FT.u (by first | decide | simp)).trans (FT.u (by first | decide | simp)), GT.u (by first | decide | simp) (by first | decide | simp), by rw [uIr, uIr], by rw [uIr, uIr]; exact h4, by rw [uIr]; exact h12, by rw [uIr], q, Nat.le_refl q, fun a b => absurd b (z2 a), hq, by rw [uIr]; exact uI_at, by rw [uIr]; exact h10, Or.inr ⟨by rw [if_neg y]; exact uI_at, uI_at⟩⟩
    rw [em, h10, isD0 m9 hl hq z2, bnd_some, if_pos rfl, h10, h12, nI_sub hs, if_neg (show ¬ nI (q - s) ≤ (5 : Int32) from nI_ge (a := 5) (b := q - s) (by omega) (by omega))]
    rfl
theorem ten {a d : Nat} : (10 : Int32) * nI a + (nI (48 + d) - 48) = nI (10 * a + d) := by
  rw [show (10 : Int32) = nI 10 from rfl, show (48 : Int32) = nI 48 from rfl, pk_mul, nI_sub (by omega), nI_add, show 48 + d - 48 = d by omega]
theorem ten2 {a d : Nat} : (10 : Int32) * nI a + nI (48 + d) - 48 = nI (10 * a + d) := by
  rw [show (10 : Int32) = nI 10 from rfl, show (48 : Int32) = nI 48 from rfl, pk_mul, nI_add, nI_sub (by omega), show 10 * a + (48 + d) - 48 = 10 * a + d by omega]
theorem num_run {len s : Nat} : ∀ (m q f g : Nat) (M N : Mem), q + m = len → m < f → m < g → Sta len M N → M.1 (6, 0, 0) 4 = nI s → N.1 (10, 0, 0) 12 = nI s → N.1 (10, 0, 0) 10 = nI q → N.1 (10, 0, 0) 11 = 2 → s ≤ q → (q - s ≤ 5 → ∃ a, a < 10 ^ (q - s) ∧ M.1 (6, 0, 0) 6 = nI a ∧ N.1 (10, 0, 0) 13 = nI a) →
    ∃ M' N', f_X7_readRun_16 f 2 48 57 5 (nI q) M = some ((), M') ∧ f_X12_scanNumber_10 g N = some ((), N') ∧ NumR s q len M N M' N' := by
  intro m
  induction m with
  | zero =>
    intro q f g M N hq hf hg h h4 h12 h10 h11 hs hv
    obtain ⟨f, rfl⟩ : ∃ k, f = k + 1 := ⟨f - 1, by omega⟩
    obtain ⟨g, rfl⟩ : ∃ k, g = k + 1 := ⟨g - 1, by omega⟩
    exact num_end h h4 h12 h10 h11 hs (by omega) hv (fun y => by omega) (fun y => by omega)
  | succ m ih =>
    intro q f g M N hq hf hg h h4 h12 h10 h11 hs hv
    obtain ⟨f, rfl⟩ : ∃ k, f = k + 1 := ⟨f - 1, by omega⟩
    obtain ⟨g, rfl⟩ : ∃ k, g = k + 1 := ⟨g - 1, by omega⟩
    have h' := h
    obtain ⟨hl, c1, m9, hb, hk⟩ := h'
    have hq9 : q < 900 := by omega
    rcases (hb q hq9).dig with ⟨d, hd, b1, b2⟩ | ⟨z1, z2⟩
    · have cs := rr_step (f := f) (k := 2) (lo := 48) (hi := 57) (mx := 5) c1 hl (q := q) (by omega) (by rw [b1]; exact Int32.not_lt.mpr (nI_le (a := 48) (by omega) (by omega))) (by rw [b1]; exact Int32.not_lt.mpr (nI_le (b := 57) (by omega) (by first | decide | simp)))
      have fM : FT M (uI (uL M (6, 0, 0) 3 ((32 * (M.2.1 (6, 0, 0) 3)) + (Int32.toInt64 ((M.1 (22, 0, 0) q - 48) + 1)))) (6, 0, 0) 6 ((10 * M.1 (6, 0, 0) 6) + (M.1 (22, 0, 0) q - 48))) := FT.ul.trans (FT.u (by first | decide | simp))
      have em : f_X12_scanNumber_10 (g + 1) N = _ := Eq.trans (by unfold f_X12_scanNumber_10; exact rfl) rfl
      have i1 : f_X12_isDigit (nI q) N = some (1, N) := isD1 m9 hl (by omega) (by rw [b2]; exact ⟨nI_le (a := 48) (by omega) (by omega), nI_le (b := 57) (by omega) (by first | decide | simp)⟩)
      have e4 : (uI (uL M (6, 0, 0) 3 ((32 * (M.2.1 (6, 0, 0) 3)) + (Int32.toInt64 ((M.1 (22, 0, 0) q - 48) + 1)))) (6, 0, 0) 6 ((10 * M.1 (6, 0, 0) 6) + (M.1 (22, 0, 0) q - 48))).1 (6, 0, 0) 4 = nI s := by rw [uIr]; exact h4
      have e7 : (uI (uL M (6, 0, 0) 3 ((32 * (M.2.1 (6, 0, 0) 3)) + (Int32.toInt64 ((M.1 (22, 0, 0) q - 48) + 1)))) (6, 0, 0) 6 ((10 * M.1 (6, 0, 0) 6) + (M.1 (22, 0, 0) q - 48))).1 (6, 0, 0) 7 = M.1 (6, 0, 0) 7 := by rw [uIr]; rfl
      by_cases y : q - s < 5
      · obtain ⟨a, ha, a1, a2⟩ := hv (by omega)
        have gN : GT N (uI (uI N (10, 0, 0) 13 (nI (10 * a + d))) (10, 0, 0) 10 (nI (q + 1))) := (GT.u (by first | decide | simp) (by first | decide | simp)).trans (GT.u (by first | decide | simp) (by first | decide | simp))
        obtain ⟨M', N', r1, r2, r3, r4, r5, r6, r7, r8, e, r9, _, r10, r11⟩ := ih (q + 1) f g _ (uI (uI N (10, 0, 0) 13 (nI (10 * a + d))) (10, 0, 0) 10 (nI (q + 1))) (by omega) (by omega) (by omega) (h.of fM gN) e4 (by rw [uIr, uIr]; exact h12) uI_at (by rw [uIr, uIr]; exact h11) (by omega) (fun _ => ⟨10 * a + d, by rw [show q + 1 - s = q - s + 1 by omega, Nat.pow_succ]; omega, by rw [uI_at, a1, b1, ten], by rw [uIr]; exact uI_at⟩)
        refine ⟨M', N', cs.trans r1, ?_, fM.trans r3, gN.trans r4, r5.trans e7, r6, r7, by rw [r8, uIr, uIr], e, by omega, fun _ _ => by omega, r10, r11⟩
        rw [em, h10, i1, bnd_some, if_neg (by first | decide | simp), h10, h12, nI_sub hs, if_neg (show ¬ (5 : Int32) ≤ nI (q - s) from nI_ge (b := 5) (a := q - s) y (by first | decide | simp)), bA_in m9 hl (by omega), bnd_some, a2, b2, ten2]
        unfold f_X12_scanNumber_57
        dsimp only [nm]
        rw [uIr, h10, nI_1]
        exact r2
      · have gN : GT N (uI N (10, 0, 0) 10 (nI (q + 1))) := GT.u (by first | decide | simp) (by first | decide | simp)
        obtain ⟨M', N', r1, r2, r3, r4, r5, r6, r7, r8, e, r9, _, r10, r11⟩ := ih (q + 1) f g _ (uI N (10, 0, 0) 10 (nI (q + 1))) (by omega) (by omega) (by omega) (h.of fM gN) e4 (by rw [uIr]; exact h12) uI_at (by rw [uIr]; exact h11) (by omega) (fun y2 => absurd y2 (by omega))
        refine ⟨M', N', cs.trans r1, ?_, fM.trans r3, gN.trans r4, r5.trans e7, r6, r7, by rw [r8, uIr], e, by omega, fun _ _ => by omega, r10, r11⟩
        rw [em, h10, i1, bnd_some, if_neg (by first | decide | simp), h10, h12, nI_sub hs, if_pos (show (5 : Int32) ≤ nI (q - s) from nI_le (a := 5) (b := q - s) (by omega) (by omega))]
        unfold f_X12_scanNumber_57
        dsimp only [nm]
        rw [h10, nI_1]
        exact r2
    · exact num_end h h4 h12 h10 h11 hs (by omega) hv (fun _ => z1) (fun _ => z2)
