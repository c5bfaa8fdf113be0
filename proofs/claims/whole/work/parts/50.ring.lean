/-! ===== rings against rows that move ===== -/
def RgC (j z o : Nat) (L V : LM) : Prop := ∀ i k, i < z → k < 4 → V.1 (21, 4 * i + k, j) = L.1 (21, 4 * ((o + i) % rk j) + k, j)
def pick (k : Nat) (a b c d : Int32) : Int32 := match k with | 0 => a | 1 => b | 2 => c | _ => d
theorem z_put_row {j s r k : Nat} {a b c d : Int32} {V : LM} (hk : k < 4) : (z_put j (4 * s) a b c d V).1 (21, 4 * r + k, j) = if r = s then pick k a b c d else V.1 (21, 4 * r + k, j) := by
  unfold z_put
  simp only [rdw]
  have e : ∀ m, ((21, 4 * r + k, j) : Cl) = (21, m, j) ↔ 4 * r + k = m := fun m => ⟨fun h => by simpa using h, fun h => by rw [h]⟩
  by_cases h : r = s
  · subst h
    rw [if_pos rfl]
    rcases (show k = 0 ∨ k = 1 ∨ k = 2 ∨ k = 3 by omega) with rfl | rfl | rfl | rfl
    · rw [if_neg (fun q => by have := (e _).mp q; omega), if_neg (fun q => by have := (e _).mp q; omega), if_neg (fun q => by have := (e _).mp q; omega), if_pos ((e (4 * r)).mpr rfl)]
      rfl
    · rw [if_neg (fun q => by have := (e _).mp q; omega), if_neg (fun q => by have := (e _).mp q; omega), if_pos ((e _).mpr rfl)]
      rfl
    · rw [if_neg (fun q => by have := (e _).mp q; omega), if_pos ((e _).mpr rfl)]
      rfl
    · rw [if_pos ((e _).mpr rfl)]
      rfl
  · rw [if_neg h, if_neg (fun q => h (by have := (e _).mp q; omega)), if_neg (fun q => h (by have := (e _).mp q; omega)), if_neg (fun q => h (by have := (e _).mp q; omega)), if_neg (fun q => h (by have := (e _).mp q; omega))]
theorem md {x m : Nat} (h : x < 2 * m) : x % m = if x < m then x else x - m := by
  split
  · rename_i h1; exact Nat.mod_eq_of_lt h1
  · rename_i h1; rw [Nat.mod_eq_sub_mod (by omega), Nat.mod_eq_of_lt (by omega)]
theorem RgC.push {j z o : Nat} {a b c d : Int32} {L V : LM} (h : RgC j z o L V) (hz : z < rk j) (ho : o < rk j) : RgC j (z + 1) o (z_put j (4 * ((o + z) % rk j)) a b c d L) (z_put j (4 * z) a b c d V) := by
  intro i k hi hk
  rw [z_put_row hk, z_put_row hk]
  by_cases h1 : i = z
  · subst h1
    rw [if_pos rfl, if_pos rfl]
  · rw [if_neg h1, if_neg (fun q => ?_)]
    · exact h i k (by omega) hk
    · rw [md (by omega), md (by omega)] at q
      split at q <;> split at q <;> omega
theorem RgC.drop {j z o : Nat} {L V : LM} (h : RgC j z o L V) (hz : 1 ≤ z) : RgC j (z - 1) ((o + 1) % rk j) L (sh j (4 * z - 4) V) := by
  intro i k hi hk
  have e : (sh j (4 * z - 4) V).1 (21, 4 * i + k, j) = V.1 (21, 4 * (i + 1) + k, j) := by
    unfold sh
    dsimp only
    rw [if_pos ⟨rfl, rfl, by omega⟩, show 4 * i + k + 4 = 4 * (i + 1) + k by omega]
  rw [e, h (i + 1) k (by omega) hk, Nat.mod_add_mod, show o + 1 + i = o + (i + 1) by omega]
theorem RgC.of {j z o : Nat} {L V L' V' : LM} (h : RgC j z o L V) (hl : ∀ i, L'.1 (21, i, j) = L.1 (21, i, j)) (hv : ∀ i, V'.1 (21, i, j) = V.1 (21, i, j)) : RgC j z o L' V' := by
  intro i k hi hk
  rw [hl, hv]
  exact h i k hi hk
/-! ===== the relation, piece by piece ===== -/
def Sq (j : Nat) (L V : LM) : Prop := ∃ p n o k, L.1 (5, 4, j) = nI p ∧ L.1 (5, 1, j) = nI n ∧ n ≤ capE j ∧ (p < n ∨ p = 0) ∧ bz (L.1 (5, 3, j)) ∧
  (L.1 (5, 3, j) = 1 → ∃ q, L.1 (5, 5, j) = nI q ∧ p < q ∧ q ≤ n ∧ (j = 1 → q = n) ∧ V.1 (5, 5, j) = nI (q - p)) ∧ (j = 1 → L.1 (5, 3, j) = 0 → p = 0) ∧
  L.1 (2, 12, 0) = nI o ∧ o ≤ 4 ∧ L.1 (5, 10, j) = nI k ∧ k < 2 ^ o
def Ow (L : LM) : Prop := L.1 (1, 0, 0) = 0 ∨ ∃ s, s < 2 ∧ L.1 (1, 0, 0) = nI (s + 1) ∧ L.1 (5, 3, s) = 1
def Cv (t : Nat) (L V : LM) : Prop := L.1 (2, 15, 0) = nI t ∧ Ow L ∧ (¬ L.1 (1, 0, 0) = 0 → (∃ e, e < 8 ∧ L.1 (1, 1, 0) = nI e) ∧ V.1 (1, 6, 0) = L.1 (1, 2, 0) - 12) ∧ V.1 (2, 17, 0) = L.1 (5, 8, 0) + L.1 (5, 8, 1)
def Wn (L V : LM) : Prop := ∀ w, w < 3 → (L.1 (8, 6, w) = 0 ∧ L.1 (8, 7, w) = -1 ∧ L.1 (8, 8, w) = -1 ∧ L.1 (8, 9, w) = -1) ∨ (L.1 (8, 6, w) = 1 ∧ V.1 (8, 7, w) = L.1 (8, 7, w) ∧ V.1 (8, 8, w) = L.1 (8, 8, w) ∧ V.1 (8, 9, w) = L.1 (8, 9, w))
def Lt (u : Nat) (L V : LM) : Prop := ∃ r p n, L.1 (5, 8, 1) = nI r ∧ r ≤ u ∧ u < 2 ^ 31 ∧ L.1 (5, 4, 1) = nI p ∧ L.1 (5, 1, 1) = nI n ∧ n ≤ 4 ∧ p < 2 ^ 31 ∧ (r < n → p = r) ∧ (∀ i, i < n → V.1 (22, i, 0) = if i < r then 1 else 0)
def Rg (j : Nat) (L V : LM) : Prop := ∃ z o c, L.1 (4, 5, j) = nI z ∧ L.1 (4, 4, j) = nI o ∧ L.1 (4, 2, j) = nI c ∧ o < rk j ∧ z ≤ c ∧ c ≤ rk j ∧ 1 ≤ c ∧ RgC j z o L V
def R (t u : Nat) (L V : LM) : Prop := Eqq L V ∧ St L ∧ Cv t L V ∧ Sq 0 L V ∧ Sq 1 L V ∧ Wn L V ∧ Lt u L V ∧ Rg 0 L V ∧ Rg 1 L V
theorem capE8 {j : Nat} : capE j ≤ 8 := by unfold capE; split <;> decide
theorem nIi {a b : Nat} (h : nI a = nI b) (ha : a < 2 ^ 31) (hb : b < 2 ^ 31) : a = b := (nI_eq ha hb).mp h
theorem nI_sub {a b : Nat} (h : b ≤ a) : nI a - nI b = nI (a - b) := pk_sub h
theorem Sq.of {j : Nat} {L V L' V' : LM} (h : Sq j L V) (h1 : L'.1 (5, 4, j) = L.1 (5, 4, j)) (h2 : L'.1 (5, 1, j) = L.1 (5, 1, j)) (h3 : L'.1 (5, 3, j) = L.1 (5, 3, j)) (h4 : L'.1 (5, 5, j) = L.1 (5, 5, j)) (h5 : L'.1 (2, 12, 0) = L.1 (2, 12, 0)) (h6 : L'.1 (5, 10, j) = L.1 (5, 10, j)) (h7 : V'.1 (5, 5, j) = V.1 (5, 5, j)) : Sq j L' V' := by
  unfold Sq at *
  rw [h1, h2, h3, h4, h5, h6, h7]
  exact h
theorem Wn.of {L V L' V' : LM} (h : Wn L V) (hl : ∀ x : Cl, x.1 = 8 → L'.1 x = L.1 x) (hv : ∀ x : Cl, x.1 = 8 → V'.1 x = V.1 x) : Wn L' V' := by
  intro w hw
  rw [hl _ rfl, hl _ rfl, hl _ rfl, hl _ rfl, hv _ rfl, hv _ rfl, hv _ rfl]
  exact h w hw
theorem Lt.of {u : Nat} {L V L' V' : LM} (h : Lt u L V) (h1 : L'.1 (5, 8, 1) = L.1 (5, 8, 1)) (h2 : L'.1 (5, 4, 1) = L.1 (5, 4, 1)) (h3 : L'.1 (5, 1, 1) = L.1 (5, 1, 1)) (h4 : ∀ i, V'.1 (22, i, 0) = V.1 (22, i, 0)) : Lt u L' V' := by
  unfold Lt at *
  rw [h1, h2, h3]
  simp only [h4]
  exact h
theorem Lt.up {u u' : Nat} {L V : LM} (h : Lt u L V) (h1 : u ≤ u') (h2 : u' < 2 ^ 31) : Lt u' L V := by
  obtain ⟨r, p, n, a1, a2, a3, a4⟩ := h
  exact ⟨r, p, n, a1, by omega, h2, a4⟩
theorem Rg.of {j : Nat} {L V L' V' : LM} (h : Rg j L V) (h1 : L'.1 (4, 5, j) = L.1 (4, 5, j)) (h2 : L'.1 (4, 4, j) = L.1 (4, 4, j)) (h3 : L'.1 (4, 2, j) = L.1 (4, 2, j)) (hl : ∀ i, L'.1 (21, i, j) = L.1 (21, i, j)) (hv : ∀ i, V'.1 (21, i, j) = V.1 (21, i, j)) : Rg j L' V' := by
  obtain ⟨z, o, c, a1, a2, a3, a4, a5, a6, a7, a8⟩ := h
  exact ⟨z, o, c, by rw [h1, a1], by rw [h2, a2], by rw [h3, a3], a4, a5, a6, a7, a8.of hl hv⟩
/-- where a pass ends: the class's place, the reference's number of entries left -/
theorem pe_left {j p n : Nat} {L V : LM} (E : Eqq L V) (S : St L) (hj : j < 2) (hp : L.1 (5, 4, j) = nI p) (hn : L.1 (5, 1, j) = nI n) (h : p < n) (h8 : n ≤ 8) : ∃ q, n_pe j L = nI q ∧ p < q ∧ q ≤ n ∧ (j = 1 → q = n) ∧ m_left j V = nI (q - p) := by
  unfold n_pe m_left
  rw [E.1 (5, 2, 0) rfl, E.1 (5, 1, j) rfl, E.1 (5, 4, j) rfl, hp, hn, nI_sub (by omega)]
  obtain ⟨_, _, ⟨g, hg, hg2⟩, hz, _⟩ := S
  rcases (show j = 0 ∨ j = 1 by omega) with rfl | rfl
  · rw [hg2]
    by_cases h0 : g = 0
    · subst h0
      rw [if_neg (fun q => absurd q.1 (by first | decide | simp)), if_neg (fun q => absurd q.2 (by first | decide | simp))]
      exact ⟨n, rfl, h, Nat.le_refl n, fun _ => rfl, rfl⟩
    · have hg0 : (0 : Int32) < nI g := nI_lt (a := 0) (by omega) (by omega)
      rw [if_pos (c := 0 = 0 ∧ _) ⟨rfl, hg0⟩, nI_add]
      unfold lsr
      by_cases h1 : p + g < n
      · rw [if_pos ⟨hg0, nI_lt h1 (by omega)⟩, if_neg (nI_ge (by omega) (by omega))]
        exact ⟨p + g, rfl, by omega, by omega, fun q => absurd q (by first | decide | simp), by rw [Nat.add_sub_cancel_left]⟩
      · rw [if_neg (fun q => nI_nlt (a := p + g) (b := n) (by omega) (by omega) q.2), if_pos (nI_le (by omega) (by omega))]
        exact ⟨n, rfl, h, Nat.le_refl n, fun _ => rfl, rfl⟩
  · rw [hz, if_neg (fun q => absurd q.1 (by first | decide | simp)), if_neg (fun q => absurd q.1 (by first | decide | simp))]
    exact ⟨n, rfl, h, Nat.le_refl n, fun _ => rfl, rfl⟩
