/-! ===== drafts: a converter that has not run ===== -/
/-- cells that a setup text sets -/
def stb : Cl → Bool := fun x => match x with
  | (0, f, _) => Nat.ble f 4
  | (2, f, _) => Nat.ble 9 f && Nat.ble f 14
  | (4, f, _) => Nat.beq f 2 || Nat.beq f 3
  | (5, f, _) => Nat.beq f 1 || Nat.beq f 2
  | (7, f, _) => Nat.ble f 2
  | (8, f, _) => Nat.ble f 4
  | (20, _, _) => true
  | _ => false
/-- cells that stay as at first -/
def idl : Cl → Bool := fun x => match x with
  | (1, f, _) => Nat.beq f 0
  | (2, f, _) => Nat.beq f 15
  | (4, f, _) => Nat.beq f 4 || Nat.beq f 5
  | (5, f, _) => Nat.beq f 3 || Nat.beq f 4 || Nat.beq f 8 || Nat.beq f 10
  | (8, f, _) => Nat.ble 6 f && Nat.ble f 9
  | _ => false
def idV : Cl → Bool := fun x => match x with
  | (2, f, _) => Nat.beq f 17
  | (22, _, _) => true
  | _ => false
def inR : Cl → Bool := fun x => match x with
  | (1, _, j) => Nat.beq j 0
  | (2, _, j) => Nat.beq j 0
  | (4, _, j) => Nat.blt j 2
  | (5, _, j) => Nat.blt j 2
  | (8, _, j) => Nat.blt j 3
  | (22, i, j) => Nat.blt i 4 && Nat.beq j 0
  | _ => false
def Idle (L V : LM) : Prop := (∀ b, idl b = true → inR b = true → L.1 b = iniL b) ∧ (∀ b, idV b = true → inR b = true → V.1 b = 0)
def Q (L V : LM) : Prop := Eqq L V ∧ St L ∧ Idle L V
theorem bT {a b : Bool} (h : (a && b) = true) : a = true ∧ b = true := by simpa using h
theorem stb_idl {a : Cl} (h : stb a = true) : idl a = false ∧ idV a = false := by
  obtain ⟨k, f, j⟩ := a
  unfold stb at h
  split at h
  · rename_i e; simp only [Prod.mk.injEq] at e; obtain ⟨e1, e2, e3⟩ := e; subst e1 e2 e3; exact ⟨rfl, rfl⟩
  · rename_i f' j' e; simp only [Prod.mk.injEq] at e; obtain ⟨e1, e2, e3⟩ := e; subst e1 e2 e3
    have h1 := Nat.le_of_ble_eq_true (bT h).1
    have h2 := Nat.le_of_ble_eq_true (bT h).2
    constructor
    · show Nat.beq f 15 = false
      cases hh : Nat.beq f 15 with
      | false => rfl
      | true => have := Nat.eq_of_beq_eq_true hh; omega
    · show Nat.beq f 17 = false
      cases hh : Nat.beq f 17 with
      | false => rfl
      | true => have := Nat.eq_of_beq_eq_true hh; omega
  · rename_i f' j' e; simp only [Prod.mk.injEq] at e; obtain ⟨e1, e2, e3⟩ := e; subst e1 e2 e3
    rcases (show f = 2 ∨ f = 3 by simpa using h) with rfl | rfl <;> exact ⟨rfl, rfl⟩
  · rename_i f' j' e; simp only [Prod.mk.injEq] at e; obtain ⟨e1, e2, e3⟩ := e; subst e1 e2 e3
    rcases (show f = 1 ∨ f = 2 by simpa using h) with rfl | rfl <;> exact ⟨rfl, rfl⟩
  · rename_i e; simp only [Prod.mk.injEq] at e; obtain ⟨e1, e2, e3⟩ := e; subst e1 e2 e3; exact ⟨rfl, rfl⟩
  · rename_i f' j' e; simp only [Prod.mk.injEq] at e; obtain ⟨e1, e2, e3⟩ := e; subst e1 e2 e3
    have h2 := Nat.le_of_ble_eq_true h
    refine ⟨?_, rfl⟩
    show (Nat.ble 6 f && Nat.ble f 9) = false
    cases hh : Nat.ble 6 f with
    | false => rfl
    | true => have := Nat.le_of_ble_eq_true hh; omega
  · rename_i e; simp only [Prod.mk.injEq] at e; obtain ⟨e1, e2, e3⟩ := e; subst e1 e2 e3; exact ⟨rfl, rfl⟩
  · cases h
theorem Q.w {L V : LM} {a : Cl} {v : Int32} (h : Q L V) (ha : stb a = true) (hs : St (wI L a v)) : Q (wI L a v) (wI V a v) := by
  obtain ⟨hE, _, i1, i2⟩ := h
  obtain ⟨n1, n2⟩ := stb_idl ha
  refine ⟨hE.w rfl, hs, fun b hb hr => ?_, fun b hb hr => ?_⟩
  · rw [rdw, if_neg (fun q => by rw [q, n1] at hb; cases hb)]; exact i1 b hb hr
  · rw [rdw, if_neg (fun q => by rw [q, n2] at hb; cases hb)]; exact i2 b hb hr
theorem Q.r {L V : LM} (h : Q L V) : R 0 0 L V := by
  obtain ⟨hE, hS, i1, i2⟩ := h
  have hS' := hS
  obtain ⟨s1, s2, s3, s4, ⟨o, ho1, ho2⟩, s6, s7, s8, ⟨qk, q1, q2, q3⟩, s10, s11, s12, s13, s14, s15, s16, s17, s18⟩ := hS'
  have l8 : ∀ j, j < 2 → L.1 (5, 8, j) = 0 := fun j hj => i1 (5, 8, j) rfl (Nat.ble_eq.mpr hj)
  have l4 : ∀ j, j < 2 → L.1 (5, 4, j) = 0 := fun j hj => i1 (5, 4, j) rfl (Nat.ble_eq.mpr hj)
  have l3 : ∀ j, j < 2 → L.1 (5, 3, j) = 0 := fun j hj => i1 (5, 3, j) rfl (Nat.ble_eq.mpr hj)
  have l10 : ∀ j, j < 2 → L.1 (5, 10, j) = 0 := fun j hj => i1 (5, 10, j) rfl (Nat.ble_eq.mpr hj)
  have sq : ∀ j, j < 2 → Sq j L V := fun j hj => by
    obtain ⟨n, n1, n2⟩ := s1 j hj
    exact ⟨0, n, o, 0, l4 j hj, n2, n1, Or.inr rfl, Or.inl (l3 j hj), fun q => absurd ((l3 j hj).symm.trans q) (by first | decide | simp), fun _ _ => rfl, ho2, ho1, l10 j hj, Nat.two_pow_pos o⟩
  have rg : ∀ j, j < 2 → ∀ c, L.1 (4, 2, j) = nI c → 1 ≤ c → c ≤ rk j → Rg j L V := fun j hj c c1 c2 c3 => ⟨0, 0, c, i1 (4, 5, j) rfl (Nat.ble_eq.mpr hj), i1 (4, 4, j) rfl (Nat.ble_eq.mpr hj), c1, by omega, by omega, c3, c2, fun i k hi _ => absurd hi (by omega)⟩
  refine ⟨hE, hS, ⟨i1 (2, 15, 0) rfl rfl, Or.inl (i1 (1, 0, 0) rfl rfl), fun q => absurd (i1 (1, 0, 0) rfl rfl) q, ?_⟩, sq 0 (by first | decide | simp), sq 1 (by first | decide | simp), fun w hw => Or.inl ⟨i1 (8, 6, w) rfl (Nat.ble_eq.mpr hw), i1 (8, 7, w) rfl (Nat.ble_eq.mpr hw), i1 (8, 8, w) rfl (Nat.ble_eq.mpr hw), i1 (8, 9, w) rfl (Nat.ble_eq.mpr hw)⟩, ?_, rg 0 (by first | decide | simp) qk q3 q1 (by show qk ≤ 16; exact q2), rg 1 (by first | decide | simp) 64 s15 (by first | decide | simp) (by first | decide | simp)⟩
  · rw [i2 (2, 17, 0) rfl rfl, l8 0 (by first | decide | simp), l8 1 (by first | decide | simp)]
    rfl
  · obtain ⟨n, n1, n2⟩ := s1 1 (by first | decide | simp)
    exact ⟨0, 0, n, l8 1 (by first | decide | simp), Nat.le_refl 0, by decide, l4 1 (by first | decide | simp), n2, n1, by decide, fun _ => rfl, fun i hi => by
      rw [if_neg (by omega)]
      have h4 : n ≤ 4 := n1
      exact i2 (22, i, 0) rfl (by
        show (Nat.blt i 4 && Nat.beq 0 0) = true
        rw [show Nat.blt i 4 = true from Nat.ble_eq.mpr (by omega)]
        rfl)⟩
/-! what a written cell asks -/
theorem St.q {L : LM} {a : Cl} {v : Int32} (h : St L) (h41 : ¬ (a.1 = 4 ∧ a.2.1 = 1)) (hd : a.1 = 4 → a.2.2 = 0) (hg : ¬ (a.1 = 5 ∧ a.2.1 = 2 ∧ a.2.2 = 1))
    (c51 : ∀ j, a = (5, 1, j) → j < 2 → ∃ n, n ≤ capE j ∧ v = nI n) (c20 : ∀ j k, a = (20, k, j) → ∃ e, e < 8 ∧ v = nI e) (c52 : a = (5, 2, 0) → ∃ g, g ≤ 8 ∧ v = nI g) (c12 : a = (2, 12, 0) → ∃ o, o ≤ 4 ∧ v = nI o)
    (cb : (a = (2, 9, 0) ∨ a = (2, 10, 0) ∨ a = (2, 11, 0) ∨ a = (4, 3, 0) ∨ a.1 = 8 ∧ a.2.1 = 0) → bz v) (c42 : a = (4, 2, 0) → ∃ k, 1 ≤ k ∧ k ≤ 16 ∧ v = nI k)
    (c70 : a.1 = 7 → a.2.1 = 0 → v = 0 ∨ v = 1 ∨ v = 2) (c71 : a.1 = 7 → (a.2.1 = 1 ∨ a.2.1 = 2) → ∃ p, p ≤ 9999 ∧ v = nI p)
    (c80 : a.1 = 8 → a.2.1 = 0 → v = 1) (c84 : a.1 = 8 → a.2.1 = 4 → L.1 (8, 0, a.2.2) = 1) (c04 : a.1 = 0 → a.2.1 = 4 → ∃ q, 0 < q ∧ q ≤ 9999 ∧ v = nI q) (c214 : a = (2, 14, 0) → ∃ p, p ≤ 999 ∧ v = nI p) : St (wI L a v) := by
  obtain ⟨a1, a2, a3⟩ := a
  dsimp only at *
  have d1 : 5 ≠ a1 ∨ 2 ≠ a2 ∨ 1 ≠ a3 := by clear c51 c20 c52 c12 cb c42 c70 c71 c80 c84 c04 c214; omega
  have d2 : ∀ j, 4 ≠ a1 ∨ 1 ≠ a2 ∨ j ≠ a3 := by clear c51 c20 c52 c12 cb c42 c70 c71 c80 c84 c04 c214; omega
  have d3 : ∀ k, 4 ≠ a1 ∨ k ≠ a2 ∨ 1 ≠ a3 := by clear c51 c20 c52 c12 cb c42 c70 c71 c80 c84 c04 c214; omega
  have d5 : ∀ k, 4 ≠ a1 ∨ k ≠ a2 ∨ 2 ≠ a3 := by clear c51 c20 c52 c12 cb c42 c70 c71 c80 c84 c04 c214; omega
  obtain ⟨s1, s2, s3, s4, s5, s6, s7, s8, s9, s10, s11, s12, s13, s14, s15, s16, s17, s18⟩ := h
  have no : ∀ {b1 b2 b3 : Nat}, (b1 ≠ a1 ∨ b2 ≠ a2 ∨ b3 ≠ a3) → (wI L (a1, a2, a3) v).1 (b1, b2, b3) = L.1 (b1, b2, b3) := fun h => by
    rw [rdw, if_neg (fun q => by simp only [Prod.mk.injEq] at q; omega)]
  have g : ∀ (b : Cl) (P : Int32 → Prop), P (L.1 b) → (b = (a1, a2, a3) → P v) → P ((wI L (a1, a2, a3) v).1 b) := fun b P h1 h2 => by
    rw [rdw]
    by_cases q : b = (a1, a2, a3)
    · rw [if_pos q]; exact h2 q
    · rw [if_neg q]; exact h1
  refine ⟨fun j hj => g (5, 1, j) (fun x => ∃ n, n ≤ capE j ∧ x = nI n) (s1 j hj) (fun q => c51 j q.symm hj), fun j k hj hk => g (20, k, j) (fun x => ∃ e, e < 8 ∧ x = nI e) (s2 j k hj hk) (fun q => c20 j k q.symm), g (5, 2, 0) (fun x => ∃ g, g ≤ 8 ∧ x = nI g) s3 (fun q => c52 q.symm), ?_, g (2, 12, 0) (fun x => ∃ o, o ≤ 4 ∧ x = nI o) s5 (fun q => c12 q.symm), g (2, 9, 0) bz s6 (fun q => cb (Or.inl q.symm)), g (2, 10, 0) bz s7 (fun q => cb (Or.inr (Or.inl q.symm))), g (2, 11, 0) bz s8 (fun q => cb (Or.inr (Or.inr (Or.inl q.symm)))), g (4, 2, 0) (fun x => ∃ k, 1 ≤ k ∧ k ≤ 16 ∧ x = nI k) s9 (fun q => c42 q.symm), g (4, 3, 0) bz s10 (fun q => cb (Or.inr (Or.inr (Or.inr (Or.inl q.symm))))), fun t ht => ⟨g (7, 0, t) (fun x => x = 0 ∨ x = 1 ∨ x = 2) (s11 t ht).1 (fun q => by simp only [Prod.mk.injEq] at q; exact c70 q.1.symm q.2.1.symm), g (7, 1, t) (fun x => ∃ p, p ≤ 9999 ∧ x = nI p) (s11 t ht).2.1 (fun q => by simp only [Prod.mk.injEq] at q; exact c71 q.1.symm (Or.inl q.2.1.symm)), g (7, 2, t) (fun x => ∃ p, p ≤ 9999 ∧ x = nI p) (s11 t ht).2.2 (fun q => by simp only [Prod.mk.injEq] at q; exact c71 q.1.symm (Or.inr q.2.1.symm))⟩, fun w hw => ⟨g (8, 0, w) bz (s12 w hw).1 (fun q => by simp only [Prod.mk.injEq] at q; exact cb (Or.inr (Or.inr (Or.inr (Or.inr ⟨q.1.symm, q.2.1.symm⟩))))), fun z => ?_⟩, fun c hc => g (0, 4, c) (fun x => ∃ q, 0 < q ∧ q ≤ 9999 ∧ x = nI q) (s13 c hc) (fun q => by simp only [Prod.mk.injEq] at q; exact c04 q.1.symm q.2.1.symm), fun j hj => ?_, ?_, ?_, g (2, 14, 0) (fun x => ∃ p, p ≤ 999 ∧ x = nI p) s17 (fun q => c214 q.symm), ?_⟩
  · rw [no d1]; exact s4
  · by_cases q8 : a1 = 8 ∧ a3 = w ∧ (a2 = 0 ∨ a2 = 4)
    · obtain ⟨rfl, rfl, rfl | rfl⟩ := q8
      · rw [rdw, if_pos rfl, c80 rfl rfl] at z
        exact absurd z (by first | decide | simp)
      · rw [no (Or.inr (Or.inl (by first | decide | simp))), c84 rfl rfl] at z
        exact absurd z (by first | decide | simp)
    · have e : ∀ k, (k = 0 ∨ k = 4) → (8 ≠ a1 ∨ k ≠ a2 ∨ w ≠ a3) := fun k hk => by
        clear s1 s2 s3 s4 s5 s6 s7 s8 s9 s10 s11 s12 s13 s14 s15 s16 s17 s18 c51 c20 c52 c12 cb c42 c70 c71 c80 c84 c04 c214 z
        omega
      rw [no (e 0 (Or.inl rfl))] at z
      rw [no (e 4 (Or.inr rfl))]
      exact (s12 w hw).2 z
  · rw [no (d2 j)]; exact s14 j hj
  · rw [no (d3 2)]; exact s15
  · rw [no (d3 3)]; exact s16
  · rw [no (d5 3)]; exact s18
