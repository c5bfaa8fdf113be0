/-! ===== words, signs and numbers that must not come twice ===== -/
theorem kmap_inj : ∀ a, a < 26 → ∀ b, b < 25 → kmap a = kmap b → a = b := by decide +kernel
theorem TS.w {len p k w : Nat} {M N : Mem} (h : TS len p k w M N) : w < 26 ∧ M.1 (6, 0, 0) 7 = nI w ∧ (k ≠ 1 → w = 25) ∧ (k = 1 → N.1 (10, 0, 0) 15 = kmap w) := by
  obtain ⟨hs, ⟨s, ht⟩, h16⟩ := h
  exact ⟨ht.2.2.2.1, ht.2.2.2.2.2.2.2.2.2.2.1, ht.2.2.2.2.2.2.2.2.2.2.2.1, ht.2.2.2.2.2.2.2.2.2.2.2.2.1⟩
theorem wck_n {β : Type} {w : Nat} {k : Nat → Option β} (h : w < 26) : wck (nI w) k = k w := by
  unfold wck
  rw [nI_clamp (by omega), if_pos h]
theorem isK {len p k w a : Nat} {M N : Mem} (h : TS len p k w M N) (ha : a < 25) : f_X12_isKeyword (kmap a) N = some (if w = a then 1 else 0, N) := by
  obtain ⟨h1, h2, h3, h4⟩ := h.w
  obtain ⟨k1, k2, k3⟩ := h.k
  unfold f_X12_isKeyword f_X12_isKeyword_20
  rw [k2]
  by_cases q : k = 1
  · subst q
    rw [if_pos (by first | decide | simp), h4 rfl]
    by_cases z : w = a
    · rw [if_pos (by rw [z]), if_pos z]
    · rw [if_neg (fun y => z (kmap_inj w h1 a ha y)), if_neg z]
  · rw [if_neg (fun y : nI k = 1 => q (nIi (b := 1) y (by omega) (by first | decide | simp))), if_neg (fun y : w = a => by have := h3 q; omega)]
def StepO (len p : Nat) (c : Option (Int32 × Mem)) (M' N' : Mem) : Prop :=
  (c = some (1, M') ∧ ∃ p' k' w', TS len p' k' w' M' N' ∧ p ≤ p' ∧ (k' = 0 ∨ p < p')) ∨ (c = some (0, M') ∧ Fb M' N')
theorem acc_f {x : Int32} {N : Mem} (h : ¬ N.1 (10, 0, 0) 16 = 0) : f_X12_accepts x N = some (0, N) := by
  unfold f_X12_accepts f_X12_accepts_19 f_X12_accepts_20
  rw [ok0 h, bnd_some, if_pos rfl, if_pos rfl, if_neg (by first | decide | simp)]
theorem req_f {x : Int32} {N : Mem} (h : ¬ N.1 (10, 0, 0) 16 = 0) : f_X12_require x N = some ((), N) := by
  unfold f_X12_require
  rw [ok0 h, bnd_some, if_pos rfl]
theorem TW {len p k w a : Nat} {M N : Mem} (h : TS len p k w M N) (ha : a < 25) : ∃ M' N', f_X12_require (kmap a) N = some ((), N') ∧ SC M M' ∧ SM N N' ∧ StepO len p (f_X4_takeWord a M) M' N' := by
  obtain ⟨h1, h2, h3, h4⟩ := h.w
  by_cases z : w = a
  · obtain ⟨M', N', p', k', w', n1, n2, n3, n4, n5, n6, n7⟩ := nx_ts h
    refine ⟨M', N', ?_, n3.s, n4.s, Or.inl ⟨?_, p', k', w', n5, n6, n7⟩⟩
    · unfold f_X12_require f_X12_accepts f_X12_accepts_20
      rw [ok1 h.2.2, bnd_some, if_neg (by first | decide | simp), ok1 h.2.2, bnd_some, if_neg (by first | decide | simp), isK h ha, if_pos z, bnd_some, if_neg (by first | decide | simp), if_neg (by first | decide | simp), n2, bnd_some, if_neg (by first | decide | simp), bnd_some, if_neg (by first | decide | simp)]
    · unfold f_X4_takeWord
      rw [h2, wck_n h1, if_pos z, n1, bnd_some]
  · obtain ⟨M', N', f1, f2, f3, f4, f5⟩ := fail2 (x := 1) h (by first | decide | simp)
    refine ⟨M', N', ?_, f3, f4, Or.inr ⟨?_, f5⟩⟩
    · unfold f_X12_require f_X12_accepts f_X12_accepts_19 f_X12_accepts_20
      rw [ok1 h.2.2, bnd_some, if_neg (by first | decide | simp), ok1 h.2.2, bnd_some, if_neg (by first | decide | simp), isK h ha, if_neg z, bnd_some, if_pos rfl, if_pos rfl, if_neg (by first | decide | simp), bnd_some, if_pos rfl, f2, bnd_some]
    · unfold f_X4_takeWord
      rw [h2, wck_n h1, if_neg z, f1, bnd_some, if_neg (by first | decide | simp)]
theorem SW {len p k w a : Nat} {M N : Mem} (h : TS len p k w M N) (ha : a < 25) : ∃ M' N' b p' k' w', f_X12_accepts (kmap a) N = some (b, N') ∧ f_X4_skipWord a M = some (b, M') ∧ bz b ∧ SC M M' ∧ SM N N' ∧ TS len p' k' w' M' N' ∧ p ≤ p' ∧ (b = 1 → k' = 0 ∨ p < p') := by
  obtain ⟨h1, h2, h3, h4⟩ := h.w
  by_cases z : w = a
  · obtain ⟨M', N', p', k', w', n1, n2, n3, n4, n5, n6, n7⟩ := nx_ts h
    refine ⟨M', N', 1, p', k', w', ?_, ?_, Or.inr rfl, n3.s, n4.s, n5, n6, fun _ => n7⟩
    · unfold f_X12_accepts f_X12_accepts_20
      rw [ok1 h.2.2, bnd_some, if_neg (by first | decide | simp), isK h ha, if_pos z, bnd_some, if_neg (by first | decide | simp), if_neg (by first | decide | simp), n2, bnd_some, if_neg (by first | decide | simp)]
    · unfold f_X4_skipWord
      rw [h2, wck_n h1, if_pos z, n1, bnd_some]
  · refine ⟨M, N, 0, p, k, w, ?_, ?_, Or.inl rfl, SC.refl M, SM.refl N, h, Nat.le_refl p, fun q => absurd q (by first | decide | simp)⟩
    · unfold f_X12_accepts f_X12_accepts_19 f_X12_accepts_20
      rw [ok1 h.2.2, bnd_some, if_neg (by first | decide | simp), isK h ha, if_neg z, bnd_some, if_pos rfl, if_pos rfl, if_neg (by first | decide | simp)]
    · unfold f_X4_skipWord
      rw [h2, wck_n h1, if_neg z]
theorem isG {len p k w : Nat} {M N : Mem} (h : TS len p k w M N) {c : Int32} (hc : c = 45 ∨ c = 59) : (f_X4_skipSign c M = bnd (f_X7_next M) (fun r1 M2 => some (1, M2)) ∧ f_X12_isSign c N = some (1, N)) ∨ (f_X4_skipSign c M = some (0, M) ∧ f_X12_isSign c N = some (0, N)) := by
  obtain ⟨k1, k2, k3⟩ := h.k
  unfold f_X4_skipSign f_X12_isSign f_X12_isSign_20
  rw [k1, k2]
  by_cases q : k = 3
  · subst q
    obtain ⟨hs, ⟨s, ht⟩, h16⟩ := h
    have e := ht.2.2.2.2.2.2.2.2.2.2.2.2.2.2 rfl c hc
    rw [if_pos (show nI 3 = (3 : Int32) from rfl), if_pos (show nI 3 = (3 : Int32) from rfl)]
    by_cases z : N.1 (10, 0, 0) 14 = c
    · exact Or.inl ⟨by rw [if_pos (e.mpr z)], by rw [if_pos z]⟩
    · exact Or.inr ⟨by rw [if_neg (fun y => z (e.mp y))], by rw [if_neg z]⟩
  · have q2 : ¬ nI k = 3 := fun z => q (nIi (b := 3) z (by omega) (by first | decide | simp))
    exact Or.inr ⟨by rw [if_neg q2], by rw [if_neg q2]⟩
/-- a number that must not come twice -/
theorem ro_f {hi f : Int32} {N : Mem} (h : ¬ N.1 (10, 0, 0) 16 = 0) : f_X12_readOnce hi f N = some (0, N) := by
  unfold f_X12_readOnce
  rw [ok0 h, bnd_some, if_pos rfl]
theorem RO {len p k w hi wd : Nat} {x2 f : Int32} {M N : Mem} (h : TS len p k w M N) (hlo : ∀ v : Nat, v ≤ 99999 → (wLeast.getD wd 0 ≤ nI v ↔ 0 ≤ v)) (hhi : wMost.getD wd 0 = nI hi) (hb : hi < 2 ^ 31)
    (hm : ∀ v : Nat, k = 2 → N.1 (10, 0, 0) 13 = nI v → v ≤ hi → (((x2 >>> (nI v &&& 31)) &&& 1) = 0 ↔ f = 0)) : ∃ M' r N', f_X12_readOnce (nI hi) f N = some (r, N') ∧ SC M M' ∧ SM N N' ∧ NumO len p 0 hi (f_X4_takeNumber wd x2 M) M' r N' := by
  obtain ⟨k1, k2, k3⟩ := h.k
  by_cases q : k = 2 ∧ (∃ v, v ≤ hi ∧ M.1 (6, 0, 0) 6 = nI v ∧ N.1 (10, 0, 0) 13 = nI v ∧ v ≤ 99999) ∧ ¬ f = 0
  · obtain ⟨rfl, ⟨v, hv, v1, v2, v3⟩, hf⟩ := q
    obtain ⟨M', N', f1, f2, f3, f4, f5⟩ := fail2 (x := 3) h (by first | decide | simp)
    refine ⟨M', 0, N', ?_, f3, f4, Or.inr ⟨?_, f5⟩⟩
    · unfold f_X12_readOnce
      rw [ok1 h.2.2, bnd_some, if_neg (by first | decide | simp), k2, if_pos (by first | decide | simp), v2, if_neg (Int32.not_lt.mpr (nI_le hv hb)), if_neg hf, f2, bnd_some, rn_f f5.2.2, bnd_some]
    · unfold f_X4_takeNumber
      dsimp only [nm]
      rw [k1, if_pos (by first | decide | simp), v1, al_iff v3 hlo hhi hb, if_pos ⟨Nat.zero_le v, hv⟩, bnd_some, if_neg (by first | decide | simp), v1, if_neg (fun z => hf ((hm v rfl v2 hv).mp z)), f1, bnd_some, if_neg (by first | decide | simp)]
  · obtain ⟨M', r, N', t1, t2, t3, t4⟩ := TN (x2 := x2) h hlo hhi hb (by first | decide | simp) (fun v kk v1 _ hv => by
      subst kk
      obtain ⟨v', hv', w1, w2⟩ := h.num
      have e : v = v' := nIi (v1.symm.trans w1) (by omega) (by omega)
      subst e
      refine (hm v rfl w2 hv).mpr (Classical.byContradiction (fun y => q ⟨rfl, ⟨v, hv, w1, w2, hv'⟩, y⟩)))
    refine ⟨M', r, N', ?_, t2, t3, t4⟩
    rw [show nI 0 = (0 : Int32) from rfl] at t1
    unfold f_X12_readOnce
    rw [ok1 h.2.2, bnd_some, if_neg (by first | decide | simp), k2]
    by_cases kk : k = 2
    · subst kk
      obtain ⟨v', hv', w1, w2⟩ := h.num
      rw [if_pos (by first | decide | simp), w2]
      by_cases y : v' ≤ hi
      · rw [if_neg (Int32.not_lt.mpr (nI_le y hb)), if_pos (Classical.byContradiction (fun z => q ⟨rfl, ⟨v', y, w1, w2, hv'⟩, z⟩)), t1, bnd_some]
      · rw [if_pos (Int32.not_le.mp (nI_ge (by omega) (by omega))), t1, bnd_some]
    · rw [if_neg (fun z : nI k = 2 => kk (nIi (b := 2) z (by omega) (by first | decide | simp))), t1, bnd_some]
