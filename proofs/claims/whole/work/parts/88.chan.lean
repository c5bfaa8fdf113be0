/-! ===== channel ===== -/
def cn (s : Nat → Bool) : Nat := (s 11).toNat + (s 12).toNat + (s 13).toNat + (s 14).toNat + (s 15).toNat
def ups (s : Nat → Bool) (v : Nat) : Nat → Bool := fun j => if j = v then true else s j
theorem cn_le {s : Nat → Bool} : cn s ≤ 5 := by
  unfold cn
  have := Bool.toNat_le (s 11)
  have := Bool.toNat_le (s 12)
  have := Bool.toNat_le (s 13)
  have := Bool.toNat_le (s 14)
  have := Bool.toNat_le (s 15)
  omega
theorem cn_up {s : Nat → Bool} {v : Nat} (h1 : 11 ≤ v) (h2 : v ≤ 15) (h : s v = false) : cn (ups s v) = cn s + 1 := by
  rcases (show v = 11 ∨ v = 12 ∨ v = 13 ∨ v = 14 ∨ v = 15 by omega) with rfl | rfl | rfl | rfl | rfl <;> (simp [cn, ups, h]; try omega)
theorem slo {wd : Nat} (h : wLeast.getD wd 0 = -99) : ∀ v : Nat, v ≤ 99999 → (wLeast.getD wd 0 ≤ nI v ↔ 0 ≤ v) := fun v hv => ⟨fun _ => Nat.zero_le v, fun _ => by rw [h]; exact Int32.le_trans (by first | decide | simp) (nI_pos' (n := v) (by omega))⟩
/-- a signed number goes into a cell on both sides -/
theorem B_sg {len p k w wd : Nat} {a : Cl} {M N : Mem} {L V : LM} {W : Mem → Int32 → Mem} (h : PT len p k w M N L V) (hlo : wLeast.getD wd 0 = -99) (hhi : wMost.getD wd 0 = nI 99) (ha : stb a = true) (h8 : ¬ (a.1 = 8 ∧ a.2.1 = 0)) (h4 : ¬ (a.1 = 4 ∧ a.2.1 = 1)) (hcv : cvK a.1 = true)
    (hS : ∀ x, St (wI L a x)) (hW : ∀ N x, LN N (W N x) ∧ (hasM 4 52 N V → hasM 4 52 (W N x) (wI V a x))) :
    ∃ M0 b M' r N', f_X4_skipSign 45 M = some (b, M0) ∧ bz b ∧ f_X12_readSigned 99 N = some (r, N') ∧ ((f_X4_takeNumber wd 0 M0 = some (1, M') ∧ ∃ v p' k' w', M'.1 (3, 0, 0) 3 = nI v ∧ r = (if b = 0 then nI v else - nI v) ∧ PT len p' k' w' (uI M' (a.1, 2, a.2.2) a.2.1 r) (W N' r) (wI L a r) (wI V a r) ∧ p ≤ p' ∧ FC M (uI M' (a.1, 2, a.2.2) a.2.1 r) ∧ FM N (W N' r)) ∨ (f_X4_takeNumber wd 0 M0 = some (0, M') ∧ Fb M' (W N' r) ∧ FC M M' ∧ FM N (W N' r))) := by
  obtain ⟨hT, hC, hM, hQ, hK⟩ := h
  have core : ∀ (M0 N0 : Mem) (b : Int32) (p0 k0 w0 : Nat), bz b → SC M M0 → SM N N0 → TS len p0 k0 w0 M0 N0 → p ≤ p0 → f_X4_skipSign 45 M = some (b, M0) → f_X12_readSigned 99 N = f_X12_readSigned_30 99 b N0 →
      ∃ M0 b M' r N', f_X4_skipSign 45 M = some (b, M0) ∧ bz b ∧ f_X12_readSigned 99 N = some (r, N') ∧ ((f_X4_takeNumber wd 0 M0 = some (1, M') ∧ ∃ v p' k' w', M'.1 (3, 0, 0) 3 = nI v ∧ r = (if b = 0 then nI v else - nI v) ∧ PT len p' k' w' (uI M' (a.1, 2, a.2.2) a.2.1 r) (W N' r) (wI L a r) (wI V a r) ∧ p ≤ p' ∧ FC M (uI M' (a.1, 2, a.2.2) a.2.1 r) ∧ FM N (W N' r)) ∨ (f_X4_takeNumber wd 0 M0 = some (0, M') ∧ Fb M' (W N' r) ∧ FC M M' ∧ FM N (W N' r))) := by
    intro M0 N0 b p0 k0 w0 hb s1 s2 t0 pp ec em
    obtain ⟨M', r, N', t1, t2, t3, t4⟩ := TN (x2 := 0) t0 (slo hlo) hhi (by first | decide | simp) (by first | decide | simp) m0
    rw [show nI 0 = (0 : Int32) from rfl, show nI 99 = (99 : Int32) from rfl] at t1
    have em2 : f_X12_readSigned 99 N = some (if b = 0 then r else - r, N') := by
      rw [em]
      unfold f_X12_readSigned_30
      rw [t1, bnd_some]
      rcases hb with rfl | rfl
      · rw [if_pos rfl, if_pos rfl]
      · rw [if_neg (by first | decide | simp), if_neg (by first | decide | simp)]
    refine ⟨M0, b, M', if b = 0 then r else - r, N', ec, hb, em2, ?_⟩
    rcases t4 with ⟨c, v, p', k', w', v1, v2, rfl, v3, v4, v5, v6⟩ | ⟨c, fb⟩
    · have c1 : LC M' (uI M' (a.1, 2, a.2.2) a.2.1 (if b = 0 then nI v else - nI v)) := LC.u hcv h4
      obtain ⟨n1, n2⟩ := hW N' (if b = 0 then nI v else - nI v)
      exact Or.inl ⟨c, v, p', k', w', v3, rfl, ⟨v4.l c1 n1, ((hC.s s1).s t2).u hcv, n2 ((hM.s s2).s t3), hQ.w ha (hS _), ((hK.s s1 s2).s t2 t3).l c1 n1 (fun i => by rw [rdw, if_neg (fun q => h8 (by rw [← q]; exact ⟨rfl, rfl⟩))])⟩, by omega, (s1.2.trans t2.2).trans c1.2.2, (s2.2.trans t3.2).trans n1.2.2⟩
    · obtain ⟨n1, _⟩ := hW N' (if b = 0 then r else - r)
      exact Or.inr ⟨c, fb.n n1.n, s1.2.trans t2.2, (s2.2.trans t3.2).trans n1.2.2⟩
  rcases isG hT (c := 45) (Or.inl rfl) with ⟨g1, g2⟩ | ⟨g1, g2⟩
  · obtain ⟨M0, N0, p0, k0, w0, n1, n2, n3, n4, n5, n6, n7⟩ := nx_ts hT
    refine core M0 N0 1 p0 k0 w0 (Or.inr rfl) n3.s n4.s n5 n6 (by rw [g1, n1, bnd_some]) ?_
    unfold f_X12_readSigned f_X12_readSigned_21
    rw [ok1 hT.2.2, bnd_some, if_neg (by first | decide | simp), g2, bnd_some, if_neg (by first | decide | simp), if_neg (by first | decide | simp), n2, bnd_some]
  · refine core M N 0 p k w (Or.inl rfl) (SC.refl M) (SM.refl N) hT (Nat.le_refl p) g1 ?_
    unfold f_X12_readSigned f_X12_readSigned_20 f_X12_readSigned_21
    rw [ok1 hT.2.2, bnd_some, if_neg (by first | decide | simp), g2, bnd_some, if_pos rfl, if_pos rfl]
theorem rs_f {N : Mem} (h : ¬ N.1 (10, 0, 0) 16 = 0) : ∃ r, f_X12_readSigned 99 N = some (r, N) := by
  refine ⟨0, ?_⟩
  unfold f_X12_readSigned f_X12_readSigned_20 f_X12_readSigned_21 f_X12_readSigned_30
  rw [ok0 h, bnd_some, if_pos rfl, if_pos rfl, rn_f h, bnd_some, if_pos rfl]
