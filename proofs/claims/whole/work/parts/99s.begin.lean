/-! ===== the first memory, and what holds in it ===== -/
def ini1 : Oid → Nat → Int32 := fun o f => match o.1 with
  | 0 => (match f with | 0 => 3 | 4 => 1 | 6 => -1 | 7 => -1 | _ => 0)
  | 3 => (match f with | 9 => -1 | _ => 0)
  | 4 => (match f with
    | 1 => (match o.2.2 with | 0 => 15 | 1 => 63 | _ => 3)
    | 2 => (match o.2.2 with | 0 => 4 | 1 => 64 | _ => 4)
    | 3 => (match o.2.2 with | 1 => 1 | _ => 0)
    | _ => 0)
  | 5 => (match f with | 6 => -1 | 7 => -1 | _ => 0)
  | 6 => (match f with | 7 => 25 | _ => 0)
  | 8 => (match f with | 7 => -1 | 8 => -1 | 9 => -1 | _ => 0)
  | 10 => (match f with | 15 => -1 | 17 => -1 | _ => 0)
  | _ => 0
def ini2 : Oid → Nat → Int64 := fun o i => match o.1 with
  | 35 => kwN.getD i 0
  | _ => 0
def iniM : Mem := (ini1, ini2, fun _ _ => 0)
theorem ini_cv {k f j c : Nat} (h : vld (k, f, j)) : ini1 (k, c, j) f = iniL (k, f, j) := by
  rcases h with ⟨e, h1, h2⟩ | ⟨e, h1, h2⟩ | ⟨e, h1, h2, h3⟩ | ⟨e, h1, h2, h3⟩ | ⟨e, h1, h2, h3⟩ | ⟨e, h1, h2⟩ | ⟨e, h1, h2⟩ | ⟨e, h1, h2⟩ | ⟨e, h1, h2⟩ <;> (dsimp only at e h1 h2; subst e)
  · rcases (show f = 0 ∨ f = 1 ∨ f = 2 ∨ f = 3 ∨ f = 4 ∨ f = 5 ∨ f = 6 ∨ f = 7 by omega) with rfl | rfl | rfl | rfl | rfl | rfl | rfl | rfl <;> rfl
  · rfl
  · rfl
  · dsimp only at h3
    rcases (show j = 0 ∨ j = 1 ∨ j = 2 by omega) with rfl | rfl | rfl <;> rcases (show f = 2 ∨ f = 3 ∨ f = 4 ∨ f = 5 ∨ f = 6 by omega) with rfl | rfl | rfl | rfl | rfl <;> rfl
  · dsimp only at h3
    rcases (show f = 1 ∨ f = 2 ∨ f = 3 ∨ f = 4 ∨ f = 5 ∨ f = 6 ∨ f = 7 ∨ f = 8 ∨ f = 9 ∨ f = 10 ∨ f = 11 by omega) with rfl | rfl | rfl | rfl | rfl | rfl | rfl | rfl | rfl | rfl | rfl <;> rfl
  · rfl
  · rcases (show f = 0 ∨ f = 1 ∨ f = 2 ∨ f = 3 ∨ f = 4 ∨ f = 5 ∨ f = 6 ∨ f = 7 ∨ f = 8 ∨ f = 9 by omega) with rfl | rfl | rfl | rfl | rfl | rfl | rfl | rfl | rfl | rfl <;> rfl
  · rfl
  · rfl
theorem ini_mk {c j : Nat} (hj : j < 3) : ini1 (4, c, j) 1 = nI (rk j - 1) := by
  rcases (show j = 0 ∨ j = 1 ∨ j = 2 by omega) with rfl | rfl | rfl <;> rfl
theorem begin_M : ∃ M1 M2, f_X12_firstSettings 0 iniM = some ((), M1) ∧ f_X12_first 0 M1 = some ((), M2) ∧ Inv 0 M2 ∧ M2.2.1 (40, 0, 0) = (fun _ => 0) ∧ M2.2.2 (41, 0, 0) = (fun _ => 0) := by
  obtain ⟨V0, v0⟩ := hasM.vw 0 0 iniM
  obtain ⟨V1, d1, d2, d3, d4⟩ := fs_m (σ := 0) v0 (by first | decide | simp)
  have hM1 : hasM 0 0 (putM 0 0 iniM V1) V1 := hasM.new
  obtain ⟨V2, e1, e2, e3, e4⟩ := first_m hM1 (by first | decide | simp)
  rw [show nI 0 = (0 : Int32) from rfl] at d1 e1
  have r : ∀ o k, o.1 ≠ 31 → o.1 ≠ 32 → ¬ (o = (10, 0, 0) ∧ k = 7) → (putM 0 0 (uI (putM 0 0 iniM V1) (10, 0, 0) 7 0) V2).1 o k = ini1 o k := fun o k q1 q2 q3 => by
    rw [putM_no q1 q2, uI_q q3, putM_no q1 q2]
    rfl
  have rL : ∀ o k, o.1 ≠ 33 → (putM 0 0 (uI (putM 0 0 iniM V1) (10, 0, 0) 7 0) V2).2.1 o k = ini2 o k := fun o k q1 => by
    rw [putM_noL q1]
    show (putM 0 0 iniM V1).2.1 o k = _
    rw [putM_noL q1]
    rfl
  have h7 : (putM 0 0 (uI (putM 0 0 iniM V1) (10, 0, 0) 7 0) V2).1 (10, 0, 0) 7 = 0 := by
    rw [putM_no (by simp) (by simp)]
    exact uI_at
  have rD : (putM 0 0 (uI (putM 0 0 iniM V1) (10, 0, 0) 7 0) V2).2.2 = fun _ _ => 0 := rfl
  have hM2 : hasM 0 0 (putM 0 0 (uI (putM 0 0 iniM V1) (10, 0, 0) 7 0) V2) V2 := hasM.new
  refine ⟨_, _, d1, e1, ?_, ?_, ?_⟩
  · revert r rL h7 hM2
    generalize putM 0 0 (uI (putM 0 0 iniM V1) (10, 0, 0) 7 0) V2 = M
    intro r rL h7 hM2
    have cvn : ∀ {a q : Nat}, cvK a = true → cvK q = false → a ≠ q := fun h1 h2 e => by rw [e, h2] at h1; cases h1
    have rc : ∀ a c j k, cvK a = true → M.1 (a, c, j) k = ini1 (a, c, j) k := fun a c j k ha => r _ _ (cvn ha rfl) (cvn ha rfl) (fun z => cvn ha (q := 10) rfl (congrArg Prod.fst z.1))
    have rcL : ∀ a c j k, cvK a = true → M.2.1 (a, c, j) k = 0 := fun a c j k ha => by
      rw [rL _ _ (cvn ha rfl)]
      unfold ini2
      dsimp only
      split
      · cases ha
      · rfl
    have hx : ∀ x : Cl, cvK x.1 = true → ¬ (x.1 = 30 ∨ x.1 = 31) := by
      rintro x hx (q | q) <;> (rw [q] at hx; cases hx)
    have hC : hasC 1 M (fun x => if x.1 = 30 ∨ x.1 = 31 then 0 else M.1 (x.1, 1, x.2.2) x.2.1, fun x => M.2.1 (x.1, 1, x.2.2) x.2.1) := hasC.view (fun x hx' => if_neg (hx x hx')) (fun x _ => rfl)
    have hL : ∀ x, vldX x → (if x.1 = 30 ∨ x.1 = 31 then (0 : Int32) else M.1 (x.1, 1, x.2.2) x.2.1) = iniL x := fun x hx' => by
      obtain ⟨x1, x2, x3⟩ := x
      rcases hx' with q | q | q
      · dsimp only
        rw [if_neg (hx (x1, x2, x3) (vld_cv q)), rc _ _ _ _ (vld_cv q)]
        exact ini_cv q
      · have q' : x1 = 30 := q
        subst q'
        exact if_pos (Or.inl rfl)
      · have q' : x1 = 31 := q
        subst q'
        exact if_pos (Or.inr rfl)
    have hmk : ∀ c j, j < 3 → M.1 (4, c, j) 1 = nI (rk j - 1) := fun c j hj => by rw [rc _ _ _ _ rfl]; exact ini_mk hj
    obtain ⟨V, g1, g2⟩ := ini_Q (L := (fun x => if x.1 = 30 ∨ x.1 = 31 then 0 else M.1 (x.1, 1, x.2.2) x.2.1, fun x => M.2.1 (x.1, 1, x.2.2) x.2.1)) hL (fun x hx' => rcL _ _ _ _ (vldL_cv hx')) (fun j hj => hmk 1 j hj) hM2 e2 (fun j hj => by rw [e3 j hj, d2 j hj, ini_S j hj]) e4
    have n10 : ∀ {o : Oid} {f : Nat}, o.1 ≠ 10 → ¬ (o = (10, 0, 0) ∧ f = 7) := fun h z => h (by rw [z.1])
    have i23 : ∀ k, M.1 (23, 0, 0) k = 0 := fun k => r _ _ (by simp) (by simp) (by simp)
    have i34 : ∀ k, M.1 (34, 0, 0) k = 0 := fun k => r _ _ (by simp) (by simp) (by simp)
    refine ⟨0, _, V, Nat.le_refl 0, hC, g1, g2.r, h7, ⟨by rw [i23, i34], Or.inl (i23 0), fun q => absurd (i23 0) q⟩, ⟨by rw [i23, i34], Or.inl (i23 1), fun q => absurd (i23 1) q⟩, fun c _ j hj => hmk c j hj, ⟨0, by decide, r _ _ (by simp) (by simp) (by simp), r _ _ (by simp) (by simp) (by simp)⟩, fun i _ => ⟨0, by decide, r _ _ (by simp) (by simp) (by simp), (r _ _ (by simp) (by simp) (by simp)).trans (show (0 : Int32) = Int8.toInt32 (Int32.toInt8 (nI 0)) by decide)⟩, ?_, ?_, fun x hx' => ?_, fun x hx' => rcL _ _ _ _ (vldL_cv hx'), fun i hi => ?_⟩
    · rw [r _ _ (by simp) (by simp) (by simp), r _ _ (by simp) (by simp) (by simp)]
      rfl
    · rw [r _ _ (by simp) (by simp) (by simp), r _ _ (by simp) (by simp) (by simp)]
      rfl
    · obtain ⟨x1, x2, x3⟩ := x
      rw [rc _ _ _ _ (vld_cv hx')]
      exact ini_cv hx'
    · rw [rL _ _ (by simp)]
      rfl
  · funext k
    rw [rL _ _ (by simp)]
    rfl
  · rw [rD]
