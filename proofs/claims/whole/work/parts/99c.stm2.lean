theorem chk {r : Int32} {M : Mem} {c : Option (Int32 × Mem)} : ∀ (h : c = some (r, M)), bz r → bnd c (fun r2 M3 => if ¬ (r2 = 0 ∨ r2 = 1) then none else some (r2, M3)) = some (r, M) := fun h hb => by rw [h, bnd_some, if_neg (nbz hb)]
theorem StmO.chk {len p : Nat} {c : Option (Int32 × Mem)} {M' N' : Mem} (h : StmO len p c M' N') : StmO len p (bnd c (fun r2 M3 => if ¬ (r2 = 0 ∨ r2 = 1) then none else some (r2, M3))) M' N' := by
  rcases h with ⟨M1, a, b⟩ | ⟨a | ⟨M1, a, b⟩, fb⟩
  · exact Or.inl ⟨M1, by rw [a, bnd_some, if_neg (by first | decide | simp)], b⟩
  · exact Or.inr ⟨Or.inl (by rw [a, bnd_some, if_neg (by first | decide | simp)]), fb⟩
  · exact Or.inr ⟨Or.inr ⟨M1, by rw [a, bnd_some, if_neg (by first | decide | simp)], b⟩, fb⟩

theorem pb0 {N N' : Mem} (e : f_X12_parseChannel N = some ((), N')) : f_X12_parseBehind (kmap 0) N = some ((), N') := by
  unfold f_X12_parseBehind
  rw [if_pos (by first | decide | simp), e, bnd_some]
theorem pb7 {N N' : Mem} (e : f_X12_parseWindow N = some ((), N')) : f_X12_parseBehind (kmap 7) N = some ((), N') := by
  unfold f_X12_parseBehind
  rw [show kmap 7 = (14 : Int32) by decide]
  simp only [show ¬ ((14 : Int32) = 0) by decide, show ¬ ((14 : Int32) = 6) by decide, show ¬ ((14 : Int32) = 7) by decide, show ¬ ((14 : Int32) = 8) by decide, show ¬ ((14 : Int32) = 9) by decide, show ¬ ((14 : Int32) = 10) by decide, show ¬ ((14 : Int32) = 11) by decide, if_false, if_true, e, bnd_some]
theorem ST0 {len p : Nat} {M N : Mem} {L V : LM} (h : PT len p 1 0 M N L V) : ∃ M' N', f_X12_parseStatement N = some ((), N') ∧ FC M M' ∧ FM N N' ∧ StmO len p (f_X4_readStatement M) M' N' := by
  obtain ⟨q1, q2, q3, q4⟩ := h.1.w
  obtain ⟨M', N', a1, a2, a3, a4⟩ := ST_many (C := cC) h (by first | decide | simp) rfl readChannel_eq (fun p' k' w' M' N' hP => by
    obtain ⟨M2, N2, b1, b2, b3, b4⟩ := B_channel hP
    exact ⟨M2, N2, pb0 b1, b2, b3, b4⟩)
  refine ⟨M', N', a1, a2, a3, ?_⟩
  unfold f_X4_readStatement
  rw [q2, wck_n q1, if_pos (by first | decide | simp)]
  exact a4.chk
