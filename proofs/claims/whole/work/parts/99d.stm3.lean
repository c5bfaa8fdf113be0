theorem BodyO.w {len p : Nat} {c : Option (Int32 × Mem)} {M' N' : Mem} (h : BodyO len p c M' N') : BodyO len p (bnd c (fun r14 M15 => if r14 = 0 then some (0, M15) else some (1, M15))) M' N' := by
  rcases h with ⟨a, b⟩ | ⟨a, b⟩ | ⟨a, b⟩
  · exact Or.inl ⟨by rw [a, bnd_some, if_neg (by first | decide | simp)], b⟩
  · exact Or.inr (Or.inl ⟨by rw [a, bnd_some, if_pos rfl], b⟩)
  · exact Or.inr (Or.inr ⟨by rw [a, bnd_some, if_neg (by first | decide | simp)], b⟩)
theorem pb8 {N N' : Mem} (e : f_X12_parseTrigger N = some ((), N')) : f_X12_parseBehind (kmap 8) N = some ((), N') := by
  unfold f_X12_parseBehind
  rw [show kmap 8 = (19 : Int32) by decide]
  simp only [show ¬ ((19 : Int32) = 0) by decide, show ¬ ((19 : Int32) = 6) by decide, show ¬ ((19 : Int32) = 7) by decide, show ¬ ((19 : Int32) = 8) by decide, show ¬ ((19 : Int32) = 9) by decide, show ¬ ((19 : Int32) = 10) by decide, show ¬ ((19 : Int32) = 11) by decide, show ¬ ((19 : Int32) = 14) by decide, if_false, if_true, e, bnd_some]
theorem pb1 {N N' : Mem} (e : f_X12_parseEntries 0 8 N = some ((), N')) : f_X12_parseBehind (kmap 1) N = some ((), N') := by
  unfold f_X12_parseBehind
  rw [show kmap 1 = (6 : Int32) by decide]
  simp only [show ¬ ((6 : Int32) = 0) by decide, if_false, if_true, e, bnd_some]
theorem pb2 {N N' : Mem} (e : f_X12_parseEntries 1 4 N = some ((), N')) : f_X12_parseBehind (kmap 2) N = some ((), N') := by
  unfold f_X12_parseBehind
  rw [show kmap 2 = (7 : Int32) by decide]
  simp only [show ¬ ((7 : Int32) = 0) by decide, show ¬ ((7 : Int32) = 6) by decide, if_false, if_true, e, bnd_some]
theorem pb6 {N N' : Mem} (e : f_X12_parseOver N = some ((), N')) : f_X12_parseBehind (kmap 6) N = some ((), N') := by
  unfold f_X12_parseBehind
  rw [show kmap 6 = (11 : Int32) by decide]
  simp only [show ¬ ((11 : Int32) = 0) by decide, show ¬ ((11 : Int32) = 6) by decide, show ¬ ((11 : Int32) = 7) by decide, show ¬ ((11 : Int32) = 8) by decide, show ¬ ((11 : Int32) = 9) by decide, show ¬ ((11 : Int32) = 10) by decide, if_false, if_true, e, bnd_some]
theorem ST7 {len p : Nat} {M N : Mem} {L V : LM} (h : PT len p 1 7 M N L V) : ∃ M' N', f_X12_parseStatement N = some ((), N') ∧ FC M M' ∧ FM N N' ∧ StmO len p (f_X4_readStatement M) M' N' := by
  obtain ⟨q1, q2, q3, q4⟩ := h.1.w
  obtain ⟨M', N', a1, a2, a3, a4⟩ := ST_many (C := wnC) h (by first | decide | simp) rfl readWindow_eq (fun p' k' w' M' N' hP => by
    obtain ⟨M2, N2, b1, b2, b3, b4⟩ := B_window hP
    exact ⟨M2, N2, pb7 b1, b2, b3, b4⟩)
  refine ⟨M', N', a1, a2, a3, ?_⟩
  unfold f_X4_readStatement
  rw [q2, wck_n q1, if_neg (by first | decide | simp), if_pos (by first | decide | simp)]
  exact a4.chk
theorem ST8 {len p : Nat} {M N : Mem} {L V : LM} (h : PT len p 1 8 M N L V) : ∃ M' N', f_X12_parseStatement N = some ((), N') ∧ FC M M' ∧ FM N N' ∧ StmO len p (f_X4_readStatement M) M' N' := by
  obtain ⟨q1, q2, q3, q4⟩ := h.1.w
  obtain ⟨M', N', a1, a2, a3, a4⟩ := ST_many (C := tC) h (by first | decide | simp) rfl readTrigger_eq (fun p' k' w' M' N' hP => by
    obtain ⟨M2, N2, b1, b2, b3, b4⟩ := B_trigger hP
    exact ⟨M2, N2, pb8 b1, b2, b3, b4⟩)
  refine ⟨M', N', a1, a2, a3, ?_⟩
  unfold f_X4_readStatement
  rw [q2, wck_n q1, if_neg (by first | decide | simp), if_neg (by first | decide | simp), if_pos (by first | decide | simp)]
  exact a4.chk
theorem ST1 {len p : Nat} {M N : Mem} {L V : LM} (h : PT len p 1 1 M N L V) : ∃ M' N', f_X12_parseStatement N = some ((), N') ∧ FC M M' ∧ FM N N' ∧ StmO len p (f_X4_readStatement M) M' N' := by
  obtain ⟨q1, q2, q3, q4⟩ := h.1.w
  have ec : f_X4_readStatement M = bnd (f_X4_takeFirstWord M) (fun r11 M12 => if r11 = 0 then some (0, M12) else bnd (f_X4_readEntries 2 0 M12) (fun r14 M15 => if r14 = 0 then some (0, M15) else some (1, M15))) := by
    unfold f_X4_readStatement
    rw [q2, wck_n q1, if_neg (by first | decide | simp), if_neg (by first | decide | simp), if_neg (by first | decide | simp), if_pos (by first | decide | simp)]
    rfl
  rw [ec]
  exact ST_once (C := fun M12 => bnd (f_X4_readEntries 2 0 M12) (fun r14 M15 => if r14 = 0 then some (0, M15) else some (1, M15))) h (by first | decide | simp) rfl (fun M' e => by rw [e, bnd_some, if_neg (by first | decide | simp)]) (fun M' e => by rw [e, bnd_some, if_pos rfl]) (fun p' k' w' M' N' hP => by
    obtain ⟨M2, N2, b1, b2, b3, b4⟩ := B_entries (s := 0) (by first | decide | simp) hP
    exact ⟨M2, N2, pb1 b1, b2, b3, b4.w⟩)
theorem ST2 {len p : Nat} {M N : Mem} {L V : LM} (h : PT len p 1 2 M N L V) : ∃ M' N', f_X12_parseStatement N = some ((), N') ∧ FC M M' ∧ FM N N' ∧ StmO len p (f_X4_readStatement M) M' N' := by
  obtain ⟨q1, q2, q3, q4⟩ := h.1.w
  have ec : f_X4_readStatement M = bnd (f_X4_takeFirstWord M) (fun r11 M12 => if r11 = 0 then some (0, M12) else bnd (f_X4_readEntries 2 1 M12) (fun r14 M15 => if r14 = 0 then some (0, M15) else some (1, M15))) := by
    unfold f_X4_readStatement
    rw [q2, wck_n q1, if_neg (by first | decide | simp), if_neg (by first | decide | simp), if_neg (by first | decide | simp), if_neg (by first | decide | simp), if_pos (by first | decide | simp)]
    rfl
  rw [ec]
  exact ST_once (C := fun M12 => bnd (f_X4_readEntries 2 1 M12) (fun r14 M15 => if r14 = 0 then some (0, M15) else some (1, M15))) h (by first | decide | simp) rfl (fun M' e => by rw [e, bnd_some, if_neg (by first | decide | simp)]) (fun M' e => by rw [e, bnd_some, if_pos rfl]) (fun p' k' w' M' N' hP => by
    obtain ⟨M2, N2, b1, b2, b3, b4⟩ := B_entries (s := 1) (by first | decide | simp) hP
    exact ⟨M2, N2, pb2 b1, b2, b3, b4.w⟩)
theorem ST6 {len p : Nat} {M N : Mem} {L V : LM} (h : PT len p 1 6 M N L V) : ∃ M' N', f_X12_parseStatement N = some ((), N') ∧ FC M M' ∧ FM N N' ∧ StmO len p (f_X4_readStatement M) M' N' := by
  obtain ⟨q1, q2, q3, q4⟩ := h.1.w
  have ec : f_X4_readStatement M = bnd (f_X4_takeFirstWord M) (fun r11 M12 => if r11 = 0 then some (0, M12) else bnd (f_X4_readOver M12) (fun r14 M15 => if r14 = 0 then some (0, M15) else some (1, M15))) := by
    unfold f_X4_readStatement
    rw [q2, wck_n q1, if_neg (by first | decide | simp), if_neg (by first | decide | simp), if_neg (by first | decide | simp), if_neg (by first | decide | simp), if_neg (by first | decide | simp), if_neg (by first | decide | simp), if_neg (by first | decide | simp), if_neg (by first | decide | simp), if_pos (by first | decide | simp)]
    rfl
  rw [ec]
  exact ST_once (C := fun M12 => bnd (f_X4_readOver M12) (fun r14 M15 => if r14 = 0 then some (0, M15) else some (1, M15))) h (by first | decide | simp) rfl (fun M' e => by rw [e, bnd_some, if_neg (by first | decide | simp)]) (fun M' e => by rw [e, bnd_some, if_pos rfl]) (fun p' k' w' M' N' hP => by
    obtain ⟨M2, N2, b1, b2, b3, b4⟩ := B_over hP
    exact ⟨M2, N2, pb6 b1, b2, b3, b4.w⟩)
