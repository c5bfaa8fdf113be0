theorem ST3 {len p : Nat} {M N : Mem} {L V : LM} (h : PT len p 1 3 M N L V) : ∃ M' N', f_X12_parseStatement N = some ((), N') ∧ FC M M' ∧ FM N N' ∧ StmO len p (f_X4_readStatement M) M' N' := by
  obtain ⟨q1, q2, q3, q4⟩ := h.1.w
  have ec : f_X4_readStatement M = bnd (f_X4_takeFirstWord M) (fun r11 M12 => if r11 = 0 then some (0, M12) else bnd (f_X4_readGroup M12) (fun r14 M15 => if r14 = 0 then some (0, M15) else some (1, M15))) := by
    unfold f_X4_readStatement
    rw [q2, wck_n q1, if_neg (by first | decide | simp), if_neg (by first | decide | simp), if_neg (by first | decide | simp), if_neg (by first | decide | simp), if_neg (by first | decide | simp), if_pos (by first | decide | simp)]
    rfl
  rw [ec]
  exact ST_once (C := fun M12 => bnd (f_X4_readGroup M12) (fun r14 M15 => if r14 = 0 then some (0, M15) else some (1, M15))) h (by first | decide | simp) rfl (fun M' e => by rw [e, bnd_some, if_neg (by first | decide | simp)]) (fun M' e => by rw [e, bnd_some, if_pos rfl]) (fun p' k' w' M' N' hP => by
    obtain ⟨M2, N2, b1, b2, b3, b4⟩ := B_group hP
    refine ⟨M2, N2, ?_, b2, b3, b4.w⟩
    unfold f_X12_parseBehind
    rw [show kmap 3 = (8 : Int32) by decide]
    simp only [show ¬ ((8 : Int32) = 0) by decide, show ¬ ((8 : Int32) = 6) by decide, show ¬ ((8 : Int32) = 7) by decide, if_false, if_true]
    exact b1)
theorem ST9 {len p : Nat} {M N : Mem} {L V : LM} (h : PT len p 1 9 M N L V) : ∃ M' N', f_X12_parseStatement N = some ((), N') ∧ FC M M' ∧ FM N N' ∧ StmO len p (f_X4_readStatement M) M' N' := by
  obtain ⟨q1, q2, q3, q4⟩ := h.1.w
  have ec : f_X4_readStatement M = bnd (f_X4_takeFirstWord M) (fun r11 M12 => if r11 = 0 then some (0, M12) else bnd (f_X4_readQueue M12) (fun r14 M15 => if r14 = 0 then some (0, M15) else some (1, M15))) := by
    unfold f_X4_readStatement
    rw [q2, wck_n q1, if_neg (by first | decide | simp), if_neg (by first | decide | simp), if_neg (by first | decide | simp), if_neg (by first | decide | simp), if_neg (by first | decide | simp), if_neg (by first | decide | simp), if_neg (by first | decide | simp), if_neg (by first | decide | simp), if_neg (by first | decide | simp), if_pos (by first | decide | simp)]
    rfl
  rw [ec]
  exact ST_once (C := fun M12 => bnd (f_X4_readQueue M12) (fun r14 M15 => if r14 = 0 then some (0, M15) else some (1, M15))) h (by first | decide | simp) rfl (fun M' e => by rw [e, bnd_some, if_neg (by first | decide | simp)]) (fun M' e => by rw [e, bnd_some, if_pos rfl]) (fun p' k' w' M' N' hP => by
    obtain ⟨M2, N2, b1, b2, b3, b4⟩ := B_queue hP
    refine ⟨M2, N2, ?_, b2, b3, b4.w⟩
    unfold f_X12_parseBehind
    rw [show kmap 9 = (22 : Int32) by decide]
    simp only [show ¬ ((22 : Int32) = 0) by decide, show ¬ ((22 : Int32) = 6) by decide, show ¬ ((22 : Int32) = 7) by decide, show ¬ ((22 : Int32) = 8) by decide, show ¬ ((22 : Int32) = 9) by decide, show ¬ ((22 : Int32) = 10) by decide, show ¬ ((22 : Int32) = 11) by decide, show ¬ ((22 : Int32) = 14) by decide, show ¬ ((22 : Int32) = 19) by decide, if_false, if_true]
    exact b1)
theorem ST10 {len p : Nat} {M N : Mem} {L V : LM} (h : PT len p 1 10 M N L V) : ∃ M' N', f_X12_parseStatement N = some ((), N') ∧ FC M M' ∧ FM N N' ∧ StmO len p (f_X4_readStatement M) M' N' := by
  obtain ⟨q1, q2, q3, q4⟩ := h.1.w
  have ec : f_X4_readStatement M = bnd (f_X4_takeFirstWord M) (fun r11 M12 => if r11 = 0 then some (0, M12) else bnd (f_X4_readPace M12) (fun r14 M15 => if r14 = 0 then some (0, M15) else some (1, M15))) := by
    unfold f_X4_readStatement
    rw [q2, wck_n q1, if_neg (by first | decide | simp), if_neg (by first | decide | simp), if_neg (by first | decide | simp), if_neg (by first | decide | simp), if_neg (by first | decide | simp), if_neg (by first | decide | simp), if_neg (by first | decide | simp), if_neg (by first | decide | simp), if_neg (by first | decide | simp), if_neg (by first | decide | simp), if_pos (by first | decide | simp)]
    rfl
  rw [ec]
  exact ST_once (C := fun M12 => bnd (f_X4_readPace M12) (fun r14 M15 => if r14 = 0 then some (0, M15) else some (1, M15))) h (by first | decide | simp) rfl (fun M' e => by rw [e, bnd_some, if_neg (by first | decide | simp)]) (fun M' e => by rw [e, bnd_some, if_pos rfl]) (fun p' k' w' M' N' hP => by
    obtain ⟨M2, N2, b1, b2, b3, b4⟩ := B_pace hP
    refine ⟨M2, N2, ?_, b2, b3, b4.w⟩
    unfold f_X12_parseBehind
    rw [show kmap 10 = (24 : Int32) by decide]
    simp only [show ¬ ((24 : Int32) = 0) by decide, show ¬ ((24 : Int32) = 6) by decide, show ¬ ((24 : Int32) = 7) by decide, show ¬ ((24 : Int32) = 8) by decide, show ¬ ((24 : Int32) = 9) by decide, show ¬ ((24 : Int32) = 10) by decide, show ¬ ((24 : Int32) = 11) by decide, show ¬ ((24 : Int32) = 14) by decide, show ¬ ((24 : Int32) = 19) by decide, show ¬ ((24 : Int32) = 22) by decide, if_false, if_true]
    exact b1)
