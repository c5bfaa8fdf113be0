/-! ===== the number of overruns ===== -/
def Kv (L L' : LM) : Prop := L'.1 (4, 6, 0) = L.1 (4, 6, 0)
def Ov (L L' : LM) : Prop := L'.1 (4, 6, 0) = L.1 (4, 6, 0) ∨ L'.1 (4, 6, 0) = L.1 (4, 6, 0) + 1
theorem Kv.refl (L : LM) : Kv L L := rfl
theorem Kv.trans {L L' L'' : LM} (h : Kv L L') (k : Kv L' L'') : Kv L L'' := Eq.trans k h
theorem Kv.w {L L' : LM} (h : Kv L L') {a : Cl} {v : Int32} (e : ((4, 6, 0) : Cl) ≠ a) : Kv L (wI L' a v) := by
  unfold Kv
  rw [rdw, if_neg e]
  exact h
theorem Kv.wl {L L' : LM} (h : Kv L L') {a : Cl} {v : Int64} : Kv L (wL L' a v) := h
theorem Kv.ov {L L' : LM} (h : Kv L L') : Ov L L' := Or.inl h
theorem Ov.k {L L' L'' : LM} (h : Ov L L') (k : Kv L' L'') : Ov L L'' := by
  unfold Ov
  rw [show L''.1 (4, 6, 0) = L'.1 (4, 6, 0) from k]
  exact h
theorem Kv.o {L L' L'' : LM} (h : Kv L L') (k : Ov L' L'') : Ov L L'' := by
  unfold Ov
  rw [← show L'.1 (4, 6, 0) = L.1 (4, 6, 0) from h]
  exact k
theorem Kv.forget {L L' : LM} (h : Kv L L') (j : Nat) : Kv L (z_forget j L') := (h.w (by simp)).w (by simp)
theorem Kv.idle {L L' : LM} (h : Kv L L') (j : Nat) : Kv L (z_idle j L') := ((h.w (by simp)).w (by simp)).w (by simp)
theorem Kv.busy {L L' : LM} (h : Kv L L') (j : Nat) (t : Int32) : Kv L (z_busy j t L') := ((h.w (by simp)).w (by simp)).w (by simp)
theorem Kv.b {L L' : LM} (h : Kv L L') : Kv L (z_b L') := (h.w (by simp)).w (by simp)
theorem Kv.brk {L L' : LM} (h : Kv L L') (k : Int32) : Kv L (z_brk k L') := by
  unfold z_brk
  split
  · split
    · exact h.b.forget 0
    · exact h.b
  · exact h
theorem Kv.bp {L L' : LM} (h : Kv L L') (j : Nat) : Kv L (n_bp j L') := h.w (by simp)
theorem Kv.start {L L' : LM} (h : Kv L L') (j : Nat) (t : Int32) : Kv L (n_start j t L') := by
  unfold n_start
  split
  · exact ((h.busy j t).bp j).brk _
  · exact (h.busy j t).bp j
theorem Kv.fd {L L' : LM} (h : Kv L L') (t : Nat) : Kv L (z_fd t L') := h.w (by simp)
theorem Kv.ms {L L' : LM} (h : Kv L L') (t : Nat) : Kv L (z_ms t L') := h.w (by simp)
theorem Kv.look {L L' : LM} (h : Kv L L') (w : Nat) (c t y x : Int32) : Kv L (z_look w c t y x L') := by
  unfold z_look
  split
  · exact h
  · split
    · exact h.w (by simp)
    · exact ((((h.w (by simp)).w (by simp)).w (by simp)).w (by simp)).w (by simp)
theorem Kv.looks {L L' : LM} (h : Kv L L') (c t y x : Int32) : Kv L (z_looks c t y x L') := ((h.look 0 c t y x).look 1 c t y x).look 2 c t y x
theorem Kv.add {L L' : LM} (h : Kv L L') (c : Nat) (x : Int32) : Kv L (z_add c x L') := (((h.w (by simp)).w (by simp)).w (by simp)).wl
theorem Kv.cv2 {L L' : LM} (h : Kv L L') (s : Nat) : Kv L (z_cv2 s L') := (((h.w (by simp)).w (by simp)).w (by simp)).w (by simp)
theorem Kv.put {L L' : LM} (h : Kv L L') (j s : Nat) (a b c d : Int32) : Kv L (z_put j s a b c d L') := (((h.w (by simp)).w (by simp)).w (by simp)).w (by simp)
theorem Kv.drop {L L' : LM} (h : Kv L L') (j : Nat) : Kv L (n_drop j L') := (h.w (by simp)).w (by simp)
theorem Kv.mid {L L' : LM} (h : Kv L L') (s : Nat) : Kv L (n_mid s L') := (h.w (by simp)).wl
theorem Kv.end3 {L L' : LM} (h : Kv L L') : Kv L (n_end3 L') := by
  unfold n_end3
  split
  · exact h.idle 0
  · exact h.bp 0
theorem Kv.end2 {L L' : LM} (h : Kv L L') : Kv L (n_end2 L') := by
  unfold n_end2
  split
  · exact h.end3
  · exact (h.start 1 _).end3
theorem Kv.end {L L' : LM} (h : Kv L L') (s : Nat) : Kv L (n_end s L') := by
  unfold n_end n_end1 n_end0
  split
  · exact ((h.w (by simp)).w (by simp)).idle 1
  · split
    · exact (h.w (by simp)).end2
    · exact ((h.w (by simp)).w (by simp)).end2
theorem Kv.stc {L L' : LM} (h : Kv L L') (s e : Nat) : Kv L (n_stc s e L') := ((h.w (by simp)).w (by simp)).w (by simp)
theorem Kv.enq1 {L L' : LM} (h : Kv L L') (o z c : Nat) (a t y x : Int32) : Kv L (n_enq 1 o z c a t y x L') := by
  unfold n_enq n_put
  split
  · split
    · exact h.w (by simp)
    · exact (((h.w (by simp)).drop 1).put 1 _ a t y x).w (by simp)
  · exact (h.put 1 _ a t y x).w (by simp)
theorem Ov.enq0 {L L' : LM} (h : Kv L L') (o z c : Nat) (a t y x : Int32) : Ov L (n_enq 0 o z c a t y x L') := by
  have e : L'.1 (4, 6, 0) = L.1 (4, 6, 0) := h
  unfold n_enq n_put
  split
  · have k : (wI L' (4, 6, 0) (L'.1 (4, 6, 0) + 1)).1 (4, 6, 0) = L.1 (4, 6, 0) + 1 := by rw [rdw, if_pos rfl, e]
    split
    · exact Or.inr k
    · refine Or.inr ?_
      have q : Kv (wI L' (4, 6, 0) (L'.1 (4, 6, 0) + 1)) (wI (z_put 0 (4 * (((o + 1) % rk 0 + (z - 1)) % rk 0)) a t y x (n_drop 0 (wI L' (4, 6, 0) (L'.1 (4, 6, 0) + 1)))) (4, 5, 0) ((n_drop 0 (wI L' (4, 6, 0) (L'.1 (4, 6, 0) + 1))).1 (4, 5, 0) + 1)) := (((Kv.refl _).drop 0).put 0 _ a t y x).w (by simp)
      exact Eq.trans q k
  · exact Or.inl ((h.put 0 _ a t y x).w (by simp))
theorem Ov.fin {L L' : LM} (h : Kv L L') (s c p o z k : Nat) : Ov L (n_fin s c p o z k L') := by
  unfold n_fin n_fin8 n_fin7
  have w : ∀ X : LM, Ov L X → ∀ v, Ov L (wI X (5, 4, s) v) := fun X hX v => hX.k ((Kv.refl X).w (by simp))
  split
  · exact w _ (((((h.forget s).looks _ _ _ _).add c _).mid s).put 2 _ _ _ _ _).ov _
  · exact w _ (Ov.enq0 ((((h.forget s).looks _ _ _ _).add c _).mid s) _ _ _ _ _ _ _) _
theorem Ov.cv {L L' : LM} (h : Kv L L') (s c p o z k : Nat) : Ov L (n_cv2 s c p o z k (n_cv1 c L')) := by
  have h1 : Kv L (n_cv1 c L') := by
    unfold n_cv1
    split
    · exact (h.w (by simp)).w (by simp)
    · exact h.w (by simp)
  unfold n_cv2 n_cv3 n_cv4
  split
  · split
    · exact (h1.cv2 s).ov
    · split
      · exact Ov.fin (h1.cv2 s) s c p o z k
      · exact (Ov.fin (h1.cv2 s) s c p o z k).k ((Kv.refl _).end s)
  · exact h1.ov
def Stk (L L' : LM) : Prop := Stc L L' ∧ Kv L L'
def Sto (L L' : LM) : Prop := Stc L L' ∧ Ov L L'
theorem Stk.refl (L : LM) : Stk L L := ⟨Stc.refl L, Kv.refl L⟩
theorem Stk.trans {L L' L'' : LM} (h : Stk L L') (k : Stk L' L'') : Stk L L'' := ⟨h.1.trans k.1, h.2.trans k.2⟩
theorem Stk.o {L L' L'' : LM} (h : Stk L L') (k : Sto L' L'') : Sto L L'' := ⟨h.1.trans k.1, h.2.o k.2⟩
theorem Sto.k {L L' L'' : LM} (h : Sto L L') (k : Stk L' L'') : Sto L L'' := ⟨h.1.trans k.1, h.2.k k.2⟩
theorem Stk.sto {L L' : LM} (h : Stk L L') : Sto L L' := ⟨h.1, h.2.ov⟩
