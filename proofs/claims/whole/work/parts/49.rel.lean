/-! ===== the relation of the class's cells L and the reference's V ===== -/
/-- cells that the two sides hold in ways of their own -/
def sp : Cl → Bool := fun x => match x with
  | (1, f, _) => Nat.beq f 6
  | (2, f, _) => Nat.beq f 17
  | (4, f, j) => Nat.beq f 4 || (Nat.beq f 6 && Nat.beq j 1)
  | (5, f, _) => Nat.beq f 5
  | (8, f, _) => Nat.beq f 7 || Nat.beq f 8 || Nat.beq f 9
  | (21, _, j) => Nat.beq j 0 || Nat.beq j 1
  | (22, _, _) => true
  | _ => false
def Eqq (L V : LM) : Prop := (∀ x : Cl, sp x = false → V.1 x = L.1 x) ∧ V.2 = L.2
theorem Eqq.w {L V : LM} (h : Eqq L V) {a : Cl} {x y : Int32} (e : y = x) : Eqq (wI L a x) (wI V a y) := by
  subst e
  refine ⟨fun b hb => ?_, h.2⟩
  rw [rdw, rdw]
  split
  · rfl
  · exact h.1 b hb
theorem Eqq.l {L V : LM} (h : Eqq L V) {a : Cl} {x : Int32} (e : sp a = true) : Eqq (wI L a x) V := by
  refine ⟨fun b hb => ?_, h.2⟩
  rw [rdw, if_neg (fun q => by rw [q, e] at hb; cases hb)]
  exact h.1 b hb
theorem Eqq.r {L V : LM} (h : Eqq L V) {a : Cl} {x : Int32} (e : sp a = true) : Eqq L (wI V a x) := by
  refine ⟨fun b hb => ?_, h.2⟩
  rw [rdw, if_neg (fun q => by rw [q, e] at hb; cases hb)]
  exact h.1 b hb
theorem Eqq.wl {L V : LM} (h : Eqq L V) {a : Cl} {x y : Int64} (e : y = x) : Eqq (wL L a x) (wL V a y) := by
  subst e
  refine ⟨h.1, ?_⟩
  show (fun b => if b = a then y else V.2 b) = (fun b => if b = a then y else L.2 b)
  rw [h.2]
theorem Eqq.forget {L V : LM} (h : Eqq L V) (j : Nat) : Eqq (z_forget j L) (z_forget j V) := (h.w rfl).w rfl
theorem Eqq.idle {L V : LM} (h : Eqq L V) (j : Nat) : Eqq (z_idle j L) (z_idle j V) := ((h.w rfl).w rfl).w rfl
theorem Eqq.busy {L V : LM} (h : Eqq L V) (j : Nat) (t : Int32) : Eqq (z_busy j t L) (z_busy j t V) := ((h.w rfl).w rfl).w (h.1 (2, 15, 0) rfl)
theorem Eqq.b {L V : LM} (h : Eqq L V) : Eqq (z_b L) (z_b V) := (h.w rfl).w (by rw [h.1 (1, 5, 0) rfl])
theorem Eqq.brk {L V : LM} (h : Eqq L V) (k : Int32) : Eqq (z_brk k L) (z_brk k V) := by
  unfold z_brk
  rw [h.1 (1, 0, 0) rfl]
  split
  · split
    · exact h.b.forget 0
    · exact h.b
  · exact h
theorem Eqq.start {L V : LM} (h : Eqq L V) (j : Nat) (t : Int32) : Eqq (n_start j t L) (m_start j t V) := by
  unfold n_start m_start n_bp m_bp
  rw [h.1 (2, 11, 0) rfl]
  split
  · exact (((h.busy j t).l rfl).r rfl).brk _
  · exact ((h.busy j t).l rfl).r rfl
theorem Eqq.fd {L V : LM} (h : Eqq L V) (t : Nat) : Eqq (z_fd t L) (z_fd t V) := h.w (by rw [h.1 (7, 3, t) rfl])
theorem Eqq.ms {L V : LM} (h : Eqq L V) (t : Nat) : Eqq (z_ms t L) (z_ms t V) := h.w (by rw [h.1 (7, 4, t) rfl])
theorem Eqq.look {L V : LM} (h : Eqq L V) (w : Nat) (c t y x : Int32) : Eqq (z_look w c t y x L) (z_look w c t y x V) := by
  have e : z_cnt w x V = z_cnt w x L := by
    unfold z_cnt
    rw [h.1 (8, 1, w) rfl, h.1 (8, 2, w) rfl, h.1 (8, 5, w) rfl]
  unfold z_look
  rw [h.1 (8, 4, w) rfl, h.1 (8, 3, w) rfl, h.1 (8, 6, w) rfl, e]
  split
  · exact h
  · split
    · exact h.w rfl
    · exact ((((h.w rfl).w rfl).w rfl).w rfl).w rfl
theorem Eqq.looks {L V : LM} (h : Eqq L V) (c t y x : Int32) : Eqq (z_looks c t y x L) (z_looks c t y x V) := ((h.look 0 c t y x).look 1 c t y x).look 2 c t y x
theorem Eqq.add {L V : LM} (h : Eqq L V) (c : Nat) (x : Int32) : Eqq (z_add c x L) (z_add c x V) := by
  unfold z_add z_lo z_hi
  rw [h.1 (0, 5, c) rfl, h.1 (0, 6, c) rfl, h.1 (0, 7, c) rfl, h.2]
  exact (((h.w rfl).w rfl).w rfl).wl rfl
theorem Eqq.cv2 {L V : LM} (h : Eqq L V) (s : Nat) : Eqq (z_cv2 s L) (z_cv2 s V) := by
  unfold z_cv2
  rw [h.1 (1, 4, 0) rfl, h.1 (5, 10, s) rfl, h.1 (5, 11, s) rfl, h.1 (1, 3, 0) rfl]
  exact (((h.w rfl).w rfl).w rfl).w rfl
theorem Eqq.val {L V : LM} (h : Eqq L V) (s c : Nat) : z_val s c V = z_val s c L := by
  unfold z_val
  rw [h.1 (5, 11, s) rfl, h.1 (2, 13, 0) rfl, h.1 (0, 1, c) rfl]
/-! what a setup text tells: never changed by a cycle -/
def bz (x : Int32) : Prop := x = 0 ∨ x = 1
def stc : Cl → Bool := fun x => match x with
  | (0, f, _) => Nat.ble f 4
  | (2, f, _) => Nat.ble 9 f && Nat.ble f 14
  | (4, f, _) => Nat.ble 1 f && Nat.ble f 3
  | (5, f, _) => Nat.beq f 1 || Nat.beq f 2
  | (7, f, _) => Nat.ble f 2
  | (8, f, _) => Nat.ble f 4
  | (20, _, _) => true
  | (31, _, _) => true
  | _ => false
def St (L : LM) : Prop :=
  (∀ j, j < 2 → ∃ n, n ≤ capE j ∧ L.1 (5, 1, j) = nI n) ∧
  (∀ j k, j < 2 → k < capE j → ∃ e, e < 8 ∧ L.1 (20, k, j) = nI e) ∧
  (∃ g, g ≤ 8 ∧ L.1 (5, 2, 0) = nI g) ∧ L.1 (5, 2, 1) = 0 ∧
  (∃ o, o ≤ 4 ∧ L.1 (2, 12, 0) = nI o) ∧
  bz (L.1 (2, 9, 0)) ∧ bz (L.1 (2, 10, 0)) ∧ bz (L.1 (2, 11, 0)) ∧
  (∃ k, 1 ≤ k ∧ k ≤ 16 ∧ L.1 (4, 2, 0) = nI k) ∧ bz (L.1 (4, 3, 0)) ∧
  (∀ t, t < 4 → (L.1 (7, 0, t) = 0 ∨ L.1 (7, 0, t) = 1 ∨ L.1 (7, 0, t) = 2) ∧ (∃ p, p ≤ 9999 ∧ L.1 (7, 1, t) = nI p) ∧ (∃ f, f ≤ 9999 ∧ L.1 (7, 2, t) = nI f)) ∧
  (∀ w, w < 3 → bz (L.1 (8, 0, w)) ∧ (L.1 (8, 0, w) = 0 → L.1 (8, 4, w) = 0)) ∧
  (∀ c, c < 8 → ∃ q, 0 < q ∧ q ≤ 9999 ∧ L.1 (0, 4, c) = nI q) ∧
  MkC L ∧ L.1 (4, 2, 1) = nI 64 ∧ L.1 (4, 3, 1) = 1 ∧
  (∃ p, p ≤ 999 ∧ L.1 (2, 14, 0) = nI p) ∧ L.1 (4, 3, 2) = 0
def Stc (L L' : LM) : Prop := ∀ x : Cl, stc x = true → L'.1 x = L.1 x
theorem Stc.refl (L : LM) : Stc L L := fun _ _ => rfl
theorem Stc.trans {L L' L'' : LM} (h : Stc L L') (k : Stc L' L'') : Stc L L'' := fun x hx => (k x hx).trans (h x hx)
theorem Stc.w {L L' : LM} (h : Stc L L') {a : Cl} {v : Int32} (e : stc a = false) : Stc L (wI L' a v) := fun x hx => by
  rw [rdw, if_neg (fun q => by rw [q, e] at hx; cases hx)]
  exact h x hx
theorem Stc.wl {L L' : LM} (h : Stc L L') {a : Cl} {v : Int64} : Stc L (wL L' a v) := h
theorem St.of {L L' : LM} (h : St L) (e : Stc L L') : St L' := by
  obtain ⟨h1, h2, h3, h4, h5, h6, h7, h8, h9, h10, h11, h12, h13, h14, h15, h16, h17, h18⟩ := h
  refine ⟨fun j hj => ?_, fun j k hj hk => ?_, ?_, ?_, ?_, ?_, ?_, ?_, ?_, ?_, fun t ht => ?_, fun w hw => ?_, fun c hc => ?_, fun j hj => ?_, ?_, ?_, ?_, ?_⟩
  · rw [e _ rfl]; exact h1 j hj
  · rw [e _ rfl]; exact h2 j k hj hk
  · rw [e _ rfl]; exact h3
  · rw [e _ rfl]; exact h4
  · rw [e _ rfl]; exact h5
  · rw [e _ rfl]; exact h6
  · rw [e _ rfl]; exact h7
  · rw [e _ rfl]; exact h8
  · rw [e _ rfl]; exact h9
  · rw [e _ rfl]; exact h10
  · rw [e _ rfl, e _ rfl, e _ rfl]; exact h11 t ht
  · rw [e _ rfl, e _ rfl]; exact h12 w hw
  · rw [e _ rfl]; exact h13 c hc
  · rw [e _ rfl]; exact h14 j hj
  · rw [e _ rfl]; exact h15
  · rw [e _ rfl]; exact h16
  · rw [e _ rfl]; exact h17
  · rw [e _ rfl]; exact h18
theorem Stc.forget {L L' : LM} (h : Stc L L') (j : Nat) : Stc L (z_forget j L') := (h.w rfl).w rfl
theorem Stc.idle {L L' : LM} (h : Stc L L') (j : Nat) : Stc L (z_idle j L') := ((h.w rfl).w rfl).w rfl
theorem Stc.busy {L L' : LM} (h : Stc L L') (j : Nat) (t : Int32) : Stc L (z_busy j t L') := ((h.w rfl).w rfl).w rfl
theorem Stc.b {L L' : LM} (h : Stc L L') : Stc L (z_b L') := (h.w rfl).w rfl
theorem Stc.brk {L L' : LM} (h : Stc L L') (k : Int32) : Stc L (z_brk k L') := by
  unfold z_brk
  split
  · split
    · exact h.b.forget 0
    · exact h.b
  · exact h
theorem Stc.bp {L L' : LM} (h : Stc L L') (j : Nat) : Stc L (n_bp j L') := h.w rfl
theorem Stc.start {L L' : LM} (h : Stc L L') (j : Nat) (t : Int32) : Stc L (n_start j t L') := by
  unfold n_start
  split
  · exact ((h.busy j t).bp j).brk _
  · exact (h.busy j t).bp j
theorem Stc.fd {L L' : LM} (h : Stc L L') (t : Nat) : Stc L (z_fd t L') := h.w rfl
theorem Stc.ms {L L' : LM} (h : Stc L L') (t : Nat) : Stc L (z_ms t L') := h.w rfl
theorem Stc.look {L L' : LM} (h : Stc L L') (w : Nat) (c t y x : Int32) : Stc L (z_look w c t y x L') := by
  unfold z_look
  split
  · exact h
  · split
    · exact h.w rfl
    · exact ((((h.w rfl).w rfl).w rfl).w rfl).w rfl
theorem Stc.looks {L L' : LM} (h : Stc L L') (c t y x : Int32) : Stc L (z_looks c t y x L') := ((h.look 0 c t y x).look 1 c t y x).look 2 c t y x
theorem Stc.add {L L' : LM} (h : Stc L L') (c : Nat) (x : Int32) : Stc L (z_add c x L') := (((h.w rfl).w rfl).w rfl).wl
theorem Stc.cv2 {L L' : LM} (h : Stc L L') (s : Nat) : Stc L (z_cv2 s L') := (((h.w rfl).w rfl).w rfl).w rfl
theorem Stc.put {L L' : LM} (h : Stc L L') (j s : Nat) (a b c d : Int32) : Stc L (z_put j s a b c d L') := (((h.w rfl).w rfl).w rfl).w rfl
theorem Stc.drop {L L' : LM} (h : Stc L L') (j : Nat) : Stc L (n_drop j L') := (h.w rfl).w rfl
theorem Stc.enq {L L' : LM} (h : Stc L L') (j o z c : Nat) (a t y x : Int32) : Stc L (n_enq j o z c a t y x L') := by
  unfold n_enq n_put
  split
  · split
    · exact h.w rfl
    · exact (((h.w rfl).drop j).put j _ a t y x).w rfl
  · exact (h.put j _ a t y x).w rfl
theorem Stc.mid {L L' : LM} (h : Stc L L') (s : Nat) : Stc L (n_mid s L') := (h.w rfl).wl
theorem Stc.fin {L L' : LM} (h : Stc L L') (s c p o z k : Nat) : Stc L (n_fin s c p o z k L') := by
  unfold n_fin n_fin8 n_fin7
  split
  · exact (((((h.forget s).looks _ _ _ _).add c _).mid s).put 2 _ _ _ _ _).w rfl
  · exact (((((h.forget s).looks _ _ _ _).add c _).mid s).enq 0 _ _ _ _ _ _ _).w rfl
theorem Stc.end3 {L L' : LM} (h : Stc L L') : Stc L (n_end3 L') := by
  unfold n_end3
  split
  · exact h.idle 0
  · exact h.bp 0
theorem Stc.end2 {L L' : LM} (h : Stc L L') : Stc L (n_end2 L') := by
  unfold n_end2
  split
  · exact h.end3
  · exact (h.start 1 _).end3
theorem Stc.end {L L' : LM} (h : Stc L L') (s : Nat) : Stc L (n_end s L') := by
  unfold n_end n_end1 n_end0
  split
  · exact ((h.w rfl).w rfl).idle 1
  · split
    · exact (h.w rfl).end2
    · exact ((h.w rfl).w rfl).end2
theorem Stc.cv {L L' : LM} (h : Stc L L') (s c p o z k : Nat) : Stc L (n_cv2 s c p o z k (n_cv1 c L')) := by
  have h1 : Stc L (n_cv1 c L') := by
    unfold n_cv1
    split
    · exact (h.w rfl).w rfl
    · exact h.w rfl
  unfold n_cv2 n_cv3 n_cv4
  split
  · split
    · exact h1.cv2 s
    · split
      · exact (h1.cv2 s).fin s c p o z k
      · exact ((h1.cv2 s).fin s c p o z k).end s
  · exact h1
theorem Stc.stc {L L' : LM} (h : Stc L L') (s e : Nat) : Stc L (n_stc s e L') := ((h.w rfl).w rfl).w rfl
