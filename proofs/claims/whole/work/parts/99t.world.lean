/-! ===== the cells made, as the world of one memory ===== -/
def adr (x b sl sv pa tk : Nat) (qq : Nat → Nat → Nat) (chs trs wns : Nat → List Nat) (mq : Nat → Nat) : Oid → Nat := fun o => match o.1 with
  | 0 => (chs o.2.1).getD o.2.2 0
  | 1 => qq o.2.1 8
  | 2 => qq o.2.1 0
  | 3 => pa
  | 4 => qq o.2.1 (9 + 2 * o.2.2)
  | 5 => qq o.2.1 (2 + 2 * o.2.2)
  | 6 => tk
  | 7 => (trs o.2.1).getD o.2.2 0
  | 8 => (wns o.2.1).getD o.2.2 0
  | 9 => x
  | 20 => qq o.2.1 (3 + 2 * o.2.2)
  | 21 => qq o.2.1 (10 + 2 * o.2.2)
  | 22 => b
  | 23 => sv
  | 24 => qq o.2.1 1
  | 25 => qq o.2.1 6
  | 26 => qq o.2.1 7
  | 27 => sl
  | k => mq k
def Fo (G : GG) (M : Mem) : Oid → Nat × va_E := fun o => (G.2.1 o, ent G M o)
theorem wl_Fo {G : GG} {M : Mem} : wl G M = (objs G.2.2.2.2).map (Fo G M) := rfl
def cvO (c : Nat) : List Oid := [(2, c, 0), (24, c, 0), (5, c, 0), (20, c, 0), (5, c, 1), (20, c, 1), (25, c, 0), (26, c, 0), (1, c, 0), (4, c, 0), (21, c, 0), (4, c, 1), (21, c, 1), (4, c, 2), (21, c, 2)] ++ (((List.range 8).map (fun j => (0, c, j)) ++ (List.range 4).map (fun j => (7, c, j))) ++ (List.range 3).map (fun j => (8, c, j)))
def csO : List Oid := ((((((([(9, 0, 0)] ++ cvO 1) ++ cvO 5) ++ [(27, 0, 0)]) ++ cvO 3) ++ cvO 4) ++ [(23, 0, 0)]) ++ (([(3, 0, 0), (6, 0, 0), (22, 0, 0)] ++ cvO 2) ++ cvO 0))
def moO : List Oid := (10, 0, 0) :: (((((((((csO ++ [(30, 0, 0)]) ++ [(31, 0, 0)]) ++ [(32, 0, 0)]) ++ [(33, 0, 0)]) ++ [(34, 0, 0)]) ++ [(35, 0, 0)]) ++ [(36, 0, 0)]) ++ [(37, 0, 0)]) ++ [(38, 0, 0)])
theorem moO_perm : moO.Perm (objs false) := by decide +kernel
theorem mgl {β : Type} {g : Nat → β} {l : List Nat} {n : Nat} (h : l.length = n) : l.map g = (List.range n).map (fun j => g (l.getD j 0)) := by
  apply List.ext_getElem
  · rw [List.length_map, List.length_map, List.length_range, h]
  · intro i h1 h2
    rw [List.length_map] at h1
    rw [List.getElem_map, List.getElem_map, List.getElem_range, List.getD_eq_getElem?_getD, List.getElem?_eq_getElem h1]
    rfl
section WORLDS
variable {D : va_G} {ac : Nat → ClassId} {w : Nat → Nat} {x b sl sv pa tk : Nat} {qq : Nat → Nat → Nat} {chs trs wns : Nat → List Nat} {mq : Nat → Nat} {fl : Bool}
theorem cv_eq {c : Nat} (h : (chs c).length = 8 ∧ (trs c).length = 4 ∧ (wns c).length = 3) : cvW ac (qq c) (chs c) (trs c) (wns c) = (cvO c).map (Fo (D, adr x b sl sv pa tk qq chs trs wns mq, ac, w, fl) iniM) := by
  have e1 : (chs c).map (fun z => (z, eCh)) = ((List.range 8).map (fun j => ((0, c, j) : Oid))).map (Fo (D, adr x b sl sv pa tk qq chs trs wns mq, ac, w, fl) iniM) := by
    rw [mgl h.1, List.map_map]
    rfl
  have e2 : (trs c).map (fun z => (z, zTr)) = ((List.range 4).map (fun j => ((7, c, j) : Oid))).map (Fo (D, adr x b sl sv pa tk qq chs trs wns mq, ac, w, fl) iniM) := by
    rw [mgl h.2.1, List.map_map]
    rfl
  have e3 : (wns c).map (fun z => (z, eWn)) = ((List.range 3).map (fun j => ((8, c, j) : Oid))).map (Fo (D, adr x b sl sv pa tk qq chs trs wns mq, ac, w, fl) iniM) := by
    rw [mgl h.2.2, List.map_map]
    rfl
  unfold cvO
  rw [List.map_append, List.map_append, List.map_append, ← e1, ← e2, ← e3]
  rfl
theorem cs_eq (h : ∀ c, c < 6 → (chs c).length = 8 ∧ (trs c).length = 4 ∧ (wns c).length = 3) : csW ac w x b sl sv pa tk qq chs trs wns = csO.map (Fo (D, adr x b sl sv pa tk qq chs trs wns mq, ac, w, fl) iniM) := by
  unfold csO
  rw [List.map_append, List.map_append, List.map_append, List.map_append, List.map_append, List.map_append, List.map_append, List.map_append, List.map_append, ← cv_eq (c := 0) (h 0 (by first | decide | simp)), ← cv_eq (c := 1) (h 1 (by first | decide | simp)), ← cv_eq (c := 2) (h 2 (by first | decide | simp)), ← cv_eq (c := 3) (h 3 (by first | decide | simp)), ← cv_eq (c := 4) (h 4 (by first | decide | simp)), ← cv_eq (c := 5) (h 5 (by first | decide | simp))]
  rfl
end WORLDS
/-- from the list of cells to the world of one memory -/
theorem TK_T {G : GG} {A : Nat → Prop} {p : Program} {l : Launch} {e : Env} {R : Room} {s : State} {m : MethodId} {args : Array Value} {below : List Frame} {meth : Method} {c : Code} {nL ce sl : Nat} {Q : State → Prop} {own : String} {cc : ByteArray} {pc : Nat} {lo : List (Nat × Value)} {st : List Value} {M : Mem} {ws : va_W} (X : CK G.1 G.2.2.1 G.2.2.2.1 A p s m args meth c own cc nL) (hlk : meth.locks = false) (hp : ws.Perm (wl G M))
    (k : Cx G A p s m args meth c own cc nL → T G A p l e R s m args below meth c nL ce sl Q pc lo st M) : TK G.1 A p l e R s m args below meth c nL ce sl Q pc lo st ws := by
  intro H locs ls hS hP hD hl
  have hP' := P_perm hP hp
  have hD' := D_perm hD hp
  have at' : ∀ (i : Nat) (o : Oid), (objs G.2.2.2.2)[i]? = some o → (wl G M)[i]? = some (G.2.1 o, ent G M o) := fun i o h => by rw [wl, List.getElem?_map, h]; rfl
  refine k ⟨X.1, X.2.1, X.2.2.1, X.2.2.2.1, X.2.2.2.2.1, hlk, ?_, fun i j o q hi hj e => hD'.1 i j _ _ (at' i o hi) (at' j q hj) e, X.2.2.2.2.2.2.1, X.2.2.2.2.2.2.2.1⟩ H locs ls hS hP' hl
  rintro q ⟨o, ho, rfl⟩
  obtain ⟨i, hi⟩ := List.getElem?_of_mem ho
  exact hD'.2 i _ (at' i o hi)
theorem T_ret {G : GG} {A : Nat → Prop} {p : Program} {l : Launch} {e : Env} {R : Room} {s : State} {m : MethodId} {args : Array Value} {below : List Frame} {meth : Method} {c : Code} {nL ce sl : Nat} {own : String} {cc : ByteArray} {pc : Nat} {lo : List (Nat × Value)} {M : Mem} (X : Cx G A p s m args meth c own cc nL) (hr : meth.sig.returnType = none) {ws0 : va_W} {sz mc ms : Nat} {post : va_W → Prop} (hA : A = va_A ws0 sz) (hp : post (wl G M)) (hc : ce ≤ mc ∧ sl ≤ ms) (d : decode cc pc = .ok (.return_, 1)) : T G A p l e R s m args below meth c nL ce sl (MQ below (QvK G.1 ws0 sz post) args s mc ms (va_A ws0 sz)) pc lo [] M := by
  intro H locs ls hS hP hl
  subst hA
  exact W.widen hc.1 hc.2 (W.vret X.1 X.2.1 hr (fun t ht hw => ⟨⟨wl G M, rfl, hp, by rw [ht]; exact hP, Cx_D X⟩, hS.F ht⟩) hS.2.2 d X.2.2.2.2.2.1)
