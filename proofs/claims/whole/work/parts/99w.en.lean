/-! ===== the start, as the rows want it ===== -/
theorem va_OF_det {o n d : String} {v v' : Value} {t : Nat} {A : Nat → Prop} {U : State} {H : Heap} (h : va_OF o n d v t A U H) (h' : va_OF o n d v' t A U H) : v = v' := by
  obtain ⟨cf, k, i, f, cell, a1, a2, a3, a4, a5, -⟩ := h
  obtain ⟨cf', k', i', f', cell', b1, b2, b3, b4, b5, -⟩ := h'
  cases a1.symm.trans b1
  cases a3.symm.trans b3
  exact Option.some.inj (a5.symm.trans b5)
theorem flatC_and (a b : Cond) : flatC (Jvm.Cond.and a b) = flatC a ++ flatC b := by rw [flatC]
section START
variable {args : Array Value} {s : State} {A : Nat → Prop}
theorem fl_in (h : (Jvm.Cond.and given_1 narrow_1).before args s = true) : ∀ c ∈ flN, c.before args s = true :=
  fun c hc => flat_of_before _ h c (by rw [flatC_and]; exact List.mem_append_right _ hc)
theorem n_at (hn : ∀ c ∈ flN, c.before args s = true) {k : Nat} {c : Cond} (h : flN[k]? = some c) : c.before args s = true := hn c (List.mem_of_getElem? h)
theorem l_at (hts : ∀ w ∈ lw_tbl, w.before args s = true) {k : Nat} {c : Cond} (h : lw_tbl[k]? = some c) : c.before args s = true := hts c (List.mem_of_getElem? h)
theorem EN_start (hts : ∀ w ∈ lw_tbl, w.before args s = true) (hn : ∀ c ∈ flN, c.before args s = true) (hA : ∀ a : Nat, a < s.heap.size → ¬ A a) : ∃ w, EN w A s s.heap := by
  have h0 : ∀ i : Nat, ∃ t : Nat, i < 26 → (tWd i).eval args s none [] s = some (.ref t) ∧ va_O RX10 t A s s.heap := by
    intro i
    by_cases hi : i < 26
    · obtain ⟨a, c, cell, k, q1, q2, q3, q4, q5, q6, -⟩ := Cond.exactly_spec (n_at hn (n_ex i hi))
      exact ⟨a, fun _ => ⟨q1, cell, q3, q5, by rw [q6]; exact q2, hA a (Array.getElem?_eq_some_iff.mp q3).1⟩⟩
    · exact ⟨0, fun h => absurd h hi⟩
  obtain ⟨ad, had⟩ := Classical.axiomOfChoice h0
  have ev : ∀ i, i < 26 → (Term.static RX10 (wNames.getD i "") dWd).eval args s none [] s = some (.ref (ad i)) := fun i hi => (had i hi).1
  have fo := va_Efof (o := "java/lang/Enum") (n := "ordinal") (d := "I") (v := fun i => .int (wOrd.getD i 0)) (tm := fun i => .int (wOrd.getD i 0)) ev (fun i hi => n_at hn (n_or i hi)) (fun _ _ => rfl) hA
  have fb := va_Efof (o := RX10) (n := "bit") (d := "I") (v := fun i => .int (wBit.getD i 0)) (tm := fun i => .int (wBit.getD i 0)) ev (fun i hi => n_at hn (n_bi i hi)) (fun _ _ => rfl) hA
  have fl := va_Efof (o := RX10) (n := "least") (d := "I") (v := fun i => .int (wLeast.getD i 0)) (tm := fun i => .int (wLeast.getD i 0)) ev (fun i hi => n_at hn (n_le i hi)) (fun _ _ => rfl) hA
  have fm := va_Efof (o := RX10) (n := "most") (d := "I") (v := fun i => .int (wMost.getD i 0)) (tm := fun i => .int (wMost.getD i 0)) ev (fun i hi => n_at hn (n_mo i hi)) (fun _ _ => rfl) hA
  have ft := va_Efof (o := RX10) (n := "letters") (d := "J") (v := fun i => .long (wLet.getD i 0)) (tm := fun i => .long (wLet.getD i 0)) ev (fun i hi => n_at hn (n_lt i hi)) (fun _ _ => rfl) hA
  obtain ⟨tA, eA, hTA⟩ := va_Tof (tm := tAll) (ty := .object RX10) (N := 26) (f := fun i => .ref (ad i)) (by first | decide | simp) (n_at hn n_one.1) (va_eqt (n_at hn n_one.2.1)) (fun j hj => va_eqv (n_at hn (n_al j hj)) (ev j hj)) hA
  obtain ⟨tS, eS, hTS⟩ := va_Tof (tm := tSwm) (ty := .int) (N := 26) (f := fun i => .int (wSw.getD i 0)) (by first | decide | simp) (n_at hn n_one.2.2.1) (va_eqt (n_at hn n_one.2.2.2.1)) (fun j hj => va_eqt (n_at hn (n_sw j hj))) hA
  have zA := va_Zref (l_at hts l_one.2.2.2.1) (l_at hts l_one.1) eA hA
  have zS := va_Zref (l_at hts l_one.2.2.2.2.1) (l_at hts l_one.2.1) eS hA
  refine ⟨fun k => if k < 26 then ad k else if k = 26 then tA else tS, ⟨fun i hi => ?_, fun i j hi hj e => ?_⟩, fun i hi => ?_, zA, ?_, zS, hTS⟩
  · have hi' : i < 26 := hi
    dsimp only
    rw [if_pos hi']
    exact ⟨va_Zref (l_at hts (l_lay i hi')) (l_at hts l_one.1) (ev i hi') hA, (had i hi').2, List.forall_mem_cons.mpr ⟨fo i hi', List.forall_mem_cons.mpr ⟨fb i hi', List.forall_mem_cons.mpr ⟨fl i hi', List.forall_mem_cons.mpr ⟨fm i hi', fun _ h => absurd h List.not_mem_nil⟩⟩⟩⟩⟩
  · have hi' : i < 26 := hi
    have hj' : j < 26 := hj
    dsimp only at e
    rw [if_pos hi', if_pos hj'] at e
    have h1 := fo i hi'
    rw [e] at h1
    have h2 := Value.int.inj (va_OF_det h1 (fo j hj'))
    rw [wOrd_at hi', wOrd_at hj'] at h2
    exact nIi h2 (by omega) (by omega)
  · dsimp only
    rw [if_pos hi]
    exact ft i hi
  · obtain ⟨cell, b1, b2, b3, b4, b5, b6, b7⟩ := hTA
    exact ⟨cell, b1, b2, b3, b4, b5, fun j hj => by rw [b6 j hj]; dsimp only; rw [if_pos hj], b7⟩
theorem SX_start (hts : ∀ w ∈ lw_tbl, w.before args s = true) (hn : ∀ c ∈ flN, c.before args s = true) : SX s := by
  refine ⟨fun k hk w hw hc => ?_, fun q hq => ?_, fun i j hi hj hij => va_Nc.of (n_at hn (n_nc i hi j hj hij))⟩
  · have h1 := List.all_eq_true.mp (l_cd k hk) w hw
    rw [hc] at h1
    have h2 : w ∈ lw_tbl := by simpa using h1
    have h3 := hts w h2
    cases w <;> first | exact va_Nw.of rfl h3 | (simp [isCD] at hc; done)
  · obtain ⟨k, hk⟩ := List.getElem?_of_mem hq
    have hk20 : k < 20 := (List.getElem?_eq_some_iff.mp hk).1
    have e : strL.getD k (0, "") = q := by rw [List.getD_eq_getElem?_getD, hk]; rfl
    have h1 := l_at hts (l_sr k hk20)
    obtain ⟨a, -, -, -, q1, -⟩ := Cond.exactly_spec (n_at hn (n_sx k hk20))
    rw [e] at h1 q1
    exact ⟨a, vk_R.of h1 q1⟩
theorem ZX_start (hts : ∀ w ∈ lw_tbl, w.before args s = true) (hn : ∀ c ∈ flN, c.before args s = true) (hA : ∀ a : Nat, a < s.heap.size → ¬ A a) : ZX A s s.heap :=
  ⟨vx_Zqof (l_at hts l_one.2.2.2.2.2.1) (l_at hts l_one.2.2.1) (n_at hn n_one.2.2.2.2.1) hA, vx_Zqof (l_at hts l_one.2.2.2.2.2.2.1) (l_at hts l_one.2.2.1) (n_at hn n_one.2.2.2.2.2) hA⟩
theorem BW_start (hts : ∀ w ∈ lw_tbl, w.before args s = true) : BW s := by
  refine ⟨fun C hC => ?_, fun q hq => ?_⟩
  · obtain ⟨k, hk⟩ := List.getElem?_of_mem hC
    have hk4 : k < 4 := (List.getElem?_eq_some_iff.mp hk).1
    have e : overL.getD k "" = C := by rw [List.getD_eq_getElem?_getD, hk]; rfl
    have h1 := l_at hts (l_ov k hk4)
    rw [e] at h1
    exact va_AO.of h1
  · obtain ⟨k, hk⟩ := List.getElem?_of_mem hq
    have hk4 : k < 6 := (List.getElem?_eq_some_iff.mp hk).1
    have e : nestL.getD k ("", 0, yX1_init) = q := by rw [List.getD_eq_getElem?_getD, hk]; rfl
    have h1 := l_at hts (l_nl k hk4)
    rw [e] at h1
    exact va_Nw.of rfl h1
theorem kin_at : ∀ {ci : Nat} {q : vw_C}, gcl[ci]? = some q → Cond.instantiable q.1 q.2.2 ∈ gtb := by
  intro ci q h
  match ci, h with
  | 0, h => cases h; exact kin_X1
  | 1, h => cases h; exact kin_X2
  | 2, h => cases h; exact kin_X3
  | 3, h => cases h; exact kin_X4
  | 4, h => cases h; exact kin_X5
  | 5, h => cases h; exact kin_X6
  | 6, h => cases h; exact kin_X7
  | 7, h => cases h; exact kin_X8
  | 8, h => cases h; exact kin_X9
  | 9, h => cases h; exact kin_X11
  | 10, h => cases h; exact kin_X12
theorem ac_prim {ty : FieldType} (h : (Cond.arrayClass ty).before args s = true) (hpr : ∀ U cA, va_RA U cA ty = (U.vm.findClass ("[" ++ ty.toString) = some cA)) : ∃ c, ArrOfT s c ty ∧ va_RA s c ty := by
  obtain ⟨c, k, comp, h1, h2, h3⟩ := Cond.arrayClass_spec h
  exact ⟨c, fun n z => ⟨(fun k h => by cases h), k, h2, comp, h3⟩, by rw [hpr]; exact h1⟩
theorem ac_obj {C : String} (h : (Cond.arrayOver (.object C)).before args s = true) : ∃ c, ArrOfT s c (.object C) ∧ va_RA s c (.object C) := by
  obtain ⟨comp, c, k, h1, h2, h3, h4, h5⟩ := Cond.arrayOver_spec h
  exact ⟨c, fun n z => ⟨(fun k h => by cases h), k, h3, comp, h4⟩, k, comp, h3, h4, h1, h5⟩
theorem K_start (hts : ∀ w ∈ lw_tbl, w.before args s = true) : ∃ (D : va_G) (ac : Nat → ClassId), va_K D gcl (tysA ac) s := by
  have hg : ∀ w ∈ gtb, w.before args s = true := fun w hw => hts w (List.mem_filter.mp hw).1
  have h0 : ∀ ci : Nat, ∃ x : ClassId × (Nat → Nat), ∀ q : vw_C, gcl[ci]? = some q → u_Kn s q.1 q.2.1 q.2.2 x.1 x.2 := by
    intro ci
    cases hq : gcl[ci]? with
    | none => exact ⟨((fun _ => 0 : Nat → Nat) 0, fun _ => 0), fun q h => by cases h⟩
    | some q =>
      obtain ⟨cC, iS, h⟩ := u_known hg (gcl_at hq).1 (hg _ (kin_at hq))
      exact ⟨(cC, iS), fun q' h' => by cases h'; exact h⟩
  obtain ⟨fc, hfc⟩ := Classical.axiomOfChoice h0
  have h1 : ∀ t : Nat, ∃ c : ClassId, t < 9 → ArrOfT s c (tyA.getD t .int) ∧ va_RA s c (tyA.getD t .int) := by
    intro t
    by_cases ht : t < 9
    · have hO : ∀ (k : Nat), k < 4 → ∃ c, ArrOfT s c (.object (overL.getD k "")) ∧ va_RA s c (.object (overL.getD k "")) := fun k hk => ac_obj (l_at hts (l_ov k hk))
      have hP := l_one.2.2.2.2.2.2.2
      have : ∃ c, ArrOfT s c (tyA.getD t .int) ∧ va_RA s c (tyA.getD t .int) := by
        match t, ht with
        | 0, _ => exact ac_prim (l_at hts hP.1) (fun _ _ => rfl)
        | 1, _ => exact ac_prim (l_at hts hP.2.1) (fun _ _ => rfl)
        | 2, _ => exact ac_prim (l_at hts hP.2.2.1) (fun _ _ => rfl)
        | 3, _ => exact ac_prim (l_at hts hP.2.2.2.1) (fun _ _ => rfl)
        | 4, _ => exact ac_prim (l_at hts hP.2.2.2.2) (fun _ _ => rfl)
        | 5, _ => exact hO 0 (by first | decide | simp)
        | 6, _ => exact hO 1 (by first | decide | simp)
        | 7, _ => exact hO 2 (by first | decide | simp)
        | 8, _ => exact hO 3 (by first | decide | simp)
      exact this.elim fun c h => ⟨c, fun _ => h⟩
    · exact ⟨(fc 0).1, fun h => absurd h ht⟩
  obtain ⟨ac, hac⟩ := Classical.axiomOfChoice h1
  refine ⟨(fun c => (fc c).1, fun c => (fc c).2), ac, fun c q hq => hfc c q hq, fun k q hk => ?_⟩
  have hk9 : k < 9 := by
    have h2 := (List.getElem?_eq_some_iff.mp hk).1
    unfold tysA at h2
    rw [List.length_map, List.length_range] at h2
    exact h2
  rw [tysA_at hk9] at hk
  cases hk
  exact hac k hk9
end START
