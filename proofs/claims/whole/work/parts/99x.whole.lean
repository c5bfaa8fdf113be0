/-! ===== the law's body from its entry ===== -/
theorem gL {k : Nat} {c : Cond} (h : lw_tbl[k]? = some c) (g : goodWord c = true) : c ∈ gtb := gt (List.mem_of_getElem? h) g
theorem kcl_L_8 : Cond.classLink RL 8 RX11 ∈ gtb := gt (by decide +kernel) rfl
theorem kcl_L_115 : Cond.classLink RL 115 RX12 ∈ gtb := gt (by decide +kernel) rfl
theorem kml_L_114 : Cond.methodLink RL 114 yX11_init ∈ gtb := gt (by decide +kernel) rfl
theorem kml_L_117 : Cond.methodLink RL 117 yX12_init ∈ gtb := gt (by decide +kernel) rfl
theorem kvi_X11 : Cond.instanceMethod yX11_init ∈ gtb := gt (by decide +kernel) rfl
theorem kvi_X12 : Cond.instanceMethod yX12_init ∈ gtb := gt (by decide +kernel) rfl
theorem kmy_X11 : MY yX11_init cX11_init 1 none 0 := ⟨gt (by decide +kernel) rfl, kii_X11, ⟨by decide +kernel, by decide +kernel, by decide +kernel⟩, by decide +kernel⟩
theorem kmy_X12 : MY yX12_init cX12_init 1 none 0 := ⟨gt (by decide +kernel) rfl, kii_X12, ⟨by decide +kernel, by decide +kernel, by decide +kernel⟩, by decide +kernel⟩
theorem kac_L : Cond.arrayClass FieldType.long ∈ gtb := gL l_one.2.2.2.2.2.2.2.2.2.2.1 rfl
theorem kac_D : Cond.arrayClass FieldType.double ∈ gtb := gL l_one.2.2.2.2.2.2.2.2.2.2.2 rfl
abbrev aD (ac : Nat → ClassId) (n : Nat) : va_E := .inl (ac 4, n, .inr (.inr (.inr (.inl (fun _ => 0)))))
theorem fk40 : ∀ o ∈ objs false, ∀ f, f < 21 → (fkO o f).2.1 < 40 := by decide +kernel
theorem ar40 : ∀ (o : Oid) (i : Nat), (arO o i).1 < 40 := by
  intro o i
  unfold arO
  split <;> (dsimp only; decide)
theorem nf21 (k : Nat) : nfO k ≤ 21 := by
  unfold nfO
  split <;> decide
theorem ent_two {D : va_G} {ad ad' : Oid → Nat} {ac : Nat → ClassId} {w : Nat → Nat} {fl fl' : Bool} {M : Mem} (h : ∀ o : Oid, o.1 < 40 → ad' o = ad o) {o : Oid} (ho : o ∈ objs false) : ent (D, ad', ac, w, fl') M o = ent (D, ad, ac, w, fl) M o := by
  unfold ent
  have e1 : ∀ t, acO (D, ad', ac, w, fl') M o t = acO (D, ad, ac, w, fl) M o t := by
    intro t
    unfold acO
    split <;> first | rfl | (dsimp only; congr 4; funext i; rw [h _ (ar40 o i)])
  have e2 : (List.range (nfO o.1)).map (fvO (D, ad', ac, w, fl') M o) = (List.range (nfO o.1)).map (fvO (D, ad, ac, w, fl) M o) := by
    apply List.map_congr_left
    intro f hf
    have hf21 : f < 21 := Nat.lt_of_lt_of_le (List.mem_range.mp hf) (nf21 o.1)
    have h40 := fk40 o ho f hf21
    unfold fvO
    split <;> first | rfl | (rename_i e; rw [e] at h40; dsimp only; rw [h _ h40])
  rw [e1, e2]
theorem objs_two : objs true = objs false ++ [(40, 0, 0), (41, 0, 0)] := by decide +kernel
theorem wl_two {D : va_G} {ad ad' : Oid → Nat} {ac : Nat → ClassId} {w : Nat → Nat} {M : Mem} (h : ∀ o : Oid, o.1 < 40 → ad' o = ad o) (hk : ∀ o ∈ objs false, o.1 < 40) (z1 : M.2.1 (40, 0, 0) = fun _ => 0) (z2 : M.2.2 (41, 0, 0) = fun _ => 0) : (wl (D, ad, ac, w, false) M ++ [(ad' (40, 0, 0), aL ac 1)]) ++ [(ad' (41, 0, 0), aD ac 1)] = wl (D, ad', ac, w, true) M := by
  unfold wl
  dsimp only
  rw [objs_two, List.map_append, List.append_assoc]
  congr 1
  · apply List.map_congr_left
    intro o ho
    rw [ent_two h ho, h o (hk o ho)]
  · show _ = [(ad' (40, 0, 0), ent (D, ad', ac, w, true) M (40, 0, 0)), (ad' (41, 0, 0), ent (D, ad', ac, w, true) M (41, 0, 0))]
    have e1 : ent (D, ad', ac, w, true) M (40, 0, 0) = aL ac 1 := by
      show Sum.inl (ac 3, 1, Sum.inr (Sum.inl (fun i => M.2.1 (40, 0, 0) i))) = _
      rw [z1]
    have e2 : ent (D, ad', ac, w, true) M (41, 0, 0) = aD ac 1 := by
      show Sum.inl (ac 4, 1, Sum.inr (Sum.inr (Sum.inr (Sum.inl (fun i => M.2.2 (41, 0, 0) i))))) = _
      rw [z2]
    rw [e1, e2]
    rfl
theorem objs40 : ∀ o ∈ objs false, o.1 < 40 := by decide +kernel
theorem flags_ns {l : Launch} (h : l.flags = flags0) : l.stackTraces = false := by
  unfold Launch.stackTraces
  rw [h]
  decide +kernel
set_option maxHeartbeats 16000000 in
set_option maxRecDepth 100000 in
/-- the law's body from its entry -/
theorem law_go {D : va_G} {ac : Nat → ClassId} {w : Nat → Nat} {p : Program} {l : Launch} {e : Env} {s : State} {m : MethodId} {below : List Frame} {meth : Method} {c : Code} {b L : Nat} {xs : Nat → Int32} (hL : L ≤ 3072)
    (X : CK D ac w (AL s) p s m #[Value.ref b] meth c RL cL_law 9) (hlk : meth.locks = false) (hns : l.stackTraces = false) (hSX : SX s) (hZX : ZX (AL s) s s.heap) (Z : CxL (AL s) s b L xs) (hr : meth.sig.returnType = ret) :
    TK D (AL s) p l e room_1 s m #[Value.ref b] below meth c 9 0 0 (lw_Z below #[Value.ref b] s) 0 [(0, .ref b)] [] [] := by
  obtain ⟨M1, M2, h1, h2, hI, z1, z2⟩ := begin_M
  obtain ⟨M3, h3⟩ := LAW (xs := xs) hL 600 0 0 M2 hI (by first | decide | simp) (by first | decide | simp) (by first | decide | simp) (by omega)
  refine k_new (pc := 0) X (ci := 9) (C := RX11) (TT := TX11) (N := 5) rfl tyX11 tyX11_ok dfX11 kcl_L_8 kin_X11 kii_X11 ⟨Nat.le_of_ble_eq_true rfl, Nat.le_of_ble_eq_true rfl⟩ dL_law_0 (fun x => ?_)
  refine k_dup (pc := 3) X dL_law_3 rfl ?_
  refine k_init (pc := 4) X (mc := 185) (ms := 4252) (X0 := []) (wc := [(x, zSc)]) (As := []) kmy_X11 rfl kvi_X11 kml_L_114 rfl rfl ⟨Nat.le_of_ble_eq_true rfl, Nat.le_of_ble_eq_true rfl, Nat.le_of_ble_eq_true rfl, Nat.le_of_ble_eq_true rfl⟩ (fun sz => kc_X11) rfl rfl (Nat.le_of_ble_eq_true rfl) dL_law_4 (fun w1 hw => ?_)
  obtain ⟨bb, sv0, sv, pa, tk, qq, chs, trs, wns, hlen, hw⟩ := hw
  subst hw
  refine k_astore_n (pc := 7) X (by first | decide | simp) dL_law_7 ?_
  refine k_new (pc := 8) X (ci := 10) (C := RX12) (TT := TX12) (N := 21) rfl tyX12 tyX12_ok dfX12 kcl_L_115 kin_X12 kii_X12 ⟨Nat.le_of_ble_eq_true rfl, Nat.le_of_ble_eq_true rfl⟩ dL_law_8 (fun h => ?_)
  refine k_dup (pc := 11) X dL_law_11 rfl ?_
  refine TK_eq (ws' := [] ++ (csW ac w x bb sv0 sv pa tk qq chs trs wns ++ [(h, zMo)])) ?_ rfl
  refine k_init (pc := 12) X (mc := 9) (ms := 3478) (X0 := []) (wc := csW ac w x bb sv0 sv pa tk qq chs trs wns ++ [(h, zMo)]) (As := []) kmy_X12 rfl kvi_X12 kml_L_117 rfl rfl ⟨Nat.le_of_ble_eq_true rfl, Nat.le_of_ble_eq_true rfl, Nat.le_of_ble_eq_true rfl, Nat.le_of_ble_eq_true rfl⟩ (fun sz => kc_X12 (fun mq => cs_eq hlen) h1 h2) rfl rfl (Nat.le_of_ble_eq_true rfl) dL_law_12 (fun w1 hw => ?_)
  obtain ⟨mq, hm10, hw⟩ := hw
  subst hw
  refine k_astore_n (pc := 15) X (by first | decide | simp) dL_law_15 ?_
  refine k_iconst (pc := 16) X (v := 1) dL_law_16 (by first | decide | simp) ?_
  refine k_newa (pc := 17) X (atype := .long) (N' := 1) (a0 := (1, .inr (.inl (fun _ => 0)))) kac_L rfl 3 (by first | decide | simp) rfl (fun _ _ => rfl) (fun _ => rfl) (by first | decide | simp) (by first | decide | simp) (Nat.le_of_ble_eq_true rfl) ⟨Nat.le_of_ble_eq_true rfl, Nat.le_of_ble_eq_true rfl⟩ dL_law_17 (fun g40 => ?_)
  refine k_astore_n (pc := 19) X (by first | decide | simp) dL_law_19 ?_
  refine k_iconst (pc := 20) X (v := 1) dL_law_20 (by first | decide | simp) ?_
  refine k_newa (pc := 21) X (atype := .double) (N' := 1) (a0 := (1, .inr (.inr (.inr (.inl (fun _ => 0)))))) kac_D rfl 4 (by first | decide | simp) rfl (fun _ _ => rfl) (fun _ => rfl) (by first | decide | simp) (by first | decide | simp) (Nat.le_of_ble_eq_true rfl) ⟨Nat.le_of_ble_eq_true rfl, Nat.le_of_ble_eq_true rfl⟩ dL_law_21 (fun g41 => ?_)
  refine k_astore (pc := 23) X (by first | decide | simp) dL_law_23 ?_
  refine k_iconst (pc := 25) X (v := 0) dL_law_25 (by first | decide | simp) ?_
  refine k_istore (pc := 26) X (by first | decide | simp) dL_law_26 ?_
  have hpm : (([] ++ wl (D, adr x bb sv0 sv pa tk qq chs trs wns mq, ac, w, false) M2) ++ [(g40, aL ac 1)]) ++ [(g41, aD ac 1)] = wl (D, adr x bb sv0 sv pa tk qq chs trs wns (fun k => if k = 40 then g40 else if k = 41 then g41 else mq k), ac, w, true) M2 :=
    wl_two (ad' := adr x bb sv0 sv pa tk qq chs trs wns (fun k => if k = 40 then g40 else if k = 41 then g41 else mq k)) (fun o ho => by
      unfold adr
      split <;> first | rfl | (dsimp only; rw [if_neg (by omega), if_neg (by omega)])) objs40 z1 z2
  refine TK_T (G := (D, adr x bb sv0 sv pa tk qq chs trs wns (fun k => if k = 40 then g40 else if k = 41 then g41 else mq k), ac, w, true)) (M := M2) X hlk (hpm ▸ List.Perm.refl _) (fun Y => ?_)
  exact T_sub (t_L_law_28 Y ⟨hns, hSX, hZX, fun q hq => hq⟩ Z hr rfl 600 _ _ 0 M2 (Nat.le_of_ble_eq_true rfl) (Nat.le_of_ble_eq_true rfl) h3) (by subst hm10; exact ⟨rfl, rfl, rfl, rfl, rfl, rfl, trivial⟩)
/-- from the entry, for every script of at most 3072 ints, the law comes to its end with true -/
theorem whole_start {p : Program} {e : Env} {s : State} {m : MethodId} {below : List Frame} {meth : Method} {c : Code} (l : Launch) (hflags : l.flags = flags0) {b L : Nat} {xs : Nat → Int32} (hL : L ≤ 3072) (C0 : lw_At p s m meth c b L xs) : W p l e room_1 s m #[Value.ref b] below meth c s.heap [] 0 0 (lw_Z below #[Value.ref b] s) (entryFrame m ([Value.ref b] : List Value).toArray 9) := by
  obtain ⟨hx, hb, hr, hml, hown, hts, hX, hbl, hlk, hgv⟩ := C0
  have hn := fl_in hgv
  have hA : ∀ a : Nat, a < s.heap.size → ¬ AL s a := fun a h1 h2 => absurd h1 (Nat.not_lt.mpr h2)
  obtain ⟨w, hE⟩ := EN_start (A := AL s) hts hn hA
  obtain ⟨D, ac, hK⟩ := K_start hts
  have X : CK D ac w (AL s) p s m #[Value.ref b] meth c RL cL_law 9 := ⟨hx, hb, hml, hown, fun w hw => hts w (List.mem_filter.mp hw).1, fun q hq => hq, hK, hE, BW_start hts⟩
  have hl := lv_entry [Value.ref b] (n := 9) (Nat.le_of_ble_eq_true rfl)
  rw [lg_entry_eq]
  exact law_go hL X hlk (flags_ns hflags) (SX_start hts hn) (ZX_start hts hn hA) ⟨hX, hbl, hA b hbl⟩ hr s.heap [] _ va_S.rf (fun k q h => by simp at h) ⟨fun i j p q h => by simp at h, fun k q h => by simp at h⟩ hl
