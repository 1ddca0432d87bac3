set_option maxHeartbeats 4000000 in
set_option maxRecDepth 100000 in
theorem c_F_init (l : Launch) (dC : Nat → ClassId) (dI : Nat → Nat → Nat) (sz : Nat) (cI cZ : ClassId) (h : Nat) : Met l yF_init wF_init { frames := 1, cells := 4, slots := 140, locals := 12 } (rw_Pc (dC, dI) cls3 [(h, .inr (0, [.null, .null, .null, .null, .int 0]))] [(cI, .int), (cZ, .boolean)] sz [.ref h]) (va_Qv (fun _ : Unit => True) (fun _ t => ∃ pw ps po pk : Nat, va_P (dC, dI) cls3 [(h, .inr (0, [.ref pw, .ref ps, .ref po, .ref pk, .int (nI 0)])), (pw, .inl (cI, 6, .inl (fun _ => 0))), (ps, .inl (cZ, 6, .inl (fun _ => 0))), (po, .inl (cI, 64, .inl (fun _ => 0))), (pk, .inl (cI, 64, .inl (fun _ => 0)))] t.heap ∧ va_K (dC, dI) cls3 [(cI, .int), (cZ, .boolean)] t ∧ va_D (va_A [(h, .inr (0, [.null, .null, .null, .null, .int 0]))] sz) [(h, .inr (0, [.ref pw, .ref ps, .ref po, .ref pk, .int (nI 0)])), (pw, .inl (cI, 6, .inl (fun _ => 0))), (ps, .inl (cZ, 6, .inl (fun _ => 0))), (po, .inl (cI, 64, .inl (fun _ => 0))), (pk, .inl (cI, 64, .inl (fun _ => 0)))]) (va_A [(h, .inr (0, [.null, .null, .null, .null, .int 0]))] sz)) 4 140 (va_A [(h, .inr (0, [.null, .null, .null, .null, .int 0]))] sz) := by
  refine Met.ofW (cc := cF_init) (maxL := 1) (ret := none) (by decide) rfl ?_
  intro p e s m args below meth c s₁ B hml hv
  obtain ⟨rfl, hsz, hP, hK, hD0⟩ := hv
  have hx := B.exec
  have hb := B.bytes
  have hr := B.returns
  have hts := atoms_spec (ws := wF_init) B.pre
  have hw : ∀ w ∈ wA, w.before _ s = true := fun w h => hts w (List.mem_cons_of_mem _ h)
  have hown : s.vm.findClass RF = some m.cls := findClass_of_methodNamed B.named
  have hlocks := B.notSynchronized
  subst hsz
  have hD := hD0.self (sz := s.heap.size)
  generalize hAe : va_A [(h, .inr (0, [.null, .null, .null, .null, .int 0]))] s.heap.size = A at hD ⊢
  have hA : ∀ q : Nat, s.heap.size ≤ q → A q := fun q h => by rw [← hAe]; exact Or.inr h
  have hS : va_S A s.heap s.heap [] := va_S.rf
  have hl := lv_entry ([.ref h]) (n := 1) (Nat.le_of_ble_eq_true rfl)
  rw [lg_entry_eq]
  generalize (lg_sl ([.ref h]) ++ List.replicate (1 - (lg_sl ([.ref h])).length) Slot.unset).toArray = ls at hl ⊢
  have hl : lv_has ls 1 [(0, .ref h)] := hl
  have hin : meth.name = "<init>" := (name_of_methodNamed B.named B.method).1
  refine lv_aload_n hx hb dF_init_0 rfl (lv_at hl 0 rfl) ?_
  refine W.objInit hx hb hown (hw _ kw_38) (hw _ kw_30) (hw _ kw_31) rfl (by rw [hml]; exact hl.1) rfl dF_init_1 (Nat.le_of_ble_eq_true rfl) (Nat.le_of_ble_eq_true rfl) ?_
  refine W.eq (g2 := F0 m 4 ls []) rfl ?_
  refine lv_aload_n hx hb dF_init_4 rfl (lv_at hl 0 rfl) ?_
  refine lv_bipush (v := nI 6) hx hb dF_init_5 (by decide +kernel) ?_
  refine va_newa (atype := .int) (a0 := (6, .inl (fun _ => 0))) (N' := 6) (ty := .int) hx hb (hw _ kw_57) rfl hK hP hD hS hA (fun _ => rfl) (by decide +kernel) (nI_clamp (by omega)) (Nat.le_of_ble_eq_true rfl) (Nat.le_of_ble_eq_true rfl) (Nat.le_of_ble_eq_true rfl) dF_init_7 (fun q7 c7 H hK9 hP hD hS => ?_)
  obtain rfl : cI = c7 := Option.some.inj ((hK.2 0 _ rfl).2.symm.trans (hK9.2 2 _ rfl).2)
  have hP : va_P (dC, dI) cls3 [(h, .inr (0, [.null, .null, .null, .null, .int 0])), (q7, .inl (cI, 6, .inl (fun _ => 0)))] H := hP
  have hD : va_D A [(h, .inr (0, [.null, .null, .null, .null, .int 0])), (q7, .inl (cI, 6, .inl (fun _ => 0)))] := hD
  refine va_putF (D := (dC, dI)) (ci := 0) (v := .ref q7) (ty := .array .int) (C := RF) (T := TF) (N := 5) hx hb hw inF tF tF_ok nF hown hK hP hD hS 0 rfl rfl 0 (by decide) (hw _ kw_39) (fun _ h9 => h9) rfl hin rfl (by decide +kernel) rfl rfl (Nat.le_of_ble_eq_true rfl) dF_init_9 (fun H locs hP hD hS => ?_)
  have hP : va_P (dC, dI) cls3 [(h, .inr (0, [.ref q7, .null, .null, .null, .int 0])), (q7, .inl (cI, 6, .inl (fun _ => 0)))] H := hP
  have hD : va_D A [(h, .inr (0, [.ref q7, .null, .null, .null, .int 0])), (q7, .inl (cI, 6, .inl (fun _ => 0)))] := hD
  refine lv_aload_n hx hb dF_init_12 rfl (lv_at hl 0 rfl) ?_
  refine lv_bipush (v := nI 6) hx hb dF_init_13 (by decide +kernel) ?_
  refine va_newa (atype := .boolean) (a0 := (6, .inl (fun _ => 0))) (N' := 6) (ty := .boolean) hx hb (hw _ kw_58) rfl hK hP hD hS hA (fun _ => rfl) (by decide +kernel) (nI_clamp (by omega)) (Nat.le_of_ble_eq_true rfl) (Nat.le_of_ble_eq_true rfl) (Nat.le_of_ble_eq_true rfl) dF_init_15 (fun q15 c15 H hK9 hP hD hS => ?_)
  obtain rfl : cZ = c15 := Option.some.inj ((hK.2 1 _ rfl).2.symm.trans (hK9.2 2 _ rfl).2)
  have hP : va_P (dC, dI) cls3 [(h, .inr (0, [.ref q7, .null, .null, .null, .int 0])), (q7, .inl (cI, 6, .inl (fun _ => 0))), (q15, .inl (cZ, 6, .inl (fun _ => 0)))] H := hP
  have hD : va_D A [(h, .inr (0, [.ref q7, .null, .null, .null, .int 0])), (q7, .inl (cI, 6, .inl (fun _ => 0))), (q15, .inl (cZ, 6, .inl (fun _ => 0)))] := hD
  refine va_putF (D := (dC, dI)) (ci := 0) (v := .ref q15) (ty := .array .boolean) (C := RF) (T := TF) (N := 5) hx hb hw inF tF tF_ok nF hown hK hP hD hS 0 rfl rfl 1 (by decide) (hw _ kw_41) (fun _ h9 => h9) rfl hin rfl (by decide +kernel) rfl rfl (Nat.le_of_ble_eq_true rfl) dF_init_17 (fun H locs hP hD hS => ?_)
  have hP : va_P (dC, dI) cls3 [(h, .inr (0, [.ref q7, .ref q15, .null, .null, .int 0])), (q7, .inl (cI, 6, .inl (fun _ => 0))), (q15, .inl (cZ, 6, .inl (fun _ => 0)))] H := hP
  have hD : va_D A [(h, .inr (0, [.ref q7, .ref q15, .null, .null, .int 0])), (q7, .inl (cI, 6, .inl (fun _ => 0))), (q15, .inl (cZ, 6, .inl (fun _ => 0)))] := hD
  refine lv_aload_n hx hb dF_init_20 rfl (lv_at hl 0 rfl) ?_
  refine lv_bipush (v := nI 64) hx hb dF_init_21 (by decide +kernel) ?_
  refine va_newa (atype := .int) (a0 := (64, .inl (fun _ => 0))) (N' := 64) (ty := .int) hx hb (hw _ kw_57) rfl hK hP hD hS hA (fun _ => rfl) (by decide +kernel) (nI_clamp (by omega)) (Nat.le_of_ble_eq_true rfl) (Nat.le_of_ble_eq_true rfl) (Nat.le_of_ble_eq_true rfl) dF_init_23 (fun q23 c23 H hK9 hP hD hS => ?_)
  obtain rfl : cI = c23 := Option.some.inj ((hK.2 0 _ rfl).2.symm.trans (hK9.2 2 _ rfl).2)
  have hP : va_P (dC, dI) cls3 [(h, .inr (0, [.ref q7, .ref q15, .null, .null, .int 0])), (q7, .inl (cI, 6, .inl (fun _ => 0))), (q15, .inl (cZ, 6, .inl (fun _ => 0))), (q23, .inl (cI, 64, .inl (fun _ => 0)))] H := hP
  have hD : va_D A [(h, .inr (0, [.ref q7, .ref q15, .null, .null, .int 0])), (q7, .inl (cI, 6, .inl (fun _ => 0))), (q15, .inl (cZ, 6, .inl (fun _ => 0))), (q23, .inl (cI, 64, .inl (fun _ => 0)))] := hD
  refine va_putF (D := (dC, dI)) (ci := 0) (v := .ref q23) (ty := .array .int) (C := RF) (T := TF) (N := 5) hx hb hw inF tF tF_ok nF hown hK hP hD hS 0 rfl rfl 2 (by decide) (hw _ kw_42) (fun _ h9 => h9) rfl hin rfl (by decide +kernel) rfl rfl (Nat.le_of_ble_eq_true rfl) dF_init_25 (fun H locs hP hD hS => ?_)
  have hP : va_P (dC, dI) cls3 [(h, .inr (0, [.ref q7, .ref q15, .ref q23, .null, .int 0])), (q7, .inl (cI, 6, .inl (fun _ => 0))), (q15, .inl (cZ, 6, .inl (fun _ => 0))), (q23, .inl (cI, 64, .inl (fun _ => 0)))] H := hP
  have hD : va_D A [(h, .inr (0, [.ref q7, .ref q15, .ref q23, .null, .int 0])), (q7, .inl (cI, 6, .inl (fun _ => 0))), (q15, .inl (cZ, 6, .inl (fun _ => 0))), (q23, .inl (cI, 64, .inl (fun _ => 0)))] := hD
  refine lv_aload_n hx hb dF_init_28 rfl (lv_at hl 0 rfl) ?_
  refine lv_bipush (v := nI 64) hx hb dF_init_29 (by decide +kernel) ?_
  refine va_newa (atype := .int) (a0 := (64, .inl (fun _ => 0))) (N' := 64) (ty := .int) hx hb (hw _ kw_57) rfl hK hP hD hS hA (fun _ => rfl) (by decide +kernel) (nI_clamp (by omega)) (Nat.le_of_ble_eq_true rfl) (Nat.le_of_ble_eq_true rfl) (Nat.le_of_ble_eq_true rfl) dF_init_31 (fun q31 c31 H hK9 hP hD hS => ?_)
  obtain rfl : cI = c31 := Option.some.inj ((hK.2 0 _ rfl).2.symm.trans (hK9.2 2 _ rfl).2)
  have hP : va_P (dC, dI) cls3 [(h, .inr (0, [.ref q7, .ref q15, .ref q23, .null, .int 0])), (q7, .inl (cI, 6, .inl (fun _ => 0))), (q15, .inl (cZ, 6, .inl (fun _ => 0))), (q23, .inl (cI, 64, .inl (fun _ => 0))), (q31, .inl (cI, 64, .inl (fun _ => 0)))] H := hP
  have hD : va_D A [(h, .inr (0, [.ref q7, .ref q15, .ref q23, .null, .int 0])), (q7, .inl (cI, 6, .inl (fun _ => 0))), (q15, .inl (cZ, 6, .inl (fun _ => 0))), (q23, .inl (cI, 64, .inl (fun _ => 0))), (q31, .inl (cI, 64, .inl (fun _ => 0)))] := hD
  refine va_putF (D := (dC, dI)) (ci := 0) (v := .ref q31) (ty := .array .int) (C := RF) (T := TF) (N := 5) hx hb hw inF tF tF_ok nF hown hK hP hD hS 0 rfl rfl 3 (by decide) (hw _ kw_43) (fun _ h9 => h9) rfl hin rfl (by decide +kernel) rfl rfl (Nat.le_of_ble_eq_true rfl) dF_init_33 (fun H locs hP hD hS => ?_)
  have hP : va_P (dC, dI) cls3 [(h, .inr (0, [.ref q7, .ref q15, .ref q23, .ref q31, .int 0])), (q7, .inl (cI, 6, .inl (fun _ => 0))), (q15, .inl (cZ, 6, .inl (fun _ => 0))), (q23, .inl (cI, 64, .inl (fun _ => 0))), (q31, .inl (cI, 64, .inl (fun _ => 0)))] H := hP
  have hD : va_D A [(h, .inr (0, [.ref q7, .ref q15, .ref q23, .ref q31, .int 0])), (q7, .inl (cI, 6, .inl (fun _ => 0))), (q15, .inl (cZ, 6, .inl (fun _ => 0))), (q23, .inl (cI, 64, .inl (fun _ => 0))), (q31, .inl (cI, 64, .inl (fun _ => 0)))] := hD
  refine lv_aload_n hx hb dF_init_36 rfl (lv_at hl 0 rfl) ?_
  refine lv_iconst (v := nI 0) hx hb dF_init_37 (by decide +kernel) ?_
  refine va_put (D := (dC, dI)) (ci := 0) (v := .int (nI 0)) (ty := .int) (C := RF) (T := TF) (N := 5) hx hb hw inF tF tF_ok nF hown hK hP hD hS 0 rfl rfl 4 (by decide) (hw _ kw_44) (fun _ h9 => h9) rfl (by decide +kernel) rfl rfl (Nat.le_of_ble_eq_true rfl) dF_init_38 (fun H locs hP hD hS => ?_)
  have hP : va_P (dC, dI) cls3 [(h, .inr (0, [.ref q7, .ref q15, .ref q23, .ref q31, .int (nI 0)])), (q7, .inl (cI, 6, .inl (fun _ => 0))), (q15, .inl (cZ, 6, .inl (fun _ => 0))), (q23, .inl (cI, 64, .inl (fun _ => 0))), (q31, .inl (cI, 64, .inl (fun _ => 0)))] H := hP
  have hD : va_D A [(h, .inr (0, [.ref q7, .ref q15, .ref q23, .ref q31, .int (nI 0)])), (q7, .inl (cI, 6, .inl (fun _ => 0))), (q15, .inl (cZ, 6, .inl (fun _ => 0))), (q23, .inl (cI, 64, .inl (fun _ => 0))), (q31, .inl (cI, 64, .inl (fun _ => 0)))] := hD
  exact W.vret hx hb hr (fun t ht hW => ⟨⟨(), rfl, trivial, q7, q15, q23, q31, by rw [ht]; exact hP, va_K.moved hW.alike hK, hD⟩, hS.F ht⟩) hS.2.2 dF_init_41

set_option maxHeartbeats 4000000 in
set_option maxRecDepth 100000 in
theorem c_M_init (l : Launch) (dC : Nat → ClassId) (dI : Nat → Nat → Nat) (sz : Nat) (cI cZ cJ : ClassId) (hm : Nat) : Met l yM_init wM_init { frames := 1, cells := 5, slots := 622, locals := 12 } (rw_Pc (dC, dI) cls3 [(hm, .inr (2, [.int 0, .null, .null, .null, .null, .null]))] [(cI, .int), (cZ, .boolean), (cJ, .long)] sz [.ref hm]) (va_Qv (fun _ : Unit => True) (fun _ t => ∃ ml mw mb ms mn : Nat, va_P (dC, dI) cls3 [(hm, .inr (2, [.int 0, .ref ml, .ref mw, .ref mb, .ref ms, .ref mn])), (ml, .inl (cI, 8, .inl (fun _ => 0))), (mw, .inl (cI, 512, .inl (fun _ => 0))), (mb, .inl (cI, 48, .inl (fun _ => 0))), (ms, .inl (cZ, 48, .inl (fun _ => 0))), (mn, .inl (cJ, 6, .inr (.inl (fun _ => 0))))] t.heap ∧ va_K (dC, dI) cls3 [(cI, .int), (cZ, .boolean), (cJ, .long)] t ∧ va_D (va_A [(hm, .inr (2, [.int 0, .null, .null, .null, .null, .null]))] sz) [(hm, .inr (2, [.int 0, .ref ml, .ref mw, .ref mb, .ref ms, .ref mn])), (ml, .inl (cI, 8, .inl (fun _ => 0))), (mw, .inl (cI, 512, .inl (fun _ => 0))), (mb, .inl (cI, 48, .inl (fun _ => 0))), (ms, .inl (cZ, 48, .inl (fun _ => 0))), (mn, .inl (cJ, 6, .inr (.inl (fun _ => 0))))]) (va_A [(hm, .inr (2, [.int 0, .null, .null, .null, .null, .null]))] sz)) 5 622 (va_A [(hm, .inr (2, [.int 0, .null, .null, .null, .null, .null]))] sz) := by
  refine Met.ofW (cc := cM_init) (maxL := 1) (ret := none) (by decide) rfl ?_
  intro p e s m args below meth c s₁ B hml hv
  obtain ⟨rfl, hsz, hP, hK, hD0⟩ := hv
  have hx := B.exec
  have hb := B.bytes
  have hr := B.returns
  have hts := atoms_spec (ws := wM_init) B.pre
  have hw : ∀ w ∈ wA, w.before _ s = true := fun w h => hts w (List.mem_cons_of_mem _ h)
  have hown : s.vm.findClass RM = some m.cls := findClass_of_methodNamed B.named
  have hlocks := B.notSynchronized
  subst hsz
  have hD := hD0.self (sz := s.heap.size)
  generalize hAe : va_A [(hm, .inr (2, [.int 0, .null, .null, .null, .null, .null]))] s.heap.size = A at hD ⊢
  have hA : ∀ q : Nat, s.heap.size ≤ q → A q := fun q h => by rw [← hAe]; exact Or.inr h
  have hS : va_S A s.heap s.heap [] := va_S.rf
  have hl := lv_entry ([.ref hm]) (n := 1) (Nat.le_of_ble_eq_true rfl)
  rw [lg_entry_eq]
  generalize (lg_sl ([.ref hm]) ++ List.replicate (1 - (lg_sl ([.ref hm])).length) Slot.unset).toArray = ls at hl ⊢
  have hl : lv_has ls 1 [(0, .ref hm)] := hl
  have hin : meth.name = "<init>" := (name_of_methodNamed B.named B.method).1
  refine lv_aload_n hx hb dM_init_0 rfl (lv_at hl 0 rfl) ?_
  refine W.objInit hx hb hown (hw _ kw_385) (hw _ kw_30) (hw _ kw_31) rfl (by rw [hml]; exact hl.1) rfl dM_init_1 (Nat.le_of_ble_eq_true rfl) (Nat.le_of_ble_eq_true rfl) ?_
  refine W.eq (g2 := F0 m 4 ls []) rfl ?_
  refine lv_aload_n hx hb dM_init_4 rfl (lv_at hl 0 rfl) ?_
  refine lv_bipush (v := nI 8) hx hb dM_init_5 (by decide +kernel) ?_
  refine va_newa (atype := .int) (a0 := (8, .inl (fun _ => 0))) (N' := 8) (ty := .int) hx hb (hw _ kw_57) rfl hK hP hD hS hA (fun _ => rfl) (by decide +kernel) (nI_clamp (by omega)) (Nat.le_of_ble_eq_true rfl) (Nat.le_of_ble_eq_true rfl) (Nat.le_of_ble_eq_true rfl) dM_init_7 (fun q7 c7 H hK9 hP hD hS => ?_)
  obtain rfl : cI = c7 := Option.some.inj ((hK.2 0 _ rfl).2.symm.trans (hK9.2 3 _ rfl).2)
  have hP : va_P (dC, dI) cls3 [(hm, .inr (2, [.int 0, .null, .null, .null, .null, .null])), (q7, .inl (cI, 8, .inl (fun _ => 0)))] H := hP
  have hD : va_D A [(hm, .inr (2, [.int 0, .null, .null, .null, .null, .null])), (q7, .inl (cI, 8, .inl (fun _ => 0)))] := hD
  refine va_putF (D := (dC, dI)) (ci := 2) (v := .ref q7) (ty := .array .int) (C := RM) (T := TM) (N := 6) hx hb hw inM tM tM_ok nM hown hK hP hD hS 0 rfl rfl 1 (by decide) (hw _ kw_387) (fun _ h9 => h9) rfl hin rfl (by decide +kernel) rfl rfl (Nat.le_of_ble_eq_true rfl) dM_init_9 (fun H locs hP hD hS => ?_)
  have hP : va_P (dC, dI) cls3 [(hm, .inr (2, [.int 0, .ref q7, .null, .null, .null, .null])), (q7, .inl (cI, 8, .inl (fun _ => 0)))] H := hP
  have hD : va_D A [(hm, .inr (2, [.int 0, .ref q7, .null, .null, .null, .null])), (q7, .inl (cI, 8, .inl (fun _ => 0)))] := hD
  refine lv_aload_n hx hb dM_init_12 rfl (lv_at hl 0 rfl) ?_
  refine lv_sipush (v := nI 512) hx hb dM_init_13 (by decide +kernel) ?_
  refine va_newa (atype := .int) (a0 := (512, .inl (fun _ => 0))) (N' := 512) (ty := .int) hx hb (hw _ kw_57) rfl hK hP hD hS hA (fun _ => rfl) (by decide +kernel) (nI_clamp (by omega)) (Nat.le_of_ble_eq_true rfl) (Nat.le_of_ble_eq_true rfl) (Nat.le_of_ble_eq_true rfl) dM_init_16 (fun q16 c16 H hK9 hP hD hS => ?_)
  obtain rfl : cI = c16 := Option.some.inj ((hK.2 0 _ rfl).2.symm.trans (hK9.2 3 _ rfl).2)
  have hP : va_P (dC, dI) cls3 [(hm, .inr (2, [.int 0, .ref q7, .null, .null, .null, .null])), (q7, .inl (cI, 8, .inl (fun _ => 0))), (q16, .inl (cI, 512, .inl (fun _ => 0)))] H := hP
  have hD : va_D A [(hm, .inr (2, [.int 0, .ref q7, .null, .null, .null, .null])), (q7, .inl (cI, 8, .inl (fun _ => 0))), (q16, .inl (cI, 512, .inl (fun _ => 0)))] := hD
  refine va_putF (D := (dC, dI)) (ci := 2) (v := .ref q16) (ty := .array .int) (C := RM) (T := TM) (N := 6) hx hb hw inM tM tM_ok nM hown hK hP hD hS 0 rfl rfl 2 (by decide) (hw _ kw_388) (fun _ h9 => h9) rfl hin rfl (by decide +kernel) rfl rfl (Nat.le_of_ble_eq_true rfl) dM_init_18 (fun H locs hP hD hS => ?_)
  have hP : va_P (dC, dI) cls3 [(hm, .inr (2, [.int 0, .ref q7, .ref q16, .null, .null, .null])), (q7, .inl (cI, 8, .inl (fun _ => 0))), (q16, .inl (cI, 512, .inl (fun _ => 0)))] H := hP
  have hD : va_D A [(hm, .inr (2, [.int 0, .ref q7, .ref q16, .null, .null, .null])), (q7, .inl (cI, 8, .inl (fun _ => 0))), (q16, .inl (cI, 512, .inl (fun _ => 0)))] := hD
  refine lv_aload_n hx hb dM_init_21 rfl (lv_at hl 0 rfl) ?_
  refine lv_bipush (v := nI 48) hx hb dM_init_22 (by decide +kernel) ?_
  refine va_newa (atype := .int) (a0 := (48, .inl (fun _ => 0))) (N' := 48) (ty := .int) hx hb (hw _ kw_57) rfl hK hP hD hS hA (fun _ => rfl) (by decide +kernel) (nI_clamp (by omega)) (Nat.le_of_ble_eq_true rfl) (Nat.le_of_ble_eq_true rfl) (Nat.le_of_ble_eq_true rfl) dM_init_24 (fun q24 c24 H hK9 hP hD hS => ?_)
  obtain rfl : cI = c24 := Option.some.inj ((hK.2 0 _ rfl).2.symm.trans (hK9.2 3 _ rfl).2)
  have hP : va_P (dC, dI) cls3 [(hm, .inr (2, [.int 0, .ref q7, .ref q16, .null, .null, .null])), (q7, .inl (cI, 8, .inl (fun _ => 0))), (q16, .inl (cI, 512, .inl (fun _ => 0))), (q24, .inl (cI, 48, .inl (fun _ => 0)))] H := hP
  have hD : va_D A [(hm, .inr (2, [.int 0, .ref q7, .ref q16, .null, .null, .null])), (q7, .inl (cI, 8, .inl (fun _ => 0))), (q16, .inl (cI, 512, .inl (fun _ => 0))), (q24, .inl (cI, 48, .inl (fun _ => 0)))] := hD
  refine va_putF (D := (dC, dI)) (ci := 2) (v := .ref q24) (ty := .array .int) (C := RM) (T := TM) (N := 6) hx hb hw inM tM tM_ok nM hown hK hP hD hS 0 rfl rfl 3 (by decide) (hw _ kw_389) (fun _ h9 => h9) rfl hin rfl (by decide +kernel) rfl rfl (Nat.le_of_ble_eq_true rfl) dM_init_26 (fun H locs hP hD hS => ?_)
  have hP : va_P (dC, dI) cls3 [(hm, .inr (2, [.int 0, .ref q7, .ref q16, .ref q24, .null, .null])), (q7, .inl (cI, 8, .inl (fun _ => 0))), (q16, .inl (cI, 512, .inl (fun _ => 0))), (q24, .inl (cI, 48, .inl (fun _ => 0)))] H := hP
  have hD : va_D A [(hm, .inr (2, [.int 0, .ref q7, .ref q16, .ref q24, .null, .null])), (q7, .inl (cI, 8, .inl (fun _ => 0))), (q16, .inl (cI, 512, .inl (fun _ => 0))), (q24, .inl (cI, 48, .inl (fun _ => 0)))] := hD
  refine lv_aload_n hx hb dM_init_29 rfl (lv_at hl 0 rfl) ?_
  refine lv_bipush (v := nI 48) hx hb dM_init_30 (by decide +kernel) ?_
  refine va_newa (atype := .boolean) (a0 := (48, .inl (fun _ => 0))) (N' := 48) (ty := .boolean) hx hb (hw _ kw_58) rfl hK hP hD hS hA (fun _ => rfl) (by decide +kernel) (nI_clamp (by omega)) (Nat.le_of_ble_eq_true rfl) (Nat.le_of_ble_eq_true rfl) (Nat.le_of_ble_eq_true rfl) dM_init_32 (fun q32 c32 H hK9 hP hD hS => ?_)
  obtain rfl : cZ = c32 := Option.some.inj ((hK.2 1 _ rfl).2.symm.trans (hK9.2 3 _ rfl).2)
  have hP : va_P (dC, dI) cls3 [(hm, .inr (2, [.int 0, .ref q7, .ref q16, .ref q24, .null, .null])), (q7, .inl (cI, 8, .inl (fun _ => 0))), (q16, .inl (cI, 512, .inl (fun _ => 0))), (q24, .inl (cI, 48, .inl (fun _ => 0))), (q32, .inl (cZ, 48, .inl (fun _ => 0)))] H := hP
  have hD : va_D A [(hm, .inr (2, [.int 0, .ref q7, .ref q16, .ref q24, .null, .null])), (q7, .inl (cI, 8, .inl (fun _ => 0))), (q16, .inl (cI, 512, .inl (fun _ => 0))), (q24, .inl (cI, 48, .inl (fun _ => 0))), (q32, .inl (cZ, 48, .inl (fun _ => 0)))] := hD
  refine va_putF (D := (dC, dI)) (ci := 2) (v := .ref q32) (ty := .array .boolean) (C := RM) (T := TM) (N := 6) hx hb hw inM tM tM_ok nM hown hK hP hD hS 0 rfl rfl 4 (by decide) (hw _ kw_390) (fun _ h9 => h9) rfl hin rfl (by decide +kernel) rfl rfl (Nat.le_of_ble_eq_true rfl) dM_init_34 (fun H locs hP hD hS => ?_)
  have hP : va_P (dC, dI) cls3 [(hm, .inr (2, [.int 0, .ref q7, .ref q16, .ref q24, .ref q32, .null])), (q7, .inl (cI, 8, .inl (fun _ => 0))), (q16, .inl (cI, 512, .inl (fun _ => 0))), (q24, .inl (cI, 48, .inl (fun _ => 0))), (q32, .inl (cZ, 48, .inl (fun _ => 0)))] H := hP
  have hD : va_D A [(hm, .inr (2, [.int 0, .ref q7, .ref q16, .ref q24, .ref q32, .null])), (q7, .inl (cI, 8, .inl (fun _ => 0))), (q16, .inl (cI, 512, .inl (fun _ => 0))), (q24, .inl (cI, 48, .inl (fun _ => 0))), (q32, .inl (cZ, 48, .inl (fun _ => 0)))] := hD
  refine lv_aload_n hx hb dM_init_37 rfl (lv_at hl 0 rfl) ?_
  refine lv_bipush (v := nI 6) hx hb dM_init_38 (by decide +kernel) ?_
  refine va_newa (atype := .long) (a0 := (6, .inr (.inl (fun _ => 0)))) (N' := 6) (ty := .long) hx hb (hw _ kw_66) rfl hK hP hD hS hA (fun _ => rfl) (by decide +kernel) (nI_clamp (by omega)) (Nat.le_of_ble_eq_true rfl) (Nat.le_of_ble_eq_true rfl) (Nat.le_of_ble_eq_true rfl) dM_init_40 (fun q40 c40 H hK9 hP hD hS => ?_)
  obtain rfl : cJ = c40 := Option.some.inj ((hK.2 2 _ rfl).2.symm.trans (hK9.2 3 _ rfl).2)
  have hP : va_P (dC, dI) cls3 [(hm, .inr (2, [.int 0, .ref q7, .ref q16, .ref q24, .ref q32, .null])), (q7, .inl (cI, 8, .inl (fun _ => 0))), (q16, .inl (cI, 512, .inl (fun _ => 0))), (q24, .inl (cI, 48, .inl (fun _ => 0))), (q32, .inl (cZ, 48, .inl (fun _ => 0))), (q40, .inl (cJ, 6, .inr (.inl (fun _ => 0))))] H := hP
  have hD : va_D A [(hm, .inr (2, [.int 0, .ref q7, .ref q16, .ref q24, .ref q32, .null])), (q7, .inl (cI, 8, .inl (fun _ => 0))), (q16, .inl (cI, 512, .inl (fun _ => 0))), (q24, .inl (cI, 48, .inl (fun _ => 0))), (q32, .inl (cZ, 48, .inl (fun _ => 0))), (q40, .inl (cJ, 6, .inr (.inl (fun _ => 0))))] := hD
  refine va_putF (D := (dC, dI)) (ci := 2) (v := .ref q40) (ty := .array .long) (C := RM) (T := TM) (N := 6) hx hb hw inM tM tM_ok nM hown hK hP hD hS 0 rfl rfl 5 (by decide) (hw _ kw_391) (fun _ h9 => h9) rfl hin rfl (by decide +kernel) rfl rfl (Nat.le_of_ble_eq_true rfl) dM_init_42 (fun H locs hP hD hS => ?_)
  have hP : va_P (dC, dI) cls3 [(hm, .inr (2, [.int 0, .ref q7, .ref q16, .ref q24, .ref q32, .ref q40])), (q7, .inl (cI, 8, .inl (fun _ => 0))), (q16, .inl (cI, 512, .inl (fun _ => 0))), (q24, .inl (cI, 48, .inl (fun _ => 0))), (q32, .inl (cZ, 48, .inl (fun _ => 0))), (q40, .inl (cJ, 6, .inr (.inl (fun _ => 0))))] H := hP
  have hD : va_D A [(hm, .inr (2, [.int 0, .ref q7, .ref q16, .ref q24, .ref q32, .ref q40])), (q7, .inl (cI, 8, .inl (fun _ => 0))), (q16, .inl (cI, 512, .inl (fun _ => 0))), (q24, .inl (cI, 48, .inl (fun _ => 0))), (q32, .inl (cZ, 48, .inl (fun _ => 0))), (q40, .inl (cJ, 6, .inr (.inl (fun _ => 0))))] := hD
  exact W.vret hx hb hr (fun t ht hW => ⟨⟨(), rfl, trivial, q7, q16, q24, q32, q40, by rw [ht]; exact hP, va_K.moved hW.alike hK, hD⟩, hS.F ht⟩) hS.2.2 dM_init_45
