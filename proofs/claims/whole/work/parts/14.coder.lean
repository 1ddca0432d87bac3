theorem isF_nlt {x : Int32} (h1 : ¬ x < 0) (h2 : x < nI 8) : isF x = true := by
  have a1 : 0 ≤ x.toInt := by simpa using Int32.le_iff_toInt_le.mp (Int32.not_lt.mp h1)
  have a2 := Int32.lt_iff_toInt_lt.mp h2
  rw [nI_toInt (by decide)] at a2
  exact decide_eq_true (by omega)
theorem isO_nlt {x : Int32} (h1 : ¬ x < 0) (h2 : x < nI 6) : isO x = true := by
  have a1 : 0 ≤ x.toInt := by simpa using Int32.le_iff_toInt_le.mp (Int32.not_lt.mp h1)
  have a2 := Int32.lt_iff_toInt_lt.mp h2
  rw [nI_toInt (by decide)] at a2
  exact decide_eq_true (by omega)
theorem isB_nlt {x : Int32} (h1 : ¬ x < nI 1) (h2 : x ≤ nI 64) : isB x = true := by
  have a1 := Int32.le_iff_toInt_le.mp (Int32.not_lt.mp h1)
  have a2 := Int32.le_iff_toInt_le.mp h2
  rw [nI_toInt (by decide)] at a1 a2
  exact decide_eq_true (by omega)
set_option maxHeartbeats 4000000 in
set_option maxRecDepth 100000 in
theorem c_X_formAt (l : Launch) (dC : Nat → ClassId) (dI : Nat → Nat → Nat) (sa : Nat → Nat) (cR : ClassId) (ax hfm hq : Nat) (fa : Nat → Option Nat) (f h : Nat) (hf : f < 8) (hfa : fa f = some h) : Met l yX_formAt wX_formAt { frames := 0, cells := 0, slots := 0, locals := 0 } (xo_Pc sa (dC, dI) cls3 [(ax, .inr (1, [.ref hfm, .ref hq])), (hfm, .inl (cR, 8, .inr (.inr (.inr (.inr fa)))))] [(cR, .object "SliceCoder$Form")] [.ref ax, .int (nI f)]) (va_Sr (fun r => r = h) Value.ref) 0 0 (fun _ => False) := by
  refine Met.ofW (cc := cX_formAt) (maxL := 2) (ret := (some (.object "SliceCoder$Form"))) (by decide) rfl ?_
  intro p e s m args below meth c s₁ B hml hv
  obtain ⟨rfl, hP, hK, hV, hZ⟩ := hv
  have hx := B.exec
  have hb := B.bytes
  have hr := B.returns
  have hts := atoms_spec (ws := wX_formAt) B.pre
  have hw : ∀ w ∈ wA, w.before _ s = true := fun w h => hts w (List.mem_cons_of_mem _ h)
  have hown : s.vm.findClass RX = some m.cls := findClass_of_methodNamed B.named
  have hlocks := B.notSynchronized
  have hl := lv_entry ([.ref ax, .int (nI f)]) (n := 2) (Nat.le_of_ble_eq_true rfl)
  rw [lg_entry_eq]
  generalize (lg_sl ([.ref ax, .int (nI f)]) ++ List.replicate (2 - (lg_sl ([.ref ax, .int (nI f)])).length) Slot.unset).toArray = ls at hl ⊢
  have hl : lv_has ls 2 [(0, .ref ax), (1, .int (nI f))] := hl
  refine lv_iload_n hx hb dX_formAt_0 rfl (lv_at hl 1 rfl) ?_
  refine lv_if_lt (tgt := 10) hx hb dX_formAt_1 (by decide) (fun h1 => ?_) (fun h1 => ?_)
  · exfalso
    exact nI_lt0 (by omega) h1
  · refine lv_iload_n hx hb dX_formAt_4 rfl (lv_at hl 1 rfl) ?_
    refine lv_bipush (v := nI 8) hx hb dX_formAt_5 (by decide +kernel) ?_
    refine lv_icmp_lt (tgt := 20) hx hb dX_formAt_7 (by decide) (fun h7 => ?_) (fun h7 => ?_)
    · refine lv_aload_n hx hb dX_formAt_20 rfl (lv_at hl 0 rfl) ?_
      refine va_get (D := (dC, dI)) (ci := 1) (v := .ref hfm) (C := RX) (T := TX) (N := 2) hx hb hw inX hown hK hP 0 rfl rfl 0 (by decide) (hw _ kw_59) (fun _ h9 => h9) rfl dX_formAt_21 ?_
      refine lv_iload_n hx hb dX_formAt_24 rfl (lv_at hl 1 rfl) ?_
      refine va_aldq hx hb hK hP 1 0 rfl rfl (vp_in_nI (by omega) (by decide)) dX_formAt_25 ?_
      refine cw_topr (by rw [nI_clamp (by omega), hfa, va_rf]) ?_
      exact W.aret hx hb hr (Or.inl ⟨_, rfl⟩) (Or.inr ⟨_, rfl⟩) (fun t ht hW => ⟨_, rfl, (rfl), ht⟩) (fun q h => nomatch h) dX_formAt_26
    · exfalso
      exact h7 (nI_lt (by omega) (by omega))

set_option maxHeartbeats 4000000 in
set_option maxRecDepth 100000 in
theorem c_X_checkOperandIndex (l : Launch) (o : Nat) (ho : o < 6) : Met l yX_checkOperandIndex wX_checkOperandIndex { frames := 0, cells := 0, slots := 0, locals := 0 } (fun av9 _ => av9 = ([.int (nI o)] : List Value).toArray) (va_Sv (fun _ => True)) 0 0 (fun _ => False) := by
  refine Met.ofW (cc := cX_checkOperandIndex) (maxL := 1) (ret := none) (by decide) rfl ?_
  intro p e s m args below meth c s₁ B hml hv
  obtain rfl := hv
  have hx := B.exec
  have hb := B.bytes
  have hr := B.returns
  have hts := atoms_spec (ws := wX_checkOperandIndex) B.pre
  have hw : ∀ w ∈ wA, w.before _ s = true := fun w h => hts w (List.mem_cons_of_mem _ h)
  have hown : s.vm.findClass RX = some m.cls := findClass_of_methodNamed B.named
  have hlocks := B.notSynchronized
  have hl := lv_entry ([.int (nI o)]) (n := 1) (Nat.le_of_ble_eq_true rfl)
  rw [lg_entry_eq]
  generalize (lg_sl ([.int (nI o)]) ++ List.replicate (1 - (lg_sl ([.int (nI o)])).length) Slot.unset).toArray = ls at hl ⊢
  have hl : lv_has ls 1 [(0, .int (nI o))] := hl
  refine lv_iload_n hx hb dX_checkOperandIndex_0 rfl (lv_at hl 0 rfl) ?_
  refine lv_if_lt (tgt := 10) hx hb dX_checkOperandIndex_1 (by decide) (fun h1 => ?_) (fun h1 => ?_)
  · exfalso
    exact nI_lt0 (by omega) h1
  · refine lv_iload_n hx hb dX_checkOperandIndex_4 rfl (lv_at hl 0 rfl) ?_
    refine lv_bipush (v := nI 6) hx hb dX_checkOperandIndex_5 (by decide +kernel) ?_
    refine lv_icmp_lt (tgt := 20) hx hb dX_checkOperandIndex_7 (by decide) (fun h7 => ?_) (fun h7 => ?_)
    · exact W.vret hx hb hr (fun t ht hW => ⟨rfl, trivial, ht⟩) (fun q h => nomatch h) dX_checkOperandIndex_20
    · exfalso
      exact h7 (nI_lt (by omega) (by omega))

set_option maxHeartbeats 4000000 in
set_option maxRecDepth 100000 in
theorem c_X_checkBitCount (l : Launch) (k : Nat) (hk : 1 ≤ k ∧ k ≤ 64) : Met l yX_checkBitCount wX_checkBitCount { frames := 0, cells := 0, slots := 0, locals := 0 } (fun av9 _ => av9 = ([.int (nI k)] : List Value).toArray) (va_Sv (fun _ => True)) 0 0 (fun _ => False) := by
  refine Met.ofW (cc := cX_checkBitCount) (maxL := 1) (ret := none) (by decide) rfl ?_
  intro p e s m args below meth c s₁ B hml hv
  obtain rfl := hv
  have hx := B.exec
  have hb := B.bytes
  have hr := B.returns
  have hts := atoms_spec (ws := wX_checkBitCount) B.pre
  have hw : ∀ w ∈ wA, w.before _ s = true := fun w h => hts w (List.mem_cons_of_mem _ h)
  have hown : s.vm.findClass RX = some m.cls := findClass_of_methodNamed B.named
  have hlocks := B.notSynchronized
  have hl := lv_entry ([.int (nI k)]) (n := 1) (Nat.le_of_ble_eq_true rfl)
  rw [lg_entry_eq]
  generalize (lg_sl ([.int (nI k)]) ++ List.replicate (1 - (lg_sl ([.int (nI k)])).length) Slot.unset).toArray = ls at hl ⊢
  have hl : lv_has ls 1 [(0, .int (nI k))] := hl
  refine lv_iload_n hx hb dX_checkBitCount_0 rfl (lv_at hl 0 rfl) ?_
  refine lv_iconst (v := nI 1) hx hb dX_checkBitCount_1 (by decide +kernel) ?_
  refine lv_icmp_lt (tgt := 11) hx hb dX_checkBitCount_2 (by decide) (fun h2 => ?_) (fun h2 => ?_)
  · exfalso
    rw [nI_ltI (by omega) (by omega)] at h2; omega
  · refine lv_iload_n hx hb dX_checkBitCount_5 rfl (lv_at hl 0 rfl) ?_
    refine lv_bipush (v := nI 64) hx hb dX_checkBitCount_6 (by decide +kernel) ?_
    refine lv_icmp_le (tgt := 21) hx hb dX_checkBitCount_8 (by decide) (fun h8 => ?_) (fun h8 => ?_)
    · exact W.vret hx hb hr (fun t ht hW => ⟨rfl, trivial, ht⟩) (fun q h => nomatch h) dX_checkBitCount_21
    · exfalso
      exact h8 (nI_le (by omega) (by omega))

set_option maxHeartbeats 4000000 in
set_option maxRecDepth 100000 in
theorem c_X_checkRoom (l : Launch) (dC : Nat → ClassId) (dI : Nat → Nat → Nat) (sa : Nat → Nat) (cI cZ : ClassId) (h pw ps po pk n : Nat) (wd sg ow co : Nat → Int32) (it w : Nat → Nat) (sb : Nat → Bool) (hF : fR n it w sb wd sg ow co) (k : Nat) (hk : n + k ≤ 64) : Met l yX_checkRoom wX_checkRoom { frames := 0, cells := 0, slots := 0, locals := 0 } (xo_Pc sa (dC, dI) cls3 [(h, .inr (0, [.ref pw, .ref ps, .ref po, .ref pk, .int (nI n)])), (pw, .inl (cI, 6, .inl wd)), (ps, .inl (cZ, 6, .inl sg)), (po, .inl (cI, 64, .inl ow)), (pk, .inl (cI, 64, .inl co))] [(cI, .int), (cZ, .boolean)] [.ref h, .int (nI k)]) (va_Sv (fun _ => True)) 0 0 (fun _ => False) := by
  refine Met.ofW (cc := cX_checkRoom) (maxL := 2) (ret := none) (by decide) rfl ?_
  intro p e s m args below meth c s₁ B hml hv
  obtain ⟨rfl, hP, hK, hV, hZ⟩ := hv
  have hx := B.exec
  have hb := B.bytes
  have hr := B.returns
  have hts := atoms_spec (ws := wX_checkRoom) B.pre
  have hw : ∀ w ∈ wA, w.before _ s = true := fun w h => hts w (List.mem_cons_of_mem _ h)
  have hown : s.vm.findClass RX = some m.cls := findClass_of_methodNamed B.named
  have hlocks := B.notSynchronized
  have hl := lv_entry ([.ref h, .int (nI k)]) (n := 2) (Nat.le_of_ble_eq_true rfl)
  rw [lg_entry_eq]
  generalize (lg_sl ([.ref h, .int (nI k)]) ++ List.replicate (2 - (lg_sl ([.ref h, .int (nI k)])).length) Slot.unset).toArray = ls at hl ⊢
  have hl : lv_has ls 2 [(0, .ref h), (1, .int (nI k))] := hl
  have hN_widths : ∀ A9, (Cond.fieldLinkNest "SliceCoder" 70 "SliceCoder$Form" "widths" "[I" "SliceCoder").before A9 s = true := fun A9 => va_Nw.use (by rfl) (hV.1 _ (by decide +kernel))
  have hN_length : ∀ A9, (Cond.fieldLinkNest "SliceCoder" 57 "SliceCoder$Form" "length" "I" "SliceCoder").before A9 s = true := fun A9 => va_Nw.use (by rfl) (hV.1 _ (by decide +kernel))
  have hn : n ≤ 64 := hF.1.1
  have hwd := hF.2.1
  have hsg := hF.2.2.1
  have hoc := hF.2.2.2
  have hit := cw_it hF.1
  have hw64 := hF.1.2.1
  refine lv_iload_n hx hb dX_checkRoom_0 rfl (lv_at hl 1 rfl) ?_
  refine lv_bipush (v := nI 64) hx hb dX_checkRoom_1 (by decide +kernel) ?_
  refine lv_aload_n hx hb dX_checkRoom_3 rfl (lv_at hl 0 rfl) ?_
  refine va_getN (D := (dC, dI)) (ci := 0) (v := .int (nI n)) (C := RF) (T := TF) (N := 5) hx hb hw inF hown hK hP 0 rfl rfl 4 (by decide) (hN_length _) (fun _ h9 => h9) rfl dX_checkRoom_4 ?_
  refine lv_isub hx hb dX_checkRoom_7 ?_
  refine lv_topi (fun v7 e7 => ?_)
  obtain rfl : v7 = nI (64 - n) := e7.trans (pk_sub (by omega))
  refine lv_icmp_le (tgt := 21) hx hb dX_checkRoom_8 (by decide) (fun h8 => ?_) (fun h8 => ?_)
  · exact W.vret hx hb hr (fun t ht hW => ⟨rfl, trivial, ht⟩) (fun q h => nomatch h) dX_checkRoom_21
  · exfalso
    exact h8 (nI_le (by omega) (by omega))

set_option maxHeartbeats 4000000 in
set_option maxRecDepth 100000 in
theorem c_X_checkWhole (l : Launch) (dC : Nat → ClassId) (dI : Nat → Nat → Nat) (sa : Nat → Nat) (cI cZ : ClassId) (h pw ps po pk n : Nat) (wd sg ow co : Nat → Int32) (it w : Nat → Nat) (sb : Nat → Bool) (hF : fR n it w sb wd sg ow co) (hwh : cw_lft it n w 6 = 0) : Met l yX_checkWhole wX_checkWhole { frames := 3, cells := 0, slots := 0, locals := 64 } (xo_Pc sa (dC, dI) cls3 [(h, .inr (0, [.ref pw, .ref ps, .ref po, .ref pk, .int (nI n)])), (pw, .inl (cI, 6, .inl wd)), (ps, .inl (cZ, 6, .inl sg)), (po, .inl (cI, 64, .inl ow)), (pk, .inl (cI, 64, .inl co))] [(cI, .int), (cZ, .boolean)] [.ref h]) (va_Sv (fun _ => True)) 0 0 (fun _ => False) := by
  refine Met.ofW (cc := cX_checkWhole) (maxL := 1) (ret := none) (by decide) rfl ?_
  intro p e s m args below meth c s₁ B hml hv
  obtain ⟨rfl, hP, hK, hV, hZ⟩ := hv
  have hx := B.exec
  have hb := B.bytes
  have hr := B.returns
  have hts := atoms_spec (ws := wX_checkWhole) B.pre
  have hw : ∀ w ∈ wA, w.before _ s = true := fun w h => hts w (List.mem_cons_of_mem _ h)
  have hown : s.vm.findClass RX = some m.cls := findClass_of_methodNamed B.named
  have hlocks := B.notSynchronized
  have hl := lv_entry ([.ref h]) (n := 1) (Nat.le_of_ble_eq_true rfl)
  rw [lg_entry_eq]
  generalize (lg_sl ([.ref h]) ++ List.replicate (1 - (lg_sl ([.ref h])).length) Slot.unset).toArray = ls at hl ⊢
  have hl : lv_has ls 1 [(0, .ref h)] := hl
  refine lv_aload_n hx hb dX_checkWhole_0 rfl (lv_at hl 0 rfl) ?_
  refine vp_callSi (W.runV (As := []) (rest := []) ⟨hx, hb, hml, hown, hw⟩ (c_F_isWhole l dC dI cI cZ h pw ps po pk n wd sg ow co it w sb hF) (cwV 0 hw (gV kw_260 kw_261 kw_262 kw_15 kw_263) rfl rfl rfl (by decide +kernel) ⟨Nat.le_of_ble_eq_true rfl, Nat.le_of_ble_eq_true rfl⟩) (ro_preV (q0 := 0) hK hP rfl rfl) rfl rfl hl.1 rfl (lv_room (Nat.le_of_ble_eq_true rfl)) dX_checkWhole_1 ⟨Nat.zero_le _, Nat.zero_le _⟩) (fun v1 e1 => ?_)
  obtain rfl : v1 = nI 1 := e1.trans (by rw [hwh]; rfl)
  refine lv_if_ne (tgt := 17) hx hb dX_checkWhole_4 (by decide) (fun h4 => ?_) (fun h4 => ?_)
  · exact W.vret hx hb hr (fun t ht hW => ⟨rfl, trivial, ht⟩) (fun q h => nomatch h) dX_checkWhole_17
  · exfalso
    first | exact h4 (by decide +kernel) | exact absurd h4 (by decide +kernel)

set_option maxHeartbeats 4000000 in
set_option maxRecDepth 100000 in
theorem c_X_formWith (l : Launch) (dC : Nat → ClassId) (dI : Nat → Nat → Nat) (sa : Nat → Nat) (cR : ClassId) (ax hfm hq : Nat) (fa : Nat → Option Nat) (cI cZ : ClassId) (h pw ps po pk n : Nat) (wd sg ow co : Nat → Int32) (it w : Nat → Nat) (sb : Nat → Bool) (hF : fR n it w sb wd sg ow co) (f : Nat) (hf : f < 8) (hfa : fa f = some h) (o : Nat) (ho : o < 6) (hw1 : 0 < w o) : Met l yX_formWith wX_formWith { frames := 1, cells := 0, slots := 0, locals := 21 } (xo_Pc sa (dC, dI) cls3 [(ax, .inr (1, [.ref hfm, .ref hq])), (hfm, .inl (cR, 8, .inr (.inr (.inr (.inr fa))))), (h, .inr (0, [.ref pw, .ref ps, .ref po, .ref pk, .int (nI n)])), (pw, .inl (cI, 6, .inl wd)), (ps, .inl (cZ, 6, .inl sg)), (po, .inl (cI, 64, .inl ow)), (pk, .inl (cI, 64, .inl co))] [(cR, .object "SliceCoder$Form"), (cI, .int), (cZ, .boolean)] [.ref ax, .int (nI f), .int (nI o)]) (va_Sr (fun r => r = h) Value.ref) 0 0 (fun _ => False) := by
  refine Met.ofW (cc := cX_formWith) (maxL := 4) (ret := (some (.object "SliceCoder$Form"))) (by decide) rfl ?_
  intro p e s m args below meth c s₁ B hml hv
  obtain ⟨rfl, hP, hK, hV, hZ⟩ := hv
  have hx := B.exec
  have hb := B.bytes
  have hr := B.returns
  have hts := atoms_spec (ws := wX_formWith) B.pre
  have hw : ∀ w ∈ wA, w.before _ s = true := fun w h => hts w (List.mem_cons_of_mem _ h)
  have hown : s.vm.findClass RX = some m.cls := findClass_of_methodNamed B.named
  have hlocks := B.notSynchronized
  have hl := lv_entry ([.ref ax, .int (nI f), .int (nI o)]) (n := 4) (Nat.le_of_ble_eq_true rfl)
  rw [lg_entry_eq]
  generalize (lg_sl ([.ref ax, .int (nI f), .int (nI o)]) ++ List.replicate (4 - (lg_sl ([.ref ax, .int (nI f), .int (nI o)])).length) Slot.unset).toArray = ls at hl ⊢
  have hl : lv_has ls 4 [(0, .ref ax), (1, .int (nI f)), (2, .int (nI o))] := hl
  refine lv_aload_n hx hb dX_formWith_0 rfl (lv_at hl 0 rfl) ?_
  refine lv_iload_n hx hb dX_formWith_1 rfl (lv_at hl 1 rfl) ?_
  refine va_csr (W.runV (As := [.int (nI f)]) (rest := []) ⟨hx, hb, hml, hown, hw⟩ (c_X_formAt l dC dI sa cR ax hfm hq fa f h hf hfa) (cwV 1 hw (gV kw_75 kw_77 kw_0 kw_14 kw_78) rfl rfl rfl (by decide +kernel) ⟨Nat.le_of_ble_eq_true rfl, Nat.le_of_ble_eq_true rfl⟩) (xo_preV (q0 := 0) (hK.sub (tys' := [(cR, .object "SliceCoder$Form")]) [0] rfl) (hP.sub (ws' := [(ax, .inr (1, [.ref hfm, .ref hq])), (hfm, .inl (cR, 8, .inr (.inr (.inr (.inr fa)))))]) [0, 1] rfl) hV hZ rfl rfl) rfl rfl hl.1 rfl (lv_room (Nat.le_of_ble_eq_true rfl)) dX_formWith_2 ⟨Nat.zero_le _, Nat.zero_le _⟩) (fun v2 e2 => ?_)
  obtain rfl : h = v2 := (e2).symm
  refine lv_astore_n hx hb dX_formWith_5 rfl hl (by decide) rfl (fun ls hl => ?_)
  have hl : lv_has ls 4 [(3, .ref h), (0, .ref ax), (1, .int (nI f)), (2, .int (nI o))] := hl
  refine lv_aload_n hx hb dX_formWith_6 rfl (lv_at hl 0 rfl) ?_
  refine lv_iload_n hx hb dX_formWith_7 rfl (lv_at hl 3 rfl) ?_
  refine vp_callSi (W.runV (As := [.int (nI o)]) (rest := []) ⟨hx, hb, hml, hown, hw⟩ (c_F_hasOperand l dC dI cI cZ h pw ps po pk n wd sg ow co it w sb hF (nI o)) (cwV 1 hw (gV kw_168 kw_169 kw_170 kw_15 kw_171) rfl rfl rfl (by decide +kernel) ⟨Nat.le_of_ble_eq_true rfl, Nat.le_of_ble_eq_true rfl⟩) (ro_preV (q0 := 0) (hK.sub (tys' := [(cI, .int), (cZ, .boolean)]) [1, 2] rfl) (hP.sub (ws' := [(h, .inr (0, [.ref pw, .ref ps, .ref po, .ref pk, .int (nI n)])), (pw, .inl (cI, 6, .inl wd)), (ps, .inl (cZ, 6, .inl sg)), (po, .inl (cI, 64, .inl ow)), (pk, .inl (cI, 64, .inl co))]) [2, 3, 4, 5, 6] rfl) rfl rfl) rfl rfl hl.1 rfl (lv_room (Nat.le_of_ble_eq_true rfl)) dX_formWith_8 ⟨Nat.zero_le _, Nat.zero_le _⟩) (fun v8 e8 => ?_)
  obtain rfl : v8 = nI 1 := e8.trans (by rw [hop_nI w ho, decide_eq_true hw1]; rfl)
  refine lv_if_ne (tgt := 24) hx hb dX_formWith_11 (by decide) (fun h11 => ?_) (fun h11 => ?_)
  · refine lv_aload_n hx hb dX_formWith_24 rfl (lv_at hl 0 rfl) ?_
    exact W.aret hx hb hr (Or.inl ⟨_, rfl⟩) (Or.inr ⟨_, rfl⟩) (fun t ht hW => ⟨_, rfl, (rfl), ht⟩) (fun q h => nomatch h) dX_formWith_25
  · exfalso
    first | exact h11 (by decide +kernel) | exact absurd h11 (by decide +kernel)

set_option maxHeartbeats 4000000 in
set_option maxRecDepth 100000 in
theorem t_X_formAt (l : Launch) (hl0 : l.stackTraces = false) (dC : Nat → ClassId) (dI : Nat → Nat → Nat) (sa : Nat → Nat) (ax hfm hq : Nat) (x : Int32) (hb9 : isF x = false) : tx_Met l yX_formAt wX_formAt { frames := 6, cells := 1, slots := 6, locals := 82 } (xo_Pc sa (dC, dI) cls3 [(ax, .inr (1, [.ref hfm, .ref hq]))] [] [.ref ax, .int x]) eIA 1 6 := by
  refine tx_ofW (cc := cX_formAt) (maxL := 2) (ret := (some (.object "SliceCoder$Form"))) (by decide) rfl ?_
  intro p e s m args below meth c s₁ B hml hv
  obtain ⟨rfl, hP, hK, hV, hZ⟩ := hv
  have hx := B.exec
  have hb := B.bytes
  have hr := B.returns
  have hts := atoms_spec (ws := wX_formAt) B.pre
  have hw : ∀ w ∈ wA, w.before _ s = true := fun w h => hts w (List.mem_cons_of_mem _ h)
  have hown : s.vm.findClass RX = some m.cls := findClass_of_methodNamed B.named
  have hlocks := B.notSynchronized
  have hl := lv_entry ([.ref ax, .int x]) (n := 2) (Nat.le_of_ble_eq_true rfl)
  rw [lg_entry_eq]
  generalize (lg_sl ([.ref ax, .int x]) ++ List.replicate (2 - (lg_sl ([.ref ax, .int x])).length) Slot.unset).toArray = ls at hl ⊢
  have hl : lv_has ls 2 [(0, .ref ax), (1, .int x)] := hl
  refine lv_iload_n hx hb dX_formAt_0 rfl (lv_at hl 1 rfl) ?_
  refine lv_if_lt (tgt := 10) hx hb dX_formAt_1 (by decide) (fun h1 => ?_) (fun h1 => ?_)
  · exact tx_throwS (own := RX) (names := eUp) (ik := 65) hx hb hl0 B.named (hts _ List.mem_cons_self) hlocks hown (by decide +kernel) (by decide +kernel) (hw _ kw_79) (hw _ kw_20) (hV.2 0 _ rfl) (xE_at hw hV hZ og_IA on_IA) (Nat.le_refl _) (hl.1.trans hml.symm) dX_formAt_10 dX_formAt_13 dX_formAt_14 dX_formAt_16 dX_formAt_19 (Nat.le_of_ble_eq_true rfl) (Nat.le_of_ble_eq_true rfl) (Nat.le_of_ble_eq_true rfl) (Nat.le_of_ble_eq_true rfl) (Nat.le_of_ble_eq_true rfl) (Nat.le_of_ble_eq_true rfl)
  · refine lv_iload_n hx hb dX_formAt_4 rfl (lv_at hl 1 rfl) ?_
    refine lv_bipush (v := nI 8) hx hb dX_formAt_5 (by decide +kernel) ?_
    refine lv_icmp_lt (tgt := 20) hx hb dX_formAt_7 (by decide) (fun h7 => ?_) (fun h7 => ?_)
    · exact absurd (isF_nlt h1 h7) (by rw [hb9]; decide)
    · exact tx_throwS (own := RX) (names := eUp) (ik := 65) hx hb hl0 B.named (hts _ List.mem_cons_self) hlocks hown (by decide +kernel) (by decide +kernel) (hw _ kw_79) (hw _ kw_20) (hV.2 0 _ rfl) (xE_at hw hV hZ og_IA on_IA) (Nat.le_refl _) (hl.1.trans hml.symm) dX_formAt_10 dX_formAt_13 dX_formAt_14 dX_formAt_16 dX_formAt_19 (Nat.le_of_ble_eq_true rfl) (Nat.le_of_ble_eq_true rfl) (Nat.le_of_ble_eq_true rfl) (Nat.le_of_ble_eq_true rfl) (Nat.le_of_ble_eq_true rfl) (Nat.le_of_ble_eq_true rfl)

set_option maxHeartbeats 4000000 in
set_option maxRecDepth 100000 in
theorem t_X_checkOperandIndex (l : Launch) (hl0 : l.stackTraces = false) (dC : Nat → ClassId) (dI : Nat → Nat → Nat) (sa : Nat → Nat) (x : Int32) (hb9 : isO x = false) : tx_Met l yX_checkOperandIndex wX_checkOperandIndex { frames := 6, cells := 1, slots := 6, locals := 82 } (xo_Pc sa (dC, dI) cls3 [] [] [.int x]) eIA 1 6 := by
  refine tx_ofW (cc := cX_checkOperandIndex) (maxL := 1) (ret := none) (by decide) rfl ?_
  intro p e s m args below meth c s₁ B hml hv
  obtain ⟨rfl, hP, hK, hV, hZ⟩ := hv
  have hx := B.exec
  have hb := B.bytes
  have hr := B.returns
  have hts := atoms_spec (ws := wX_checkOperandIndex) B.pre
  have hw : ∀ w ∈ wA, w.before _ s = true := fun w h => hts w (List.mem_cons_of_mem _ h)
  have hown : s.vm.findClass RX = some m.cls := findClass_of_methodNamed B.named
  have hlocks := B.notSynchronized
  have hl := lv_entry ([.int x]) (n := 1) (Nat.le_of_ble_eq_true rfl)
  rw [lg_entry_eq]
  generalize (lg_sl ([.int x]) ++ List.replicate (1 - (lg_sl ([.int x])).length) Slot.unset).toArray = ls at hl ⊢
  have hl : lv_has ls 1 [(0, .int x)] := hl
  refine lv_iload_n hx hb dX_checkOperandIndex_0 rfl (lv_at hl 0 rfl) ?_
  refine lv_if_lt (tgt := 10) hx hb dX_checkOperandIndex_1 (by decide) (fun h1 => ?_) (fun h1 => ?_)
  · exact tx_throwS (own := RX) (names := eUp) (ik := 65) hx hb hl0 B.named (hts _ List.mem_cons_self) hlocks hown (by decide +kernel) (by decide +kernel) (hw _ kw_79) (hw _ kw_20) (hV.2 1 _ rfl) (xE_at hw hV hZ og_IA on_IA) (Nat.le_refl _) (hl.1.trans hml.symm) dX_checkOperandIndex_10 dX_checkOperandIndex_13 dX_checkOperandIndex_14 dX_checkOperandIndex_16 dX_checkOperandIndex_19 (Nat.le_of_ble_eq_true rfl) (Nat.le_of_ble_eq_true rfl) (Nat.le_of_ble_eq_true rfl) (Nat.le_of_ble_eq_true rfl) (Nat.le_of_ble_eq_true rfl) (Nat.le_of_ble_eq_true rfl)
  · refine lv_iload_n hx hb dX_checkOperandIndex_4 rfl (lv_at hl 0 rfl) ?_
    refine lv_bipush (v := nI 6) hx hb dX_checkOperandIndex_5 (by decide +kernel) ?_
    refine lv_icmp_lt (tgt := 20) hx hb dX_checkOperandIndex_7 (by decide) (fun h7 => ?_) (fun h7 => ?_)
    · exact absurd (isO_nlt h1 h7) (by rw [hb9]; decide)
    · exact tx_throwS (own := RX) (names := eUp) (ik := 65) hx hb hl0 B.named (hts _ List.mem_cons_self) hlocks hown (by decide +kernel) (by decide +kernel) (hw _ kw_79) (hw _ kw_20) (hV.2 1 _ rfl) (xE_at hw hV hZ og_IA on_IA) (Nat.le_refl _) (hl.1.trans hml.symm) dX_checkOperandIndex_10 dX_checkOperandIndex_13 dX_checkOperandIndex_14 dX_checkOperandIndex_16 dX_checkOperandIndex_19 (Nat.le_of_ble_eq_true rfl) (Nat.le_of_ble_eq_true rfl) (Nat.le_of_ble_eq_true rfl) (Nat.le_of_ble_eq_true rfl) (Nat.le_of_ble_eq_true rfl) (Nat.le_of_ble_eq_true rfl)

set_option maxHeartbeats 4000000 in
set_option maxRecDepth 100000 in
theorem t_X_checkBitCount (l : Launch) (hl0 : l.stackTraces = false) (dC : Nat → ClassId) (dI : Nat → Nat → Nat) (sa : Nat → Nat) (x : Int32) (hb9 : isB x = false) : tx_Met l yX_checkBitCount wX_checkBitCount { frames := 6, cells := 1, slots := 6, locals := 82 } (xo_Pc sa (dC, dI) cls3 [] [] [.int x]) eIA 1 6 := by
  refine tx_ofW (cc := cX_checkBitCount) (maxL := 1) (ret := none) (by decide) rfl ?_
  intro p e s m args below meth c s₁ B hml hv
  obtain ⟨rfl, hP, hK, hV, hZ⟩ := hv
  have hx := B.exec
  have hb := B.bytes
  have hr := B.returns
  have hts := atoms_spec (ws := wX_checkBitCount) B.pre
  have hw : ∀ w ∈ wA, w.before _ s = true := fun w h => hts w (List.mem_cons_of_mem _ h)
  have hown : s.vm.findClass RX = some m.cls := findClass_of_methodNamed B.named
  have hlocks := B.notSynchronized
  have hl := lv_entry ([.int x]) (n := 1) (Nat.le_of_ble_eq_true rfl)
  rw [lg_entry_eq]
  generalize (lg_sl ([.int x]) ++ List.replicate (1 - (lg_sl ([.int x])).length) Slot.unset).toArray = ls at hl ⊢
  have hl : lv_has ls 1 [(0, .int x)] := hl
  refine lv_iload_n hx hb dX_checkBitCount_0 rfl (lv_at hl 0 rfl) ?_
  refine lv_iconst (v := nI 1) hx hb dX_checkBitCount_1 (by decide +kernel) ?_
  refine lv_icmp_lt (tgt := 11) hx hb dX_checkBitCount_2 (by decide) (fun h2 => ?_) (fun h2 => ?_)
  · exact tx_throwS (own := RX) (names := eUp) (ik := 65) hx hb hl0 B.named (hts _ List.mem_cons_self) hlocks hown (by decide +kernel) (by decide +kernel) (hw _ kw_79) (hw _ kw_20) (hV.2 2 _ rfl) (xE_at hw hV hZ og_IA on_IA) (Nat.le_refl _) (hl.1.trans hml.symm) dX_checkBitCount_11 dX_checkBitCount_14 dX_checkBitCount_15 dX_checkBitCount_17 dX_checkBitCount_20 (Nat.le_of_ble_eq_true rfl) (Nat.le_of_ble_eq_true rfl) (Nat.le_of_ble_eq_true rfl) (Nat.le_of_ble_eq_true rfl) (Nat.le_of_ble_eq_true rfl) (Nat.le_of_ble_eq_true rfl)
  · refine lv_iload_n hx hb dX_checkBitCount_5 rfl (lv_at hl 0 rfl) ?_
    refine lv_bipush (v := nI 64) hx hb dX_checkBitCount_6 (by decide +kernel) ?_
    refine lv_icmp_le (tgt := 21) hx hb dX_checkBitCount_8 (by decide) (fun h8 => ?_) (fun h8 => ?_)
    · exact absurd (isB_nlt h2 h8) (by rw [hb9]; decide)
    · exact tx_throwS (own := RX) (names := eUp) (ik := 65) hx hb hl0 B.named (hts _ List.mem_cons_self) hlocks hown (by decide +kernel) (by decide +kernel) (hw _ kw_79) (hw _ kw_20) (hV.2 2 _ rfl) (xE_at hw hV hZ og_IA on_IA) (Nat.le_refl _) (hl.1.trans hml.symm) dX_checkBitCount_11 dX_checkBitCount_14 dX_checkBitCount_15 dX_checkBitCount_17 dX_checkBitCount_20 (Nat.le_of_ble_eq_true rfl) (Nat.le_of_ble_eq_true rfl) (Nat.le_of_ble_eq_true rfl) (Nat.le_of_ble_eq_true rfl) (Nat.le_of_ble_eq_true rfl) (Nat.le_of_ble_eq_true rfl)

set_option maxHeartbeats 4000000 in
set_option maxRecDepth 100000 in
theorem t_X_checkRoom (l : Launch) (hl0 : l.stackTraces = false) (dC : Nat → ClassId) (dI : Nat → Nat → Nat) (sa : Nat → Nat) (cI cZ : ClassId) (h pw ps po pk n : Nat) (wd sg ow co : Nat → Int32) (it w : Nat → Nat) (sb : Nat → Bool) (hF : fR n it w sb wd sg ow co) (k : Nat) (hk : 64 < n + k) (hk2 : k ≤ 64) : tx_Met l yX_checkRoom wX_checkRoom { frames := 6, cells := 1, slots := 6, locals := 82 } (xo_Pc sa (dC, dI) cls3 [(h, .inr (0, [.ref pw, .ref ps, .ref po, .ref pk, .int (nI n)])), (pw, .inl (cI, 6, .inl wd)), (ps, .inl (cZ, 6, .inl sg)), (po, .inl (cI, 64, .inl ow)), (pk, .inl (cI, 64, .inl co))] [(cI, .int), (cZ, .boolean)] [.ref h, .int (nI k)]) eIX 1 6 := by
  refine tx_ofW (cc := cX_checkRoom) (maxL := 2) (ret := none) (by decide) rfl ?_
  intro p e s m args below meth c s₁ B hml hv
  obtain ⟨rfl, hP, hK, hV, hZ⟩ := hv
  have hx := B.exec
  have hb := B.bytes
  have hr := B.returns
  have hts := atoms_spec (ws := wX_checkRoom) B.pre
  have hw : ∀ w ∈ wA, w.before _ s = true := fun w h => hts w (List.mem_cons_of_mem _ h)
  have hown : s.vm.findClass RX = some m.cls := findClass_of_methodNamed B.named
  have hlocks := B.notSynchronized
  have hl := lv_entry ([.ref h, .int (nI k)]) (n := 2) (Nat.le_of_ble_eq_true rfl)
  rw [lg_entry_eq]
  generalize (lg_sl ([.ref h, .int (nI k)]) ++ List.replicate (2 - (lg_sl ([.ref h, .int (nI k)])).length) Slot.unset).toArray = ls at hl ⊢
  have hl : lv_has ls 2 [(0, .ref h), (1, .int (nI k))] := hl
  have hN_widths : ∀ A9, (Cond.fieldLinkNest "SliceCoder" 70 "SliceCoder$Form" "widths" "[I" "SliceCoder").before A9 s = true := fun A9 => va_Nw.use (by rfl) (hV.1 _ (by decide +kernel))
  have hN_length : ∀ A9, (Cond.fieldLinkNest "SliceCoder" 57 "SliceCoder$Form" "length" "I" "SliceCoder").before A9 s = true := fun A9 => va_Nw.use (by rfl) (hV.1 _ (by decide +kernel))
  have hn : n ≤ 64 := hF.1.1
  have hwd := hF.2.1
  have hsg := hF.2.2.1
  have hoc := hF.2.2.2
  have hit := cw_it hF.1
  have hw64 := hF.1.2.1
  refine lv_iload_n hx hb dX_checkRoom_0 rfl (lv_at hl 1 rfl) ?_
  refine lv_bipush (v := nI 64) hx hb dX_checkRoom_1 (by decide +kernel) ?_
  refine lv_aload_n hx hb dX_checkRoom_3 rfl (lv_at hl 0 rfl) ?_
  refine va_getN (D := (dC, dI)) (ci := 0) (v := .int (nI n)) (C := RF) (T := TF) (N := 5) hx hb hw inF hown hK hP 0 rfl rfl 4 (by decide) (hN_length _) (fun _ h9 => h9) rfl dX_checkRoom_4 ?_
  refine lv_isub hx hb dX_checkRoom_7 ?_
  refine lv_topi (fun v7 e7 => ?_)
  obtain rfl : v7 = nI (64 - n) := e7.trans (pk_sub (by omega))
  refine lv_icmp_le (tgt := 21) hx hb dX_checkRoom_8 (by decide) (fun h8 => ?_) (fun h8 => ?_)
  · exfalso
    rw [nI_leI (by omega) (by omega)] at h8; omega
  · exact tx_throwS (own := RX) (names := eUp) (ik := 74) hx hb hl0 B.named (hts _ List.mem_cons_self) hlocks hown (by decide +kernel) (by decide +kernel) (hw _ kw_203) (hw _ kw_22) (hV.2 4 _ rfl) (xE_at hw hV hZ og_IX on_IX) (Nat.le_refl _) (hl.1.trans hml.symm) dX_checkRoom_11 dX_checkRoom_14 dX_checkRoom_15 dX_checkRoom_17 dX_checkRoom_20 (Nat.le_of_ble_eq_true rfl) (Nat.le_of_ble_eq_true rfl) (Nat.le_of_ble_eq_true rfl) (Nat.le_of_ble_eq_true rfl) (Nat.le_of_ble_eq_true rfl) (Nat.le_of_ble_eq_true rfl)

set_option maxHeartbeats 4000000 in
set_option maxRecDepth 100000 in
theorem t_X_checkWhole (l : Launch) (hl0 : l.stackTraces = false) (dC : Nat → ClassId) (dI : Nat → Nat → Nat) (sa : Nat → Nat) (cI cZ : ClassId) (h pw ps po pk n : Nat) (wd sg ow co : Nat → Int32) (it w : Nat → Nat) (sb : Nat → Bool) (hF : fR n it w sb wd sg ow co) (hwh : ¬ cw_lft it n w 6 = 0) : tx_Met l yX_checkWhole wX_checkWhole { frames := 6, cells := 1, slots := 6, locals := 82 } (xo_Pc sa (dC, dI) cls3 [(h, .inr (0, [.ref pw, .ref ps, .ref po, .ref pk, .int (nI n)])), (pw, .inl (cI, 6, .inl wd)), (ps, .inl (cZ, 6, .inl sg)), (po, .inl (cI, 64, .inl ow)), (pk, .inl (cI, 64, .inl co))] [(cI, .int), (cZ, .boolean)] [.ref h]) eIS 1 6 := by
  refine tx_ofW (cc := cX_checkWhole) (maxL := 1) (ret := none) (by decide) rfl ?_
  intro p e s m args below meth c s₁ B hml hv
  obtain ⟨rfl, hP, hK, hV, hZ⟩ := hv
  have hx := B.exec
  have hb := B.bytes
  have hr := B.returns
  have hts := atoms_spec (ws := wX_checkWhole) B.pre
  have hw : ∀ w ∈ wA, w.before _ s = true := fun w h => hts w (List.mem_cons_of_mem _ h)
  have hown : s.vm.findClass RX = some m.cls := findClass_of_methodNamed B.named
  have hlocks := B.notSynchronized
  have hl := lv_entry ([.ref h]) (n := 1) (Nat.le_of_ble_eq_true rfl)
  rw [lg_entry_eq]
  generalize (lg_sl ([.ref h]) ++ List.replicate (1 - (lg_sl ([.ref h])).length) Slot.unset).toArray = ls at hl ⊢
  have hl : lv_has ls 1 [(0, .ref h)] := hl
  refine lv_aload_n hx hb dX_checkWhole_0 rfl (lv_at hl 0 rfl) ?_
  refine vp_callSi (W.runV (As := []) (rest := []) ⟨hx, hb, hml, hown, hw⟩ (c_F_isWhole l dC dI cI cZ h pw ps po pk n wd sg ow co it w sb hF) (cwV 0 hw (gV kw_260 kw_261 kw_262 kw_15 kw_263) rfl rfl rfl (by decide +kernel) ⟨Nat.le_of_ble_eq_true rfl, Nat.le_of_ble_eq_true rfl⟩) (ro_preV (q0 := 0) hK hP rfl rfl) rfl rfl hl.1 rfl (lv_room (Nat.le_of_ble_eq_true rfl)) dX_checkWhole_1 ⟨Nat.zero_le _, Nat.zero_le _⟩) (fun v1 e1 => ?_)
  obtain rfl : v1 = nI 0 := e1.trans (by rw [decide_eq_false hwh]; rfl)
  refine lv_if_ne (tgt := 17) hx hb dX_checkWhole_4 (by decide) (fun h4 => ?_) (fun h4 => ?_)
  · exfalso
    first | exact h4 (by decide +kernel) | exact absurd h4 (by decide +kernel)
  · exact tx_throwS (own := RX) (names := eUp) (ik := 38) hx hb hl0 B.named (hts _ List.mem_cons_self) hlocks hown (by decide +kernel) (by decide +kernel) (hw _ kw_172) (hw _ kw_21) (hV.2 9 _ rfl) (xE_at hw hV hZ og_IS on_IS) (Nat.le_refl _) (hl.1.trans hml.symm) dX_checkWhole_7 dX_checkWhole_10 dX_checkWhole_11 dX_checkWhole_13 dX_checkWhole_16 (Nat.le_of_ble_eq_true rfl) (Nat.le_of_ble_eq_true rfl) (Nat.le_of_ble_eq_true rfl) (Nat.le_of_ble_eq_true rfl) (Nat.le_of_ble_eq_true rfl) (Nat.le_of_ble_eq_true rfl)

set_option maxHeartbeats 4000000 in
set_option maxRecDepth 100000 in
theorem t_X_formWith_f (l : Launch) (hl0 : l.stackTraces = false) (dC : Nat → ClassId) (dI : Nat → Nat → Nat) (sa : Nat → Nat) (ax hfm hq : Nat) (x y : Int32) (hb9 : isF x = false) : tx_Met l yX_formWith wX_formWith { frames := 7, cells := 1, slots := 6, locals := 103 } (xo_Pc sa (dC, dI) cls3 [(ax, .inr (1, [.ref hfm, .ref hq]))] [] [.ref ax, .int x, .int y]) eIA 1 6 := by
  refine tx_ofW (cc := cX_formWith) (maxL := 4) (ret := (some (.object "SliceCoder$Form"))) (by decide) rfl ?_
  intro p e s m args below meth c s₁ B hml hv
  obtain ⟨rfl, hP, hK, hV, hZ⟩ := hv
  have hx := B.exec
  have hb := B.bytes
  have hr := B.returns
  have hts := atoms_spec (ws := wX_formWith) B.pre
  have hw : ∀ w ∈ wA, w.before _ s = true := fun w h => hts w (List.mem_cons_of_mem _ h)
  have hown : s.vm.findClass RX = some m.cls := findClass_of_methodNamed B.named
  have hlocks := B.notSynchronized
  have hl := lv_entry ([.ref ax, .int x, .int y]) (n := 4) (Nat.le_of_ble_eq_true rfl)
  rw [lg_entry_eq]
  generalize (lg_sl ([.ref ax, .int x, .int y]) ++ List.replicate (4 - (lg_sl ([.ref ax, .int x, .int y])).length) Slot.unset).toArray = ls at hl ⊢
  have hl : lv_has ls 4 [(0, .ref ax), (1, .int x), (2, .int y)] := hl
  refine lv_aload_n hx hb dX_formWith_0 rfl (lv_at hl 0 rfl) ?_
  refine lv_iload_n hx hb dX_formWith_1 rfl (lv_at hl 1 rfl) ?_
  refine tx_callV (As := [.int x]) (rest := []) (st0 := [.int x, .ref ax]) ⟨hx, hb, hml, hown, hw⟩ (t_X_formAt l hl0 dC dI sa ax hfm hq x hb9) (cwV 1 hw (gV kw_75 kw_77 kw_0 kw_14 kw_78) rfl rfl rfl (by decide +kernel) ⟨Nat.le_of_ble_eq_true rfl, Nat.le_of_ble_eq_true rfl⟩) (xo_preV (q0 := 0) hK hP hV hZ rfl rfl) rfl hl.1 rfl (lv_room (Nat.le_of_ble_eq_true rfl)) dX_formWith_2 ⟨Nat.le_of_ble_eq_true rfl, Nat.le_of_ble_eq_true rfl⟩ (fun q9 ce H1 k1 k2 k3 k4 k5 => ?_)
  exact tx_out B.named (hts _ List.mem_cons_self) hlocks k1 k2 k3 (Nat.le_of_ble_eq_true rfl) (Nat.le_of_ble_eq_true rfl)

set_option maxHeartbeats 4000000 in
set_option maxRecDepth 100000 in
theorem t_X_formWith_o (l : Launch) (hl0 : l.stackTraces = false) (dC : Nat → ClassId) (dI : Nat → Nat → Nat) (sa : Nat → Nat) (cR : ClassId) (ax hfm hq : Nat) (fa : Nat → Option Nat) (cI cZ : ClassId) (h pw ps po pk n : Nat) (wd sg ow co : Nat → Int32) (it w : Nat → Nat) (sb : Nat → Bool) (hF : fR n it w sb wd sg ow co) (f : Nat) (hf : f < 8) (hfa : fa f = some h) (y : Int32) (hb9 : hop w y = false) : tx_Met l yX_formWith wX_formWith { frames := 6, cells := 1, slots := 6, locals := 82 } (xo_Pc sa (dC, dI) cls3 [(ax, .inr (1, [.ref hfm, .ref hq])), (hfm, .inl (cR, 8, .inr (.inr (.inr (.inr fa))))), (h, .inr (0, [.ref pw, .ref ps, .ref po, .ref pk, .int (nI n)])), (pw, .inl (cI, 6, .inl wd)), (ps, .inl (cZ, 6, .inl sg)), (po, .inl (cI, 64, .inl ow)), (pk, .inl (cI, 64, .inl co))] [(cR, .object "SliceCoder$Form"), (cI, .int), (cZ, .boolean)] [.ref ax, .int (nI f), .int y]) eIA 1 6 := by
  refine tx_ofW (cc := cX_formWith) (maxL := 4) (ret := (some (.object "SliceCoder$Form"))) (by decide) rfl ?_
  intro p e s m args below meth c s₁ B hml hv
  obtain ⟨rfl, hP, hK, hV, hZ⟩ := hv
  have hx := B.exec
  have hb := B.bytes
  have hr := B.returns
  have hts := atoms_spec (ws := wX_formWith) B.pre
  have hw : ∀ w ∈ wA, w.before _ s = true := fun w h => hts w (List.mem_cons_of_mem _ h)
  have hown : s.vm.findClass RX = some m.cls := findClass_of_methodNamed B.named
  have hlocks := B.notSynchronized
  have hl := lv_entry ([.ref ax, .int (nI f), .int y]) (n := 4) (Nat.le_of_ble_eq_true rfl)
  rw [lg_entry_eq]
  generalize (lg_sl ([.ref ax, .int (nI f), .int y]) ++ List.replicate (4 - (lg_sl ([.ref ax, .int (nI f), .int y])).length) Slot.unset).toArray = ls at hl ⊢
  have hl : lv_has ls 4 [(0, .ref ax), (1, .int (nI f)), (2, .int y)] := hl
  refine lv_aload_n hx hb dX_formWith_0 rfl (lv_at hl 0 rfl) ?_
  refine lv_iload_n hx hb dX_formWith_1 rfl (lv_at hl 1 rfl) ?_
  refine va_csr (W.runV (As := [.int (nI f)]) (rest := []) ⟨hx, hb, hml, hown, hw⟩ (c_X_formAt l dC dI sa cR ax hfm hq fa f h hf hfa) (cwV 1 hw (gV kw_75 kw_77 kw_0 kw_14 kw_78) rfl rfl rfl (by decide +kernel) ⟨Nat.le_of_ble_eq_true rfl, Nat.le_of_ble_eq_true rfl⟩) (xo_preV (q0 := 0) (hK.sub (tys' := [(cR, .object "SliceCoder$Form")]) [0] rfl) (hP.sub (ws' := [(ax, .inr (1, [.ref hfm, .ref hq])), (hfm, .inl (cR, 8, .inr (.inr (.inr (.inr fa)))))]) [0, 1] rfl) hV hZ rfl rfl) rfl rfl hl.1 rfl (lv_room (Nat.le_of_ble_eq_true rfl)) dX_formWith_2 ⟨Nat.zero_le _, Nat.zero_le _⟩) (fun v2 e2 => ?_)
  obtain rfl : h = v2 := (e2).symm
  refine lv_astore_n hx hb dX_formWith_5 rfl hl (by decide) rfl (fun ls hl => ?_)
  have hl : lv_has ls 4 [(3, .ref h), (0, .ref ax), (1, .int (nI f)), (2, .int y)] := hl
  refine lv_aload_n hx hb dX_formWith_6 rfl (lv_at hl 0 rfl) ?_
  refine lv_iload_n hx hb dX_formWith_7 rfl (lv_at hl 3 rfl) ?_
  refine vp_callSi (W.runV (As := [.int y]) (rest := []) ⟨hx, hb, hml, hown, hw⟩ (c_F_hasOperand l dC dI cI cZ h pw ps po pk n wd sg ow co it w sb hF y) (cwV 1 hw (gV kw_168 kw_169 kw_170 kw_15 kw_171) rfl rfl rfl (by decide +kernel) ⟨Nat.le_of_ble_eq_true rfl, Nat.le_of_ble_eq_true rfl⟩) (ro_preV (q0 := 0) (hK.sub (tys' := [(cI, .int), (cZ, .boolean)]) [1, 2] rfl) (hP.sub (ws' := [(h, .inr (0, [.ref pw, .ref ps, .ref po, .ref pk, .int (nI n)])), (pw, .inl (cI, 6, .inl wd)), (ps, .inl (cZ, 6, .inl sg)), (po, .inl (cI, 64, .inl ow)), (pk, .inl (cI, 64, .inl co))]) [2, 3, 4, 5, 6] rfl) rfl rfl) rfl rfl hl.1 rfl (lv_room (Nat.le_of_ble_eq_true rfl)) dX_formWith_8 ⟨Nat.zero_le _, Nat.zero_le _⟩) (fun v8 e8 => ?_)
  obtain rfl : v8 = nI 0 := e8.trans (by rw [hb9]; rfl)
  refine lv_if_ne (tgt := 24) hx hb dX_formWith_11 (by decide) (fun h11 => ?_) (fun h11 => ?_)
  · exfalso
    first | exact h11 (by decide +kernel) | exact absurd h11 (by decide +kernel)
  · exact tx_throwS (own := RX) (names := eUp) (ik := 65) hx hb hl0 B.named (hts _ List.mem_cons_self) hlocks hown (by decide +kernel) (by decide +kernel) (hw _ kw_79) (hw _ kw_20) (hV.2 5 _ rfl) (xE_at hw hV hZ og_IA on_IA) (Nat.le_refl _) (hl.1.trans hml.symm) dX_formWith_14 dX_formWith_17 dX_formWith_18 dX_formWith_20 dX_formWith_23 (Nat.le_of_ble_eq_true rfl) (Nat.le_of_ble_eq_true rfl) (Nat.le_of_ble_eq_true rfl) (Nat.le_of_ble_eq_true rfl) (Nat.le_of_ble_eq_true rfl) (Nat.le_of_ble_eq_true rfl)
