def cnt1 (it : Nat → Nat) (n : Nat) (w : Nat → Nat) (q : Nat) : Nat := match q with
  | 0 => n
  | 1 => cw_fix it n
  | 2 => cw_ops w 6
  | _ => cw_lft it n w 6
theorem isW_out {y : Int32} (h : isW y = false) : y.toInt < 0 ∨ 3 < y.toInt := by
  have := of_decide_eq_false h
  omega
set_option maxHeartbeats 4000000 in
set_option maxRecDepth 100000 in
theorem c_X_clear (l : Launch) (dC : Nat → ClassId) (dI : Nat → Nat → Nat) (sz : Nat) (sa : Nat → Nat) (cR : ClassId) (ax hfm hq : Nat) (fa : Nat → Option Nat) (cI cZ : ClassId) (h pw ps po pk n : Nat) (wd sg ow co : Nat → Int32) (it w : Nat → Nat) (sb : Nat → Bool) (hF : fR n it w sb wd sg ow co) (f : Nat) (hf : f < 8) (hfa : fa f = some h) : Met l yX_clear wX_clear { frames := 1, cells := 0, slots := 0, locals := 21 } (xw_Pc sa (dC, dI) cls3 [(ax, .inr (1, [.ref hfm, .ref hq])), (hfm, .inl (cR, 8, .inr (.inr (.inr (.inr fa))))), (h, .inr (0, [.ref pw, .ref ps, .ref po, .ref pk, .int (nI n)])), (pw, .inl (cI, 6, .inl wd)), (ps, .inl (cZ, 6, .inl sg)), (po, .inl (cI, 64, .inl ow)), (pk, .inl (cI, 64, .inl co))] [(cR, .object "SliceCoder$Form"), (cI, .int), (cZ, .boolean)] sz [.ref ax, .int (nI f)]) (va_Qv (fun _ : Unit => True) (fun _ t => ∃ wd' : Nat → Int32, fR 0 it (fun _ => 0) sb wd' sg ow co ∧ va_P (dC, dI) cls3 [(ax, .inr (1, [.ref hfm, .ref hq])), (hfm, .inl (cR, 8, .inr (.inr (.inr (.inr fa))))), (h, .inr (0, [.ref pw, .ref ps, .ref po, .ref pk, .int (nI 0)])), (pw, .inl (cI, 6, .inl wd')), (ps, .inl (cZ, 6, .inl sg)), (po, .inl (cI, 64, .inl ow)), (pk, .inl (cI, 64, .inl co))] t.heap ∧ va_K (dC, dI) cls3 [(cR, .object "SliceCoder$Form"), (cI, .int), (cZ, .boolean)] t ∧ va_D (va_A [(ax, .inr (1, [.ref hfm, .ref hq])), (hfm, .inl (cR, 8, .inr (.inr (.inr (.inr fa))))), (h, .inr (0, [.ref pw, .ref ps, .ref po, .ref pk, .int (nI n)])), (pw, .inl (cI, 6, .inl wd)), (ps, .inl (cZ, 6, .inl sg)), (po, .inl (cI, 64, .inl ow)), (pk, .inl (cI, 64, .inl co))] sz) [(ax, .inr (1, [.ref hfm, .ref hq])), (hfm, .inl (cR, 8, .inr (.inr (.inr (.inr fa))))), (h, .inr (0, [.ref pw, .ref ps, .ref po, .ref pk, .int (nI 0)])), (pw, .inl (cI, 6, .inl wd')), (ps, .inl (cZ, 6, .inl sg)), (po, .inl (cI, 64, .inl ow)), (pk, .inl (cI, 64, .inl co))]) (va_A [(ax, .inr (1, [.ref hfm, .ref hq])), (hfm, .inl (cR, 8, .inr (.inr (.inr (.inr fa))))), (h, .inr (0, [.ref pw, .ref ps, .ref po, .ref pk, .int (nI n)])), (pw, .inl (cI, 6, .inl wd)), (ps, .inl (cZ, 6, .inl sg)), (po, .inl (cI, 64, .inl ow)), (pk, .inl (cI, 64, .inl co))] sz)) 0 0 (va_A [(ax, .inr (1, [.ref hfm, .ref hq])), (hfm, .inl (cR, 8, .inr (.inr (.inr (.inr fa))))), (h, .inr (0, [.ref pw, .ref ps, .ref po, .ref pk, .int (nI n)])), (pw, .inl (cI, 6, .inl wd)), (ps, .inl (cZ, 6, .inl sg)), (po, .inl (cI, 64, .inl ow)), (pk, .inl (cI, 64, .inl co))] sz) := by
  refine Met.ofW (cc := cX_clear) (maxL := 2) (ret := none) (by decide) rfl ?_
  intro p e s m args below meth c s₁ B hml hv
  obtain ⟨rfl, hsz, hP, hK, hD0, hV, hZ⟩ := hv
  have hx := B.exec
  have hb := B.bytes
  have hr := B.returns
  have hts := atoms_spec (ws := wX_clear) B.pre
  have hw : ∀ w ∈ wA, w.before _ s = true := fun w h => hts w (List.mem_cons_of_mem _ h)
  have hown : s.vm.findClass RX = some m.cls := findClass_of_methodNamed B.named
  have hlocks := B.notSynchronized
  subst hsz
  have hD := hD0.self (sz := s.heap.size)
  generalize hAe : va_A [(ax, .inr (1, [.ref hfm, .ref hq])), (hfm, .inl (cR, 8, .inr (.inr (.inr (.inr fa))))), (h, .inr (0, [.ref pw, .ref ps, .ref po, .ref pk, .int (nI n)])), (pw, .inl (cI, 6, .inl wd)), (ps, .inl (cZ, 6, .inl sg)), (po, .inl (cI, 64, .inl ow)), (pk, .inl (cI, 64, .inl co))] s.heap.size = A at hD ⊢
  have hA : ∀ q : Nat, s.heap.size ≤ q → A q := fun q h => by rw [← hAe]; exact Or.inr h
  have hS : va_S A s.heap s.heap [] := va_S.rf
  have hl := lv_entry ([.ref ax, .int (nI f)]) (n := 2) (Nat.le_of_ble_eq_true rfl)
  rw [lg_entry_eq]
  generalize (lg_sl ([.ref ax, .int (nI f)]) ++ List.replicate (2 - (lg_sl ([.ref ax, .int (nI f)])).length) Slot.unset).toArray = ls at hl ⊢
  have hl : lv_has ls 2 [(0, .ref ax), (1, .int (nI f))] := hl
  refine lv_aload_n hx hb dX_clear_0 rfl (lv_at hl 0 rfl) ?_
  refine lv_iload_n hx hb dX_clear_1 rfl (lv_at hl 1 rfl) ?_
  refine va_csr (W.runV (As := [.int (nI f)]) (rest := []) ⟨hx, hb, hml, hown, hw⟩ (c_X_formAt l dC dI sa cR ax hfm hq fa f h hf hfa) (cwV 1 hw (gV kw_75 kw_77 kw_0 kw_14 kw_78) rfl rfl rfl (by decide +kernel) ⟨Nat.le_of_ble_eq_true rfl, Nat.le_of_ble_eq_true rfl⟩) (xo_preV (q0 := 0) (hK.sub (tys' := [(cR, .object "SliceCoder$Form")]) [0] rfl) (hP.sub (ws' := [(ax, .inr (1, [.ref hfm, .ref hq])), (hfm, .inl (cR, 8, .inr (.inr (.inr (.inr fa)))))]) [0, 1] rfl) hV hZ rfl rfl) rfl rfl hl.1 rfl (lv_room (Nat.le_of_ble_eq_true rfl)) dX_clear_2 ⟨Nat.zero_le _, Nat.zero_le _⟩) (fun v2 e2 => ?_)
  obtain rfl : h = v2 := (e2).symm
  have hPc := hP.sub (ws' := [(h, .inr (0, [.ref pw, .ref ps, .ref po, .ref pk, .int (nI n)])), (pw, .inl (cI, 6, .inl wd)), (ps, .inl (cZ, 6, .inl sg)), (po, .inl (cI, 64, .inl ow)), (pk, .inl (cI, 64, .inl co))]) [2, 3, 4, 5, 6] rfl
  have hDc := hD.sub (ws' := [(h, .inr (0, [.ref pw, .ref ps, .ref po, .ref pk, .int (nI n)])), (pw, .inl (cI, 6, .inl wd)), (ps, .inl (cZ, 6, .inl sg)), (po, .inl (cI, 64, .inl ow)), (pk, .inl (cI, 64, .inl co))]) [2, 3, 4, 5, 6] (by decide) rfl
  have hKc := hK.sub (tys' := [(cI, .int), (cZ, .boolean)]) [1, 2] rfl
  have hFc := va_free (wc := [(h, .inr (0, [.ref pw, .ref ps, .ref po, .ref pk, .int (nI n)])), (pw, .inl (cI, 6, .inl wd)), (ps, .inl (cZ, 6, .inl sg)), (po, .inl (cI, 64, .inl ow)), (pk, .inl (cI, 64, .inl co))]) hD hS hA [2, 3, 4, 5, 6] rfl
  refine va_callv (va_runV (As := []) (rest := []) ⟨hx, hb, hml, hown, hw⟩ (c_F_forgetAll l dC dI _ cI cZ h pw ps po pk n wd sg ow co it w sb hF) (cwV 0 hw (gV kw_148 kw_149 kw_150 kw_15 kw_151) rfl rfl rfl (by decide +kernel) ⟨Nat.le_of_ble_eq_true rfl, Nat.le_of_ble_eq_true rfl⟩) (rw_preV (q0 := 0) hKc hPc hDc rfl rfl) rfl rfl hl.1 rfl (lv_room (Nat.le_of_ble_eq_true rfl)) dX_clear_5 ⟨Nat.zero_le _, Nat.zero_le _⟩) hS (fun q _ h => hFc q h) hFc (fun u t H1 locs ht hvm e5 hB hz1 hk1 hS => ?_)
  obtain ⟨wd', hR', hP1, hK1, hD1⟩ := hB
  rw [ht] at hP1
  obtain ⟨hP, hD⟩ := va_join (wr := [(ax, .inr (1, [.ref hfm, .ref hq])), (hfm, .inl (cR, 8, .inr (.inr (.inr (.inr fa)))))]) (w1 := [(h, .inr (0, [.ref pw, .ref ps, .ref po, .ref pk, .int (nI 0)])), (pw, .inl (cI, 6, .inl wd')), (ps, .inl (cZ, 6, .inl sg)), (po, .inl (cI, 64, .inl ow)), (pk, .inl (cI, 64, .inl co))]) hP hD [2, 3, 4, 5, 6] [0, 1] rfl rfl (by decide) (by decide) hk1 hFc hP1 hD1
  generalize H1 = H at hP hS ⊢
  have hP : va_P (dC, dI) cls3 [(ax, .inr (1, [.ref hfm, .ref hq])), (hfm, .inl (cR, 8, .inr (.inr (.inr (.inr fa))))), (h, .inr (0, [.ref pw, .ref ps, .ref po, .ref pk, .int (nI 0)])), (pw, .inl (cI, 6, .inl wd')), (ps, .inl (cZ, 6, .inl sg)), (po, .inl (cI, 64, .inl ow)), (pk, .inl (cI, 64, .inl co))] H := hP
  have hD : va_D A [(ax, .inr (1, [.ref hfm, .ref hq])), (hfm, .inl (cR, 8, .inr (.inr (.inr (.inr fa))))), (h, .inr (0, [.ref pw, .ref ps, .ref po, .ref pk, .int (nI 0)])), (pw, .inl (cI, 6, .inl wd')), (ps, .inl (cZ, 6, .inl sg)), (po, .inl (cI, 64, .inl ow)), (pk, .inl (cI, 64, .inl co))] := hD
  exact W.vret hx hb hr (fun t ht hW => ⟨⟨(), rfl, trivial, wd', hR', by rw [ht]; exact hP, va_K.moved hW.alike hK, hD⟩, hS.F ht⟩) hS.2.2 dX_clear_8

set_option maxHeartbeats 4000000 in
set_option maxRecDepth 100000 in
theorem c_X_operand (l : Launch) (dC : Nat → ClassId) (dI : Nat → Nat → Nat) (sz : Nat) (sa : Nat → Nat) (cR : ClassId) (ax hfm hq : Nat) (fa : Nat → Option Nat) (cI cZ : ClassId) (h pw ps po pk n : Nat) (wd sg ow co : Nat → Int32) (it w : Nat → Nat) (sb : Nat → Bool) (hF : fR n it w sb wd sg ow co) (f : Nat) (hf : f < 8) (hfa : fa f = some h) (o k : Nat) (b : Bool) (ho : o < 6) (hk : 1 ≤ k ∧ k ≤ 64) (h0 : w o = 0) : Met l yX_operand wX_operand { frames := 1, cells := 0, slots := 0, locals := 23 } (xw_Pc sa (dC, dI) cls3 [(ax, .inr (1, [.ref hfm, .ref hq])), (hfm, .inl (cR, 8, .inr (.inr (.inr (.inr fa))))), (h, .inr (0, [.ref pw, .ref ps, .ref po, .ref pk, .int (nI n)])), (pw, .inl (cI, 6, .inl wd)), (ps, .inl (cZ, 6, .inl sg)), (po, .inl (cI, 64, .inl ow)), (pk, .inl (cI, 64, .inl co))] [(cR, .object "SliceCoder$Form"), (cI, .int), (cZ, .boolean)] sz [.ref ax, .int (nI f), .int (nI o), .int (nI k), .int (nI b.toNat)]) (va_Qv (fun _ : Unit => True) (fun _ t => ∃ wd' sg' : Nat → Int32, fR n it (va_up w o k) (va_up sb o b) wd' sg' ow co ∧ va_P (dC, dI) cls3 [(ax, .inr (1, [.ref hfm, .ref hq])), (hfm, .inl (cR, 8, .inr (.inr (.inr (.inr fa))))), (h, .inr (0, [.ref pw, .ref ps, .ref po, .ref pk, .int (nI n)])), (pw, .inl (cI, 6, .inl wd')), (ps, .inl (cZ, 6, .inl sg')), (po, .inl (cI, 64, .inl ow)), (pk, .inl (cI, 64, .inl co))] t.heap ∧ va_K (dC, dI) cls3 [(cR, .object "SliceCoder$Form"), (cI, .int), (cZ, .boolean)] t ∧ va_D (va_A [(ax, .inr (1, [.ref hfm, .ref hq])), (hfm, .inl (cR, 8, .inr (.inr (.inr (.inr fa))))), (h, .inr (0, [.ref pw, .ref ps, .ref po, .ref pk, .int (nI n)])), (pw, .inl (cI, 6, .inl wd)), (ps, .inl (cZ, 6, .inl sg)), (po, .inl (cI, 64, .inl ow)), (pk, .inl (cI, 64, .inl co))] sz) [(ax, .inr (1, [.ref hfm, .ref hq])), (hfm, .inl (cR, 8, .inr (.inr (.inr (.inr fa))))), (h, .inr (0, [.ref pw, .ref ps, .ref po, .ref pk, .int (nI n)])), (pw, .inl (cI, 6, .inl wd')), (ps, .inl (cZ, 6, .inl sg')), (po, .inl (cI, 64, .inl ow)), (pk, .inl (cI, 64, .inl co))]) (va_A [(ax, .inr (1, [.ref hfm, .ref hq])), (hfm, .inl (cR, 8, .inr (.inr (.inr (.inr fa))))), (h, .inr (0, [.ref pw, .ref ps, .ref po, .ref pk, .int (nI n)])), (pw, .inl (cI, 6, .inl wd)), (ps, .inl (cZ, 6, .inl sg)), (po, .inl (cI, 64, .inl ow)), (pk, .inl (cI, 64, .inl co))] sz)) 0 0 (va_A [(ax, .inr (1, [.ref hfm, .ref hq])), (hfm, .inl (cR, 8, .inr (.inr (.inr (.inr fa))))), (h, .inr (0, [.ref pw, .ref ps, .ref po, .ref pk, .int (nI n)])), (pw, .inl (cI, 6, .inl wd)), (ps, .inl (cZ, 6, .inl sg)), (po, .inl (cI, 64, .inl ow)), (pk, .inl (cI, 64, .inl co))] sz) := by
  refine Met.ofW (cc := cX_operand) (maxL := 6) (ret := none) (by decide) rfl ?_
  intro p e s m args below meth c s₁ B hml hv
  obtain ⟨rfl, hsz, hP, hK, hD0, hV, hZ⟩ := hv
  have hx := B.exec
  have hb := B.bytes
  have hr := B.returns
  have hts := atoms_spec (ws := wX_operand) B.pre
  have hw : ∀ w ∈ wA, w.before _ s = true := fun w h => hts w (List.mem_cons_of_mem _ h)
  have hown : s.vm.findClass RX = some m.cls := findClass_of_methodNamed B.named
  have hlocks := B.notSynchronized
  subst hsz
  have hD := hD0.self (sz := s.heap.size)
  generalize hAe : va_A [(ax, .inr (1, [.ref hfm, .ref hq])), (hfm, .inl (cR, 8, .inr (.inr (.inr (.inr fa))))), (h, .inr (0, [.ref pw, .ref ps, .ref po, .ref pk, .int (nI n)])), (pw, .inl (cI, 6, .inl wd)), (ps, .inl (cZ, 6, .inl sg)), (po, .inl (cI, 64, .inl ow)), (pk, .inl (cI, 64, .inl co))] s.heap.size = A at hD ⊢
  have hA : ∀ q : Nat, s.heap.size ≤ q → A q := fun q h => by rw [← hAe]; exact Or.inr h
  have hS : va_S A s.heap s.heap [] := va_S.rf
  have hl := lv_entry ([.ref ax, .int (nI f), .int (nI o), .int (nI k), .int (nI b.toNat)]) (n := 6) (Nat.le_of_ble_eq_true rfl)
  rw [lg_entry_eq]
  generalize (lg_sl ([.ref ax, .int (nI f), .int (nI o), .int (nI k), .int (nI b.toNat)]) ++ List.replicate (6 - (lg_sl ([.ref ax, .int (nI f), .int (nI o), .int (nI k), .int (nI b.toNat)])).length) Slot.unset).toArray = ls at hl ⊢
  have hl : lv_has ls 6 [(0, .ref ax), (1, .int (nI f)), (2, .int (nI o)), (3, .int (nI k)), (4, .int (nI b.toNat))] := hl
  refine lv_aload_n hx hb dX_operand_0 rfl (lv_at hl 0 rfl) ?_
  refine lv_iload_n hx hb dX_operand_1 rfl (lv_at hl 1 rfl) ?_
  refine va_csr (W.runV (As := [.int (nI f)]) (rest := []) ⟨hx, hb, hml, hown, hw⟩ (c_X_formAt l dC dI sa cR ax hfm hq fa f h hf hfa) (cwV 1 hw (gV kw_75 kw_77 kw_0 kw_14 kw_78) rfl rfl rfl (by decide +kernel) ⟨Nat.le_of_ble_eq_true rfl, Nat.le_of_ble_eq_true rfl⟩) (xo_preV (q0 := 0) (hK.sub (tys' := [(cR, .object "SliceCoder$Form")]) [0] rfl) (hP.sub (ws' := [(ax, .inr (1, [.ref hfm, .ref hq])), (hfm, .inl (cR, 8, .inr (.inr (.inr (.inr fa)))))]) [0, 1] rfl) hV hZ rfl rfl) rfl rfl hl.1 rfl (lv_room (Nat.le_of_ble_eq_true rfl)) dX_operand_2 ⟨Nat.zero_le _, Nat.zero_le _⟩) (fun v2 e2 => ?_)
  obtain rfl : h = v2 := (e2).symm
  refine lv_astore hx hb dX_operand_5 hl (by decide) rfl (fun ls hl => ?_)
  have hl : lv_has ls 6 [(5, .ref h), (0, .ref ax), (1, .int (nI f)), (2, .int (nI o)), (3, .int (nI k)), (4, .int (nI b.toNat))] := hl
  refine lv_iload_n hx hb dX_operand_7 rfl (lv_at hl 3 rfl) ?_
  refine va_csv (W.runS (As := [.int (nI o)]) (rest := []) ⟨hx, hb, hml, hown, hw⟩ (c_X_checkOperandIndex l o ho) (cwS 1 hw (gS kw_160 kw_161 kw_14 kw_162) rfl rfl rfl (by decide +kernel) ⟨Nat.le_of_ble_eq_true rfl, Nat.le_of_ble_eq_true rfl⟩) preEq rfl rfl hl.1 rfl (lv_room (Nat.le_of_ble_eq_true rfl)) dX_operand_8 ⟨Nat.zero_le _, Nat.zero_le _⟩) (fun _ => ?_)
  refine lv_iload_n hx hb dX_operand_11 rfl (lv_at hl 4 rfl) ?_
  refine va_csv (W.runS (As := [.int (nI k)]) (rest := []) ⟨hx, hb, hml, hown, hw⟩ (c_X_checkBitCount l k hk) (cwS 1 hw (gS kw_164 kw_165 kw_14 kw_166) rfl rfl rfl (by decide +kernel) ⟨Nat.le_of_ble_eq_true rfl, Nat.le_of_ble_eq_true rfl⟩) preEq rfl rfl hl.1 rfl (lv_room (Nat.le_of_ble_eq_true rfl)) dX_operand_12 ⟨Nat.zero_le _, Nat.zero_le _⟩) (fun _ => ?_)
  refine lv_aload hx hb dX_operand_15 (lv_at hl 0 rfl) ?_
  refine lv_iload_n hx hb dX_operand_17 rfl (lv_at hl 3 rfl) ?_
  refine vp_callSi (W.runV (As := [.int (nI o)]) (rest := []) ⟨hx, hb, hml, hown, hw⟩ (c_F_hasOperand l dC dI cI cZ h pw ps po pk n wd sg ow co it w sb hF (nI o)) (cwV 1 hw (gV kw_168 kw_169 kw_170 kw_15 kw_171) rfl rfl rfl (by decide +kernel) ⟨Nat.le_of_ble_eq_true rfl, Nat.le_of_ble_eq_true rfl⟩) (ro_preV (q0 := 0) (hK.sub (tys' := [(cI, .int), (cZ, .boolean)]) [1, 2] rfl) (hP.sub (ws' := [(h, .inr (0, [.ref pw, .ref ps, .ref po, .ref pk, .int (nI n)])), (pw, .inl (cI, 6, .inl wd)), (ps, .inl (cZ, 6, .inl sg)), (po, .inl (cI, 64, .inl ow)), (pk, .inl (cI, 64, .inl co))]) [2, 3, 4, 5, 6] rfl) rfl rfl) rfl rfl hl.1 rfl (lv_room (Nat.le_of_ble_eq_true rfl)) dX_operand_18 ⟨Nat.zero_le _, Nat.zero_le _⟩) (fun v18 e18 => ?_)
  obtain rfl : v18 = nI 0 := e18.trans (by rw [hop_nI w ho, h0]; rfl)
  refine lv_if_eq (tgt := 34) hx hb dX_operand_21 (by decide) (fun h21 => ?_) (fun h21 => ?_)
  · refine lv_aload hx hb dX_operand_34 (lv_at hl 0 rfl) ?_
    refine lv_iload_n hx hb dX_operand_36 rfl (lv_at hl 3 rfl) ?_
    refine lv_iload_n hx hb dX_operand_37 rfl (lv_at hl 4 rfl) ?_
    refine lv_iload hx hb dX_operand_38 (lv_at hl 5 rfl) ?_
    have hPc := hP.sub (ws' := [(h, .inr (0, [.ref pw, .ref ps, .ref po, .ref pk, .int (nI n)])), (pw, .inl (cI, 6, .inl wd)), (ps, .inl (cZ, 6, .inl sg)), (po, .inl (cI, 64, .inl ow)), (pk, .inl (cI, 64, .inl co))]) [2, 3, 4, 5, 6] rfl
    have hDc := hD.sub (ws' := [(h, .inr (0, [.ref pw, .ref ps, .ref po, .ref pk, .int (nI n)])), (pw, .inl (cI, 6, .inl wd)), (ps, .inl (cZ, 6, .inl sg)), (po, .inl (cI, 64, .inl ow)), (pk, .inl (cI, 64, .inl co))]) [2, 3, 4, 5, 6] (by decide) rfl
    have hKc := hK.sub (tys' := [(cI, .int), (cZ, .boolean)]) [1, 2] rfl
    have hFc := va_free (wc := [(h, .inr (0, [.ref pw, .ref ps, .ref po, .ref pk, .int (nI n)])), (pw, .inl (cI, 6, .inl wd)), (ps, .inl (cZ, 6, .inl sg)), (po, .inl (cI, 64, .inl ow)), (pk, .inl (cI, 64, .inl co))]) hD hS hA [2, 3, 4, 5, 6] rfl
    refine va_callv (va_runV (As := [.int (nI o), .int (nI k), .int (nI b.toNat)]) (rest := []) ⟨hx, hb, hml, hown, hw⟩ (c_F_addOperand l dC dI _ cI cZ h pw ps po pk n wd sg ow co it w sb hF o k b ho hk.2 h0) (cwV 3 hw (gV kw_188 kw_189 kw_190 kw_15 kw_191) rfl rfl rfl (by decide +kernel) ⟨Nat.le_of_ble_eq_true rfl, Nat.le_of_ble_eq_true rfl⟩) (rw_preV (q0 := 0) hKc hPc hDc rfl rfl) rfl rfl hl.1 rfl (lv_room (Nat.le_of_ble_eq_true rfl)) dX_operand_40 ⟨Nat.zero_le _, Nat.zero_le _⟩) hS (fun q _ h => hFc q h) hFc (fun u t H1 locs ht hvm e40 hB hz1 hk1 hS => ?_)
    obtain ⟨wd', sg', hR', hP1, hK1, hD1⟩ := hB
    rw [ht] at hP1
    obtain ⟨hP, hD⟩ := va_join (wr := [(ax, .inr (1, [.ref hfm, .ref hq])), (hfm, .inl (cR, 8, .inr (.inr (.inr (.inr fa)))))]) (w1 := [(h, .inr (0, [.ref pw, .ref ps, .ref po, .ref pk, .int (nI n)])), (pw, .inl (cI, 6, .inl wd')), (ps, .inl (cZ, 6, .inl sg')), (po, .inl (cI, 64, .inl ow)), (pk, .inl (cI, 64, .inl co))]) hP hD [2, 3, 4, 5, 6] [0, 1] rfl rfl (by decide) (by decide) hk1 hFc hP1 hD1
    generalize H1 = H at hP hS ⊢
    have hP : va_P (dC, dI) cls3 [(ax, .inr (1, [.ref hfm, .ref hq])), (hfm, .inl (cR, 8, .inr (.inr (.inr (.inr fa))))), (h, .inr (0, [.ref pw, .ref ps, .ref po, .ref pk, .int (nI n)])), (pw, .inl (cI, 6, .inl wd')), (ps, .inl (cZ, 6, .inl sg')), (po, .inl (cI, 64, .inl ow)), (pk, .inl (cI, 64, .inl co))] H := hP
    have hD : va_D A [(ax, .inr (1, [.ref hfm, .ref hq])), (hfm, .inl (cR, 8, .inr (.inr (.inr (.inr fa))))), (h, .inr (0, [.ref pw, .ref ps, .ref po, .ref pk, .int (nI n)])), (pw, .inl (cI, 6, .inl wd')), (ps, .inl (cZ, 6, .inl sg')), (po, .inl (cI, 64, .inl ow)), (pk, .inl (cI, 64, .inl co))] := hD
    exact W.vret hx hb hr (fun t ht hW => ⟨⟨(), rfl, trivial, wd', sg', hR', by rw [ht]; exact hP, va_K.moved hW.alike hK, hD⟩, hS.F ht⟩) hS.2.2 dX_operand_43
  · exfalso
    first | exact h21 (by decide +kernel) | exact absurd h21 (by decide +kernel)

set_option maxHeartbeats 4000000 in
set_option maxRecDepth 100000 in
theorem c_X_fixed (l : Launch) (dC : Nat → ClassId) (dI : Nat → Nat → Nat) (sz : Nat) (sa : Nat → Nat) (cR : ClassId) (ax hfm hq : Nat) (fa : Nat → Option Nat) (cI cZ : ClassId) (h pw ps po pk n : Nat) (wd sg ow co : Nat → Int32) (it w : Nat → Nat) (sb : Nat → Bool) (hF : fR n it w sb wd sg ow co) (f : Nat) (hf : f < 8) (hfa : fa f = some h) (cnt : Nat) (v : Int64) (hc : 1 ≤ cnt ∧ cnt ≤ 64) (hr9 : n + cnt ≤ 64) : Met l yX_fixed wX_fixed { frames := 2, cells := 0, slots := 0, locals := 46 } (xw_Pc sa (dC, dI) cls3 [(ax, .inr (1, [.ref hfm, .ref hq])), (hfm, .inl (cR, 8, .inr (.inr (.inr (.inr fa))))), (h, .inr (0, [.ref pw, .ref ps, .ref po, .ref pk, .int (nI n)])), (pw, .inl (cI, 6, .inl wd)), (ps, .inl (cZ, 6, .inl sg)), (po, .inl (cI, 64, .inl ow)), (pk, .inl (cI, 64, .inl co))] [(cR, .object "SliceCoder$Form"), (cI, .int), (cZ, .boolean)] sz [.ref ax, .int (nI f), .int (nI cnt), .long v]) (va_Qi (fun (r : Int32) (_ : Unit) => r = nI (n + cnt)) (fun _ t => ∃ ow' co' : Nat → Int32, fR (n + cnt) (itF it n cnt v) w sb wd sg ow' co' ∧ va_P (dC, dI) cls3 [(ax, .inr (1, [.ref hfm, .ref hq])), (hfm, .inl (cR, 8, .inr (.inr (.inr (.inr fa))))), (h, .inr (0, [.ref pw, .ref ps, .ref po, .ref pk, .int (nI (n + cnt))])), (pw, .inl (cI, 6, .inl wd)), (ps, .inl (cZ, 6, .inl sg)), (po, .inl (cI, 64, .inl ow')), (pk, .inl (cI, 64, .inl co'))] t.heap ∧ va_K (dC, dI) cls3 [(cR, .object "SliceCoder$Form"), (cI, .int), (cZ, .boolean)] t ∧ va_D (va_A [(ax, .inr (1, [.ref hfm, .ref hq])), (hfm, .inl (cR, 8, .inr (.inr (.inr (.inr fa))))), (h, .inr (0, [.ref pw, .ref ps, .ref po, .ref pk, .int (nI n)])), (pw, .inl (cI, 6, .inl wd)), (ps, .inl (cZ, 6, .inl sg)), (po, .inl (cI, 64, .inl ow)), (pk, .inl (cI, 64, .inl co))] sz) [(ax, .inr (1, [.ref hfm, .ref hq])), (hfm, .inl (cR, 8, .inr (.inr (.inr (.inr fa))))), (h, .inr (0, [.ref pw, .ref ps, .ref po, .ref pk, .int (nI (n + cnt))])), (pw, .inl (cI, 6, .inl wd)), (ps, .inl (cZ, 6, .inl sg)), (po, .inl (cI, 64, .inl ow')), (pk, .inl (cI, 64, .inl co'))]) (va_A [(ax, .inr (1, [.ref hfm, .ref hq])), (hfm, .inl (cR, 8, .inr (.inr (.inr (.inr fa))))), (h, .inr (0, [.ref pw, .ref ps, .ref po, .ref pk, .int (nI n)])), (pw, .inl (cI, 6, .inl wd)), (ps, .inl (cZ, 6, .inl sg)), (po, .inl (cI, 64, .inl ow)), (pk, .inl (cI, 64, .inl co))] sz)) 0 0 (va_A [(ax, .inr (1, [.ref hfm, .ref hq])), (hfm, .inl (cR, 8, .inr (.inr (.inr (.inr fa))))), (h, .inr (0, [.ref pw, .ref ps, .ref po, .ref pk, .int (nI n)])), (pw, .inl (cI, 6, .inl wd)), (ps, .inl (cZ, 6, .inl sg)), (po, .inl (cI, 64, .inl ow)), (pk, .inl (cI, 64, .inl co))] sz) := by
  refine Met.ofW (cc := cX_fixed) (maxL := 6) (ret := (some .int)) (by decide) rfl ?_
  intro p e s m args below meth c s₁ B hml hv
  obtain ⟨rfl, hsz, hP, hK, hD0, hV, hZ⟩ := hv
  have hx := B.exec
  have hb := B.bytes
  have hr := B.returns
  have hts := atoms_spec (ws := wX_fixed) B.pre
  have hw : ∀ w ∈ wA, w.before _ s = true := fun w h => hts w (List.mem_cons_of_mem _ h)
  have hown : s.vm.findClass RX = some m.cls := findClass_of_methodNamed B.named
  have hlocks := B.notSynchronized
  subst hsz
  have hD := hD0.self (sz := s.heap.size)
  generalize hAe : va_A [(ax, .inr (1, [.ref hfm, .ref hq])), (hfm, .inl (cR, 8, .inr (.inr (.inr (.inr fa))))), (h, .inr (0, [.ref pw, .ref ps, .ref po, .ref pk, .int (nI n)])), (pw, .inl (cI, 6, .inl wd)), (ps, .inl (cZ, 6, .inl sg)), (po, .inl (cI, 64, .inl ow)), (pk, .inl (cI, 64, .inl co))] s.heap.size = A at hD ⊢
  have hA : ∀ q : Nat, s.heap.size ≤ q → A q := fun q h => by rw [← hAe]; exact Or.inr h
  have hS : va_S A s.heap s.heap [] := va_S.rf
  have hl := lv_entry ([.ref ax, .int (nI f), .int (nI cnt), .long v]) (n := 6) (Nat.le_of_ble_eq_true rfl)
  rw [lg_entry_eq]
  generalize (lg_sl ([.ref ax, .int (nI f), .int (nI cnt), .long v]) ++ List.replicate (6 - (lg_sl ([.ref ax, .int (nI f), .int (nI cnt), .long v])).length) Slot.unset).toArray = ls at hl ⊢
  have hl : lv_has ls 6 [(0, .ref ax), (1, .int (nI f)), (2, .int (nI cnt)), (3, .long v)] := hl
  have hN_widths : ∀ A9, (Cond.fieldLinkNest "SliceCoder" 70 "SliceCoder$Form" "widths" "[I" "SliceCoder").before A9 s = true := fun A9 => va_Nw.use (by rfl) (hV.1 _ (by decide +kernel))
  have hN_length : ∀ A9, (Cond.fieldLinkNest "SliceCoder" 57 "SliceCoder$Form" "length" "I" "SliceCoder").before A9 s = true := fun A9 => va_Nw.use (by rfl) (hV.1 _ (by decide +kernel))
  refine lv_aload_n hx hb dX_fixed_0 rfl (lv_at hl 0 rfl) ?_
  refine lv_iload_n hx hb dX_fixed_1 rfl (lv_at hl 1 rfl) ?_
  refine va_csr (W.runV (As := [.int (nI f)]) (rest := []) ⟨hx, hb, hml, hown, hw⟩ (c_X_formAt l dC dI sa cR ax hfm hq fa f h hf hfa) (cwV 1 hw (gV kw_75 kw_77 kw_0 kw_14 kw_78) rfl rfl rfl (by decide +kernel) ⟨Nat.le_of_ble_eq_true rfl, Nat.le_of_ble_eq_true rfl⟩) (xo_preV (q0 := 0) (hK.sub (tys' := [(cR, .object "SliceCoder$Form")]) [0] rfl) (hP.sub (ws' := [(ax, .inr (1, [.ref hfm, .ref hq])), (hfm, .inl (cR, 8, .inr (.inr (.inr (.inr fa)))))]) [0, 1] rfl) hV hZ rfl rfl) rfl rfl hl.1 rfl (lv_room (Nat.le_of_ble_eq_true rfl)) dX_fixed_2 ⟨Nat.zero_le _, Nat.zero_le _⟩) (fun v2 e2 => ?_)
  obtain rfl : h = v2 := (e2).symm
  refine lv_astore hx hb dX_fixed_5 hl (by decide) rfl (fun ls hl => ?_)
  have hl : lv_has ls 6 [(5, .ref h), (0, .ref ax), (1, .int (nI f)), (2, .int (nI cnt)), (3, .long v)] := hl
  refine lv_iload_n hx hb dX_fixed_7 rfl (lv_at hl 3 rfl) ?_
  refine va_csv (W.runS (As := [.int (nI cnt)]) (rest := []) ⟨hx, hb, hml, hown, hw⟩ (c_X_checkBitCount l cnt hc) (cwS 1 hw (gS kw_164 kw_165 kw_14 kw_166) rfl rfl rfl (by decide +kernel) ⟨Nat.le_of_ble_eq_true rfl, Nat.le_of_ble_eq_true rfl⟩) preEq rfl rfl hl.1 rfl (lv_room (Nat.le_of_ble_eq_true rfl)) dX_fixed_8 ⟨Nat.zero_le _, Nat.zero_le _⟩) (fun _ => ?_)
  refine lv_aload hx hb dX_fixed_11 (lv_at hl 0 rfl) ?_
  refine lv_iload_n hx hb dX_fixed_13 rfl (lv_at hl 3 rfl) ?_
  refine va_csv (W.runS (As := [.ref h, .int (nI cnt)]) (rest := []) ⟨hx, hb, hml, hown, hw⟩ (c_X_checkRoom l dC dI sa cI cZ h pw ps po pk n wd sg ow co it w sb hF cnt hr9) (cwS 2 hw (gS kw_200 kw_201 kw_14 kw_202) rfl rfl rfl (by decide +kernel) ⟨Nat.le_of_ble_eq_true rfl, Nat.le_of_ble_eq_true rfl⟩) (xo_preS (hK.sub (tys' := [(cI, .int), (cZ, .boolean)]) [1, 2] rfl) (hP.sub (ws' := [(h, .inr (0, [.ref pw, .ref ps, .ref po, .ref pk, .int (nI n)])), (pw, .inl (cI, 6, .inl wd)), (ps, .inl (cZ, 6, .inl sg)), (po, .inl (cI, 64, .inl ow)), (pk, .inl (cI, 64, .inl co))]) [2, 3, 4, 5, 6] rfl) hV hZ) rfl rfl hl.1 rfl (lv_room (Nat.le_of_ble_eq_true rfl)) dX_fixed_14 ⟨Nat.zero_le _, Nat.zero_le _⟩) (fun _ => ?_)
  refine lv_aload hx hb dX_fixed_17 (lv_at hl 0 rfl) ?_
  refine lv_iload_n hx hb dX_fixed_19 rfl (lv_at hl 3 rfl) ?_
  refine lv_lload_n hx hb dX_fixed_20 rfl (lv_at hl 4 rfl) ?_
  have hPc := hP.sub (ws' := [(h, .inr (0, [.ref pw, .ref ps, .ref po, .ref pk, .int (nI n)])), (pw, .inl (cI, 6, .inl wd)), (ps, .inl (cZ, 6, .inl sg)), (po, .inl (cI, 64, .inl ow)), (pk, .inl (cI, 64, .inl co))]) [2, 3, 4, 5, 6] rfl
  have hDc := hD.sub (ws' := [(h, .inr (0, [.ref pw, .ref ps, .ref po, .ref pk, .int (nI n)])), (pw, .inl (cI, 6, .inl wd)), (ps, .inl (cZ, 6, .inl sg)), (po, .inl (cI, 64, .inl ow)), (pk, .inl (cI, 64, .inl co))]) [2, 3, 4, 5, 6] (by decide) rfl
  have hKc := hK.sub (tys' := [(cI, .int), (cZ, .boolean)]) [1, 2] rfl
  have hFc := va_free (wc := [(h, .inr (0, [.ref pw, .ref ps, .ref po, .ref pk, .int (nI n)])), (pw, .inl (cI, 6, .inl wd)), (ps, .inl (cZ, 6, .inl sg)), (po, .inl (cI, 64, .inl ow)), (pk, .inl (cI, 64, .inl co))]) hD hS hA [2, 3, 4, 5, 6] rfl
  refine va_callv (va_runV (As := [.int (nI cnt), .long v]) (rest := []) ⟨hx, hb, hml, hown, hw⟩ (c_F_appendFixed l dC dI _ cI cZ h pw ps po pk n wd sg ow co it w sb hF cnt v hr9) (cwV 2 hw (gV kw_219 kw_220 kw_221 kw_15 kw_222) rfl rfl rfl (by decide +kernel) ⟨Nat.le_of_ble_eq_true rfl, Nat.le_of_ble_eq_true rfl⟩) (rw_preV (q0 := 0) hKc hPc hDc rfl rfl) rfl rfl hl.1 rfl (lv_room (Nat.le_of_ble_eq_true rfl)) dX_fixed_21 ⟨Nat.zero_le _, Nat.zero_le _⟩) hS (fun q _ h => hFc q h) hFc (fun u t H1 locs ht hvm e21 hB hz1 hk1 hS => ?_)
  obtain ⟨ow', co', hR', hP1, hK1, hD1⟩ := hB
  rw [ht] at hP1
  obtain ⟨hP, hD⟩ := va_join (wr := [(ax, .inr (1, [.ref hfm, .ref hq])), (hfm, .inl (cR, 8, .inr (.inr (.inr (.inr fa)))))]) (w1 := [(h, .inr (0, [.ref pw, .ref ps, .ref po, .ref pk, .int (nI (n + cnt))])), (pw, .inl (cI, 6, .inl wd)), (ps, .inl (cZ, 6, .inl sg)), (po, .inl (cI, 64, .inl ow')), (pk, .inl (cI, 64, .inl co'))]) hP hD [2, 3, 4, 5, 6] [0, 1] rfl rfl (by decide) (by decide) hk1 hFc hP1 hD1
  generalize H1 = H at hP hS ⊢
  have hP : va_P (dC, dI) cls3 [(ax, .inr (1, [.ref hfm, .ref hq])), (hfm, .inl (cR, 8, .inr (.inr (.inr (.inr fa))))), (h, .inr (0, [.ref pw, .ref ps, .ref po, .ref pk, .int (nI (n + cnt))])), (pw, .inl (cI, 6, .inl wd)), (ps, .inl (cZ, 6, .inl sg)), (po, .inl (cI, 64, .inl ow')), (pk, .inl (cI, 64, .inl co'))] H := hP
  have hD : va_D A [(ax, .inr (1, [.ref hfm, .ref hq])), (hfm, .inl (cR, 8, .inr (.inr (.inr (.inr fa))))), (h, .inr (0, [.ref pw, .ref ps, .ref po, .ref pk, .int (nI (n + cnt))])), (pw, .inl (cI, 6, .inl wd)), (ps, .inl (cZ, 6, .inl sg)), (po, .inl (cI, 64, .inl ow')), (pk, .inl (cI, 64, .inl co'))] := hD
  refine lv_aload hx hb dX_fixed_24 (lv_at hl 0 rfl) ?_
  refine va_getN (D := (dC, dI)) (ci := 0) (v := .int (nI (n + cnt))) (C := RF) (T := TF) (N := 5) hx hb hw inF hown hK hP 2 rfl rfl 4 (by decide) (hN_length _) (fun _ h9 => h9) rfl dX_fixed_26 ?_
  exact W.iret (v := nI (n + cnt)) hx hb hr (fun t ht hW => ⟨⟨_, (), rfl, (rfl), ow', co', hR', by rw [ht]; exact hP, va_K.moved hW.alike hK, hD⟩, hS.F ht⟩) hS.2.2 dX_fixed_29

set_option maxHeartbeats 4000000 in
set_option maxRecDepth 100000 in
theorem c_X_slice (l : Launch) (dC : Nat → ClassId) (dI : Nat → Nat → Nat) (sz : Nat) (sa : Nat → Nat) (cR : ClassId) (ax hfm hq : Nat) (fa : Nat → Option Nat) (cI cZ : ClassId) (h pw ps po pk n : Nat) (wd sg ow co : Nat → Int32) (it w : Nat → Nat) (sb : Nat → Bool) (hF : fR n it w sb wd sg ow co) (f : Nat) (hf : f < 8) (hfa : fa f = some h) (o hi lo : Nat) (ho : o < 6) (hh : hi < w o) (hlo : lo ≤ hi) (hr9 : n + (hi + 1 - lo) ≤ 64) (hno : hany it n o hi lo = false) : Met l yX_slice wX_slice { frames := 2, cells := 0, slots := 0, locals := 46 } (xw_Pc sa (dC, dI) cls3 [(ax, .inr (1, [.ref hfm, .ref hq])), (hfm, .inl (cR, 8, .inr (.inr (.inr (.inr fa))))), (h, .inr (0, [.ref pw, .ref ps, .ref po, .ref pk, .int (nI n)])), (pw, .inl (cI, 6, .inl wd)), (ps, .inl (cZ, 6, .inl sg)), (po, .inl (cI, 64, .inl ow)), (pk, .inl (cI, 64, .inl co))] [(cR, .object "SliceCoder$Form"), (cI, .int), (cZ, .boolean)] sz [.ref ax, .int (nI f), .int (nI o), .int (nI hi), .int (nI lo)]) (va_Qi (fun (r : Int32) (_ : Unit) => r = nI (n + (hi + 1 - lo))) (fun _ t => ∃ ow' co' : Nat → Int32, fR (n + (hi + 1 - lo)) (itS it n o hi) w sb wd sg ow' co' ∧ va_P (dC, dI) cls3 [(ax, .inr (1, [.ref hfm, .ref hq])), (hfm, .inl (cR, 8, .inr (.inr (.inr (.inr fa))))), (h, .inr (0, [.ref pw, .ref ps, .ref po, .ref pk, .int (nI (n + (hi + 1 - lo)))])), (pw, .inl (cI, 6, .inl wd)), (ps, .inl (cZ, 6, .inl sg)), (po, .inl (cI, 64, .inl ow')), (pk, .inl (cI, 64, .inl co'))] t.heap ∧ va_K (dC, dI) cls3 [(cR, .object "SliceCoder$Form"), (cI, .int), (cZ, .boolean)] t ∧ va_D (va_A [(ax, .inr (1, [.ref hfm, .ref hq])), (hfm, .inl (cR, 8, .inr (.inr (.inr (.inr fa))))), (h, .inr (0, [.ref pw, .ref ps, .ref po, .ref pk, .int (nI n)])), (pw, .inl (cI, 6, .inl wd)), (ps, .inl (cZ, 6, .inl sg)), (po, .inl (cI, 64, .inl ow)), (pk, .inl (cI, 64, .inl co))] sz) [(ax, .inr (1, [.ref hfm, .ref hq])), (hfm, .inl (cR, 8, .inr (.inr (.inr (.inr fa))))), (h, .inr (0, [.ref pw, .ref ps, .ref po, .ref pk, .int (nI (n + (hi + 1 - lo)))])), (pw, .inl (cI, 6, .inl wd)), (ps, .inl (cZ, 6, .inl sg)), (po, .inl (cI, 64, .inl ow')), (pk, .inl (cI, 64, .inl co'))]) (va_A [(ax, .inr (1, [.ref hfm, .ref hq])), (hfm, .inl (cR, 8, .inr (.inr (.inr (.inr fa))))), (h, .inr (0, [.ref pw, .ref ps, .ref po, .ref pk, .int (nI n)])), (pw, .inl (cI, 6, .inl wd)), (ps, .inl (cZ, 6, .inl sg)), (po, .inl (cI, 64, .inl ow)), (pk, .inl (cI, 64, .inl co))] sz)) 0 0 (va_A [(ax, .inr (1, [.ref hfm, .ref hq])), (hfm, .inl (cR, 8, .inr (.inr (.inr (.inr fa))))), (h, .inr (0, [.ref pw, .ref ps, .ref po, .ref pk, .int (nI n)])), (pw, .inl (cI, 6, .inl wd)), (ps, .inl (cZ, 6, .inl sg)), (po, .inl (cI, 64, .inl ow)), (pk, .inl (cI, 64, .inl co))] sz) := by
  refine Met.ofW (cc := cX_slice) (maxL := 6) (ret := (some .int)) (by decide) rfl ?_
  intro p e s m args below meth c s₁ B hml hv
  obtain ⟨rfl, hsz, hP, hK, hD0, hV, hZ⟩ := hv
  have hx := B.exec
  have hb := B.bytes
  have hr := B.returns
  have hts := atoms_spec (ws := wX_slice) B.pre
  have hw : ∀ w ∈ wA, w.before _ s = true := fun w h => hts w (List.mem_cons_of_mem _ h)
  have hown : s.vm.findClass RX = some m.cls := findClass_of_methodNamed B.named
  have hlocks := B.notSynchronized
  subst hsz
  have hD := hD0.self (sz := s.heap.size)
  generalize hAe : va_A [(ax, .inr (1, [.ref hfm, .ref hq])), (hfm, .inl (cR, 8, .inr (.inr (.inr (.inr fa))))), (h, .inr (0, [.ref pw, .ref ps, .ref po, .ref pk, .int (nI n)])), (pw, .inl (cI, 6, .inl wd)), (ps, .inl (cZ, 6, .inl sg)), (po, .inl (cI, 64, .inl ow)), (pk, .inl (cI, 64, .inl co))] s.heap.size = A at hD ⊢
  have hA : ∀ q : Nat, s.heap.size ≤ q → A q := fun q h => by rw [← hAe]; exact Or.inr h
  have hS : va_S A s.heap s.heap [] := va_S.rf
  have hl := lv_entry ([.ref ax, .int (nI f), .int (nI o), .int (nI hi), .int (nI lo)]) (n := 6) (Nat.le_of_ble_eq_true rfl)
  rw [lg_entry_eq]
  generalize (lg_sl ([.ref ax, .int (nI f), .int (nI o), .int (nI hi), .int (nI lo)]) ++ List.replicate (6 - (lg_sl ([.ref ax, .int (nI f), .int (nI o), .int (nI hi), .int (nI lo)])).length) Slot.unset).toArray = ls at hl ⊢
  have hl : lv_has ls 6 [(0, .ref ax), (1, .int (nI f)), (2, .int (nI o)), (3, .int (nI hi)), (4, .int (nI lo))] := hl
  have hN_widths : ∀ A9, (Cond.fieldLinkNest "SliceCoder" 70 "SliceCoder$Form" "widths" "[I" "SliceCoder").before A9 s = true := fun A9 => va_Nw.use (by rfl) (hV.1 _ (by decide +kernel))
  have hN_length : ∀ A9, (Cond.fieldLinkNest "SliceCoder" 57 "SliceCoder$Form" "length" "I" "SliceCoder").before A9 s = true := fun A9 => va_Nw.use (by rfl) (hV.1 _ (by decide +kernel))
  have hn : n ≤ 64 := hF.1.1
  have hwd := hF.2.1
  have hsg := hF.2.2.1
  have hoc := hF.2.2.2
  have hit := cw_it hF.1
  have hw64 := hF.1.2.1
  have hwo := hw64 o ho
  have hw1 : 0 < w o := by omega
  refine lv_aload_n hx hb dX_slice_0 rfl (lv_at hl 0 rfl) ?_
  refine lv_iload_n hx hb dX_slice_1 rfl (lv_at hl 1 rfl) ?_
  refine lv_iload_n hx hb dX_slice_2 rfl (lv_at hl 2 rfl) ?_
  refine va_csr (W.runV (As := [.int (nI f), .int (nI o)]) (rest := []) ⟨hx, hb, hml, hown, hw⟩ (c_X_formWith l dC dI sa cR ax hfm hq fa cI cZ h pw ps po pk n wd sg ow co it w sb hF f hf hfa o ho hw1) (cwV 2 hw (gV kw_237 kw_239 kw_3 kw_14 kw_240) rfl rfl rfl (by decide +kernel) ⟨Nat.le_of_ble_eq_true rfl, Nat.le_of_ble_eq_true rfl⟩) (xo_preV (q0 := 0) hK hP hV hZ rfl rfl) rfl rfl hl.1 rfl (lv_room (Nat.le_of_ble_eq_true rfl)) dX_slice_3 ⟨Nat.zero_le _, Nat.zero_le _⟩) (fun v3 e3 => ?_)
  obtain rfl : h = v3 := (e3).symm
  refine lv_astore hx hb dX_slice_6 hl (by decide) rfl (fun ls hl => ?_)
  have hl : lv_has ls 6 [(5, .ref h), (0, .ref ax), (1, .int (nI f)), (2, .int (nI o)), (3, .int (nI hi)), (4, .int (nI lo))] := hl
  refine lv_iload_n hx hb dX_slice_8 rfl (lv_at hl 4 rfl) ?_
  refine lv_iload hx hb dX_slice_9 (lv_at hl 5 rfl) ?_
  refine lv_icmp_ge (tgt := 24) hx hb dX_slice_11 (by decide) (fun h11 => ?_) (fun h11 => ?_)
  · refine lv_iload hx hb dX_slice_24 (lv_at hl 5 rfl) ?_
    refine lv_if_lt (tgt := 40) hx hb dX_slice_26 (by decide) (fun h26 => ?_) (fun h26 => ?_)
    · exfalso
      exact nI_lt0 (by omega) h26
    · refine lv_iload_n hx hb dX_slice_29 rfl (lv_at hl 4 rfl) ?_
      refine lv_aload hx hb dX_slice_30 (lv_at hl 0 rfl) ?_
      refine va_getN (D := (dC, dI)) (ci := 0) (v := .ref pw) (C := RF) (T := TF) (N := 5) hx hb hw inF hown hK hP 2 rfl rfl 0 (by decide) (hN_widths _) (fun _ h9 => h9) rfl dX_slice_32 ?_
      refine lv_iload_n hx hb dX_slice_35 rfl (lv_at hl 3 rfl) ?_
      refine va_iald hx hb hK hP 3 1 rfl rfl (vp_in_nI (by omega) (by decide)) dX_slice_36 ?_
      refine lv_topi (fun v36 e36 => ?_)
      rw [nI_clamp (by omega)] at e36
      obtain rfl : v36 = nI (w o) := e36.trans (hwd o (by omega))
      refine lv_icmp_lt (tgt := 50) hx hb dX_slice_37 (by decide) (fun h37 => ?_) (fun h37 => ?_)
      · refine lv_aload hx hb dX_slice_50 (lv_at hl 0 rfl) ?_
        refine lv_iload_n hx hb dX_slice_52 rfl (lv_at hl 4 rfl) ?_
        refine lv_iload hx hb dX_slice_53 (lv_at hl 5 rfl) ?_
        refine lv_isub hx hb dX_slice_55 ?_
        refine lv_topi (fun v55 e55 => ?_)
        obtain rfl : v55 = nI (hi - lo) := e55.trans (pk_sub (by omega))
        refine lv_iconst (v := nI 1) hx hb dX_slice_56 (by decide +kernel) ?_
        refine lv_iadd hx hb dX_slice_57 ?_
        refine lv_topi (fun v57 e57 => ?_)
        obtain rfl : v57 = nI (hi - lo + 1) := e57.trans (nI_add _ _)
        refine va_csv (W.runS (As := [.ref h, .int (nI (hi - lo + 1))]) (rest := []) ⟨hx, hb, hml, hown, hw⟩ (c_X_checkRoom l dC dI sa cI cZ h pw ps po pk n wd sg ow co it w sb hF (hi - lo + 1) (by omega)) (cwS 2 hw (gS kw_200 kw_201 kw_14 kw_202) rfl rfl rfl (by decide +kernel) ⟨Nat.le_of_ble_eq_true rfl, Nat.le_of_ble_eq_true rfl⟩) (xo_preS (hK.sub (tys' := [(cI, .int), (cZ, .boolean)]) [1, 2] rfl) (hP.sub (ws' := [(h, .inr (0, [.ref pw, .ref ps, .ref po, .ref pk, .int (nI n)])), (pw, .inl (cI, 6, .inl wd)), (ps, .inl (cZ, 6, .inl sg)), (po, .inl (cI, 64, .inl ow)), (pk, .inl (cI, 64, .inl co))]) [2, 3, 4, 5, 6] rfl) hV hZ) rfl rfl hl.1 rfl (lv_room (Nat.le_of_ble_eq_true rfl)) dX_slice_58 ⟨Nat.zero_le _, Nat.zero_le _⟩) (fun _ => ?_)
        refine lv_aload hx hb dX_slice_61 (lv_at hl 0 rfl) ?_
        refine lv_iload_n hx hb dX_slice_63 rfl (lv_at hl 3 rfl) ?_
        refine lv_iload_n hx hb dX_slice_64 rfl (lv_at hl 4 rfl) ?_
        refine lv_iload hx hb dX_slice_65 (lv_at hl 5 rfl) ?_
        refine vp_callSi (W.runV (As := [.int (nI o), .int (nI hi), .int (nI lo)]) (rest := []) ⟨hx, hb, hml, hown, hw⟩ (c_F_holdsAny l dC dI cI cZ h pw ps po pk n wd sg ow co it w sb hF o hi lo ho (by omega) hlo) (cwV 3 hw (gV kw_244 kw_245 kw_246 kw_15 kw_247) rfl rfl rfl (by decide +kernel) ⟨Nat.le_of_ble_eq_true rfl, Nat.le_of_ble_eq_true rfl⟩) (ro_preV (q0 := 0) (hK.sub (tys' := [(cI, .int), (cZ, .boolean)]) [1, 2] rfl) (hP.sub (ws' := [(h, .inr (0, [.ref pw, .ref ps, .ref po, .ref pk, .int (nI n)])), (pw, .inl (cI, 6, .inl wd)), (ps, .inl (cZ, 6, .inl sg)), (po, .inl (cI, 64, .inl ow)), (pk, .inl (cI, 64, .inl co))]) [2, 3, 4, 5, 6] rfl) rfl rfl) rfl rfl hl.1 rfl (lv_room (Nat.le_of_ble_eq_true rfl)) dX_slice_67 ⟨Nat.zero_le _, Nat.zero_le _⟩) (fun v67 e67 => ?_)
        obtain rfl : v67 = nI 0 := e67.trans (by rw [show (!(allb (fun j => !(hcd it o hi lo j)) n)) = false from hno]; rfl)
        refine lv_if_eq (tgt := 83) hx hb dX_slice_70 (by decide) (fun h70 => ?_) (fun h70 => ?_)
        · refine lv_aload hx hb dX_slice_83 (lv_at hl 0 rfl) ?_
          refine lv_iload_n hx hb dX_slice_85 rfl (lv_at hl 3 rfl) ?_
          refine lv_iload_n hx hb dX_slice_86 rfl (lv_at hl 4 rfl) ?_
          refine lv_iload hx hb dX_slice_87 (lv_at hl 5 rfl) ?_
          have hPc := hP.sub (ws' := [(h, .inr (0, [.ref pw, .ref ps, .ref po, .ref pk, .int (nI n)])), (pw, .inl (cI, 6, .inl wd)), (ps, .inl (cZ, 6, .inl sg)), (po, .inl (cI, 64, .inl ow)), (pk, .inl (cI, 64, .inl co))]) [2, 3, 4, 5, 6] rfl
          have hDc := hD.sub (ws' := [(h, .inr (0, [.ref pw, .ref ps, .ref po, .ref pk, .int (nI n)])), (pw, .inl (cI, 6, .inl wd)), (ps, .inl (cZ, 6, .inl sg)), (po, .inl (cI, 64, .inl ow)), (pk, .inl (cI, 64, .inl co))]) [2, 3, 4, 5, 6] (by decide) rfl
          have hKc := hK.sub (tys' := [(cI, .int), (cZ, .boolean)]) [1, 2] rfl
          have hFc := va_free (wc := [(h, .inr (0, [.ref pw, .ref ps, .ref po, .ref pk, .int (nI n)])), (pw, .inl (cI, 6, .inl wd)), (ps, .inl (cZ, 6, .inl sg)), (po, .inl (cI, 64, .inl ow)), (pk, .inl (cI, 64, .inl co))]) hD hS hA [2, 3, 4, 5, 6] rfl
          refine va_callv (va_runV (As := [.int (nI o), .int (nI hi), .int (nI lo)]) (rest := []) ⟨hx, hb, hml, hown, hw⟩ (c_F_appendSlice l dC dI _ cI cZ h pw ps po pk n wd sg ow co it w sb hF o hi lo ho hh hlo hr9 (hany_no hno (by omega))) (cwV 3 hw (gV kw_249 kw_250 kw_251 kw_15 kw_252) rfl rfl rfl (by decide +kernel) ⟨Nat.le_of_ble_eq_true rfl, Nat.le_of_ble_eq_true rfl⟩) (rw_preV (q0 := 0) hKc hPc hDc rfl rfl) rfl rfl hl.1 rfl (lv_room (Nat.le_of_ble_eq_true rfl)) dX_slice_89 ⟨Nat.zero_le _, Nat.zero_le _⟩) hS (fun q _ h => hFc q h) hFc (fun u t H1 locs ht hvm e89 hB hz1 hk1 hS => ?_)
          obtain ⟨ow', co', hR', hP1, hK1, hD1⟩ := hB
          rw [ht] at hP1
          obtain ⟨hP, hD⟩ := va_join (wr := [(ax, .inr (1, [.ref hfm, .ref hq])), (hfm, .inl (cR, 8, .inr (.inr (.inr (.inr fa)))))]) (w1 := [(h, .inr (0, [.ref pw, .ref ps, .ref po, .ref pk, .int (nI (n + (hi + 1 - lo)))])), (pw, .inl (cI, 6, .inl wd)), (ps, .inl (cZ, 6, .inl sg)), (po, .inl (cI, 64, .inl ow')), (pk, .inl (cI, 64, .inl co'))]) hP hD [2, 3, 4, 5, 6] [0, 1] rfl rfl (by decide) (by decide) hk1 hFc hP1 hD1
          generalize H1 = H at hP hS ⊢
          have hP : va_P (dC, dI) cls3 [(ax, .inr (1, [.ref hfm, .ref hq])), (hfm, .inl (cR, 8, .inr (.inr (.inr (.inr fa))))), (h, .inr (0, [.ref pw, .ref ps, .ref po, .ref pk, .int (nI (n + (hi + 1 - lo)))])), (pw, .inl (cI, 6, .inl wd)), (ps, .inl (cZ, 6, .inl sg)), (po, .inl (cI, 64, .inl ow')), (pk, .inl (cI, 64, .inl co'))] H := hP
          have hD : va_D A [(ax, .inr (1, [.ref hfm, .ref hq])), (hfm, .inl (cR, 8, .inr (.inr (.inr (.inr fa))))), (h, .inr (0, [.ref pw, .ref ps, .ref po, .ref pk, .int (nI (n + (hi + 1 - lo)))])), (pw, .inl (cI, 6, .inl wd)), (ps, .inl (cZ, 6, .inl sg)), (po, .inl (cI, 64, .inl ow')), (pk, .inl (cI, 64, .inl co'))] := hD
          refine lv_aload hx hb dX_slice_92 (lv_at hl 0 rfl) ?_
          refine va_getN (D := (dC, dI)) (ci := 0) (v := .int (nI (n + (hi + 1 - lo)))) (C := RF) (T := TF) (N := 5) hx hb hw inF hown hK hP 2 rfl rfl 4 (by decide) (hN_length _) (fun _ h9 => h9) rfl dX_slice_94 ?_
          exact W.iret (v := nI (n + (hi + 1 - lo))) hx hb hr (fun t ht hW => ⟨⟨_, (), rfl, (rfl), ow', co', hR', by rw [ht]; exact hP, va_K.moved hW.alike hK, hD⟩, hS.F ht⟩) hS.2.2 dX_slice_97
        · exfalso
          first | exact h70 (by decide +kernel) | exact absurd h70 (by decide +kernel)
      · exfalso
        exact h37 (nI_lt hh (by omega))
  · exfalso
    exact h11 (nI_le hlo (by omega))

set_option maxHeartbeats 4000000 in
set_option maxRecDepth 100000 in
theorem c_X_whole (l : Launch) (dC : Nat → ClassId) (dI : Nat → Nat → Nat) (sa : Nat → Nat) (cR : ClassId) (ax hfm hq : Nat) (fa : Nat → Option Nat) (cI cZ : ClassId) (h pw ps po pk n : Nat) (wd sg ow co : Nat → Int32) (it w : Nat → Nat) (sb : Nat → Bool) (hF : fR n it w sb wd sg ow co) (f : Nat) (hf : f < 8) (hfa : fa f = some h) : Met l yX_whole wX_whole { frames := 3, cells := 0, slots := 0, locals := 64 } (xo_Pc sa (dC, dI) cls3 [(ax, .inr (1, [.ref hfm, .ref hq])), (hfm, .inl (cR, 8, .inr (.inr (.inr (.inr fa))))), (h, .inr (0, [.ref pw, .ref ps, .ref po, .ref pk, .int (nI n)])), (pw, .inl (cI, 6, .inl wd)), (ps, .inl (cZ, 6, .inl sg)), (po, .inl (cI, 64, .inl ow)), (pk, .inl (cI, 64, .inl co))] [(cR, .object "SliceCoder$Form"), (cI, .int), (cZ, .boolean)] [.ref ax, .int (nI f)]) (vp_Si (fun r => r = nI (decide (cw_lft it n w 6 = 0)).toNat)) 0 0 (fun _ => False) := by
  refine Met.ofW (cc := cX_whole) (maxL := 2) (ret := (some .boolean)) (by decide) rfl ?_
  intro p e s m args below meth c s₁ B hml hv
  obtain ⟨rfl, hP, hK, hV, hZ⟩ := hv
  have hx := B.exec
  have hb := B.bytes
  have hr := B.returns
  have hts := atoms_spec (ws := wX_whole) B.pre
  have hw : ∀ w ∈ wA, w.before _ s = true := fun w h => hts w (List.mem_cons_of_mem _ h)
  have hown : s.vm.findClass RX = some m.cls := findClass_of_methodNamed B.named
  have hlocks := B.notSynchronized
  have hl := lv_entry ([.ref ax, .int (nI f)]) (n := 2) (Nat.le_of_ble_eq_true rfl)
  rw [lg_entry_eq]
  generalize (lg_sl ([.ref ax, .int (nI f)]) ++ List.replicate (2 - (lg_sl ([.ref ax, .int (nI f)])).length) Slot.unset).toArray = ls at hl ⊢
  have hl : lv_has ls 2 [(0, .ref ax), (1, .int (nI f))] := hl
  refine lv_aload_n hx hb dX_whole_0 rfl (lv_at hl 0 rfl) ?_
  refine lv_iload_n hx hb dX_whole_1 rfl (lv_at hl 1 rfl) ?_
  refine va_csr (W.runV (As := [.int (nI f)]) (rest := []) ⟨hx, hb, hml, hown, hw⟩ (c_X_formAt l dC dI sa cR ax hfm hq fa f h hf hfa) (cwV 1 hw (gV kw_75 kw_77 kw_0 kw_14 kw_78) rfl rfl rfl (by decide +kernel) ⟨Nat.le_of_ble_eq_true rfl, Nat.le_of_ble_eq_true rfl⟩) (xo_preV (q0 := 0) (hK.sub (tys' := [(cR, .object "SliceCoder$Form")]) [0] rfl) (hP.sub (ws' := [(ax, .inr (1, [.ref hfm, .ref hq])), (hfm, .inl (cR, 8, .inr (.inr (.inr (.inr fa)))))]) [0, 1] rfl) hV hZ rfl rfl) rfl rfl hl.1 rfl (lv_room (Nat.le_of_ble_eq_true rfl)) dX_whole_2 ⟨Nat.zero_le _, Nat.zero_le _⟩) (fun v2 e2 => ?_)
  obtain rfl : h = v2 := (e2).symm
  refine vp_callSi (W.runV (As := []) (rest := []) ⟨hx, hb, hml, hown, hw⟩ (c_F_isWhole l dC dI cI cZ h pw ps po pk n wd sg ow co it w sb hF ) (cwV 0 hw (gV kw_260 kw_261 kw_262 kw_15 kw_263) rfl rfl rfl (by decide +kernel) ⟨Nat.le_of_ble_eq_true rfl, Nat.le_of_ble_eq_true rfl⟩) (ro_preV (q0 := 0) (hK.sub (tys' := [(cI, .int), (cZ, .boolean)]) [1, 2] rfl) (hP.sub (ws' := [(h, .inr (0, [.ref pw, .ref ps, .ref po, .ref pk, .int (nI n)])), (pw, .inl (cI, 6, .inl wd)), (ps, .inl (cZ, 6, .inl sg)), (po, .inl (cI, 64, .inl ow)), (pk, .inl (cI, 64, .inl co))]) [2, 3, 4, 5, 6] rfl) rfl rfl) rfl rfl hl.1 rfl (lv_room (Nat.le_of_ble_eq_true rfl)) dX_whole_5 ⟨Nat.zero_le _, Nat.zero_le _⟩) (fun v5 e5 => ?_)
  obtain rfl : v5 = nI (decide (cw_lft it n w 6 = 0)).toNat := e5
  exact W.zret (v := nI (decide (cw_lft it n w 6 = 0)).toNat) hx hb hr (by first | exact b_nar _ | decide +kernel) (fun t ht hW => ⟨_, rfl, (rfl), ht⟩) (fun q h => nomatch h) dX_whole_8

set_option maxHeartbeats 4000000 in
set_option maxRecDepth 100000 in
theorem c_X_number (l : Launch) (dC : Nat → ClassId) (dI : Nat → Nat → Nat) (sz : Nat) (sa : Nat → Nat) (cJ : ClassId) (ax hfm hq : Nat) (nu : Nat → Int64) (k : Nat) (v : Int64) (hk : k < 6) : Met l yX_number wX_number { frames := 1, cells := 0, slots := 0, locals := 20 } (xw_Pc sa (dC, dI) cls3 [(ax, .inr (1, [.ref hfm, .ref hq])), (hq, .inl (cJ, 6, .inr (.inl nu)))] [(cJ, .long)] sz [.ref ax, .int (nI k), .long v]) (va_Qv (fun _ : Unit => True) (fun _ t => va_P (dC, dI) cls3 [(ax, .inr (1, [.ref hfm, .ref hq])), (hq, .inl (cJ, 6, .inr (.inl (vp_updL nu k v))))] t.heap ∧ va_K (dC, dI) cls3 [(cJ, .long)] t ∧ va_D (va_A [(ax, .inr (1, [.ref hfm, .ref hq])), (hq, .inl (cJ, 6, .inr (.inl nu)))] sz) [(ax, .inr (1, [.ref hfm, .ref hq])), (hq, .inl (cJ, 6, .inr (.inl (vp_updL nu k v))))]) (va_A [(ax, .inr (1, [.ref hfm, .ref hq])), (hq, .inl (cJ, 6, .inr (.inl nu)))] sz)) 0 0 (va_A [(ax, .inr (1, [.ref hfm, .ref hq])), (hq, .inl (cJ, 6, .inr (.inl nu)))] sz) := by
  refine Met.ofW (cc := cX_number) (maxL := 4) (ret := none) (by decide) rfl ?_
  intro p e s m args below meth c s₁ B hml hv
  obtain ⟨rfl, hsz, hP, hK, hD0, hV, hZ⟩ := hv
  have hx := B.exec
  have hb := B.bytes
  have hr := B.returns
  have hts := atoms_spec (ws := wX_number) B.pre
  have hw : ∀ w ∈ wA, w.before _ s = true := fun w h => hts w (List.mem_cons_of_mem _ h)
  have hown : s.vm.findClass RX = some m.cls := findClass_of_methodNamed B.named
  have hlocks := B.notSynchronized
  subst hsz
  have hD := hD0.self (sz := s.heap.size)
  generalize hAe : va_A [(ax, .inr (1, [.ref hfm, .ref hq])), (hq, .inl (cJ, 6, .inr (.inl nu)))] s.heap.size = A at hD ⊢
  have hA : ∀ q : Nat, s.heap.size ≤ q → A q := fun q h => by rw [← hAe]; exact Or.inr h
  have hS : va_S A s.heap s.heap [] := va_S.rf
  have hl := lv_entry ([.ref ax, .int (nI k), .long v]) (n := 4) (Nat.le_of_ble_eq_true rfl)
  rw [lg_entry_eq]
  generalize (lg_sl ([.ref ax, .int (nI k), .long v]) ++ List.replicate (4 - (lg_sl ([.ref ax, .int (nI k), .long v])).length) Slot.unset).toArray = ls at hl ⊢
  have hl : lv_has ls 4 [(0, .ref ax), (1, .int (nI k)), (2, .long v)] := hl
  refine lv_iload_n hx hb dX_number_0 rfl (lv_at hl 1 rfl) ?_
  refine va_csv (W.runS (As := [.int (nI k)]) (rest := []) ⟨hx, hb, hml, hown, hw⟩ (c_X_checkOperandIndex l k hk) (cwS 1 hw (gS kw_160 kw_161 kw_14 kw_162) rfl rfl rfl (by decide +kernel) ⟨Nat.le_of_ble_eq_true rfl, Nat.le_of_ble_eq_true rfl⟩) preEq rfl rfl hl.1 rfl (lv_room (Nat.le_of_ble_eq_true rfl)) dX_number_1 ⟨Nat.zero_le _, Nat.zero_le _⟩) (fun _ => ?_)
  refine lv_aload_n hx hb dX_number_4 rfl (lv_at hl 0 rfl) ?_
  refine va_get (D := (dC, dI)) (ci := 1) (v := .ref hq) (C := RX) (T := TX) (N := 2) hx hb hw inX hown hK hP 0 rfl rfl 1 (by decide) (hw _ kw_60) (fun _ h9 => h9) rfl dX_number_5 ?_
  refine lv_iload_n hx hb dX_number_8 rfl (lv_at hl 1 rfl) ?_
  refine lv_lload_n hx hb dX_number_9 rfl (lv_at hl 2 rfl) ?_
  refine va_last hx hb hK hP hD hS 1 0 rfl rfl (vp_in_nI (by omega) (by decide)) dX_number_10 (fun H locs hP hD hS => ?_)
  rw [show (nI k).toNatClampNeg = k from nI_clamp (by omega)] at hP hD
  have hP : va_P (dC, dI) cls3 [(ax, .inr (1, [.ref hfm, .ref hq])), (hq, .inl (cJ, 6, .inr (.inl (vp_updL nu k v))))] H := hP
  have hD : va_D A [(ax, .inr (1, [.ref hfm, .ref hq])), (hq, .inl (cJ, 6, .inr (.inl (vp_updL nu k v))))] := hD
  exact W.vret hx hb hr (fun t ht hW => ⟨⟨(), rfl, trivial, by rw [ht]; exact hP, va_K.moved hW.alike hK, hD⟩, hS.F ht⟩) hS.2.2 dX_number_11

set_option maxHeartbeats 4000000 in
set_option maxRecDepth 100000 in
theorem c_X_fits (l : Launch) (dC : Nat → ClassId) (dI : Nat → Nat → Nat) (sa : Nat → Nat) (cR : ClassId) (ax hfm hq : Nat) (fa : Nat → Option Nat) (cI cZ : ClassId) (h pw ps po pk n : Nat) (wd sg ow co : Nat → Int32) (it w : Nat → Nat) (sb : Nat → Bool) (hF : fR n it w sb wd sg ow co) (f : Nat) (hf : f < 8) (hfa : fa f = some h) (o : Nat) (v : Int64) (ho : o < 6) (hw1 : 0 < w o) : Met l yX_fits wX_fits { frames := 2, cells := 0, slots := 0, locals := 44 } (xo_Pc sa (dC, dI) cls3 [(ax, .inr (1, [.ref hfm, .ref hq])), (hfm, .inl (cR, 8, .inr (.inr (.inr (.inr fa))))), (h, .inr (0, [.ref pw, .ref ps, .ref po, .ref pk, .int (nI n)])), (pw, .inl (cI, 6, .inl wd)), (ps, .inl (cZ, 6, .inl sg)), (po, .inl (cI, 64, .inl ow)), (pk, .inl (cI, 64, .inl co))] [(cR, .object "SliceCoder$Form"), (cI, .int), (cZ, .boolean)] [.ref ax, .int (nI f), .int (nI o), .long v]) (vp_Si (fun r => r = nI (fitB (w o) (sb o) v).toNat)) 0 0 (fun _ => False) := by
  refine Met.ofW (cc := cX_fits) (maxL := 5) (ret := (some .boolean)) (by decide) rfl ?_
  intro p e s m args below meth c s₁ B hml hv
  obtain ⟨rfl, hP, hK, hV, hZ⟩ := hv
  have hx := B.exec
  have hb := B.bytes
  have hr := B.returns
  have hts := atoms_spec (ws := wX_fits) B.pre
  have hw : ∀ w ∈ wA, w.before _ s = true := fun w h => hts w (List.mem_cons_of_mem _ h)
  have hown : s.vm.findClass RX = some m.cls := findClass_of_methodNamed B.named
  have hlocks := B.notSynchronized
  have hl := lv_entry ([.ref ax, .int (nI f), .int (nI o), .long v]) (n := 5) (Nat.le_of_ble_eq_true rfl)
  rw [lg_entry_eq]
  generalize (lg_sl ([.ref ax, .int (nI f), .int (nI o), .long v]) ++ List.replicate (5 - (lg_sl ([.ref ax, .int (nI f), .int (nI o), .long v])).length) Slot.unset).toArray = ls at hl ⊢
  have hl : lv_has ls 5 [(0, .ref ax), (1, .int (nI f)), (2, .int (nI o)), (3, .long v)] := hl
  refine lv_aload_n hx hb dX_fits_0 rfl (lv_at hl 0 rfl) ?_
  refine lv_iload_n hx hb dX_fits_1 rfl (lv_at hl 1 rfl) ?_
  refine lv_iload_n hx hb dX_fits_2 rfl (lv_at hl 2 rfl) ?_
  refine va_csr (W.runV (As := [.int (nI f), .int (nI o)]) (rest := []) ⟨hx, hb, hml, hown, hw⟩ (c_X_formWith l dC dI sa cR ax hfm hq fa cI cZ h pw ps po pk n wd sg ow co it w sb hF f hf hfa o ho hw1) (cwV 2 hw (gV kw_237 kw_239 kw_3 kw_14 kw_240) rfl rfl rfl (by decide +kernel) ⟨Nat.le_of_ble_eq_true rfl, Nat.le_of_ble_eq_true rfl⟩) (xo_preV (q0 := 0) hK hP hV hZ rfl rfl) rfl rfl hl.1 rfl (lv_room (Nat.le_of_ble_eq_true rfl)) dX_fits_3 ⟨Nat.zero_le _, Nat.zero_le _⟩) (fun v3 e3 => ?_)
  obtain rfl : h = v3 := (e3).symm
  refine lv_iload_n hx hb dX_fits_6 rfl (lv_at hl 2 rfl) ?_
  refine lv_lload_n hx hb dX_fits_7 rfl (lv_at hl 3 rfl) ?_
  refine vp_callSi (W.runV (As := [.int (nI o), .long v]) (rest := []) ⟨hx, hb, hml, hown, hw⟩ (c_F_canBe l dC dI cI cZ h pw ps po pk n wd sg ow co it w sb hF o ho hw1 v) (cwV 2 hw (gV kw_286 kw_287 kw_288 kw_15 kw_289) rfl rfl rfl (by decide +kernel) ⟨Nat.le_of_ble_eq_true rfl, Nat.le_of_ble_eq_true rfl⟩) (ro_preV (q0 := 0) (hK.sub (tys' := [(cI, .int), (cZ, .boolean)]) [1, 2] rfl) (hP.sub (ws' := [(h, .inr (0, [.ref pw, .ref ps, .ref po, .ref pk, .int (nI n)])), (pw, .inl (cI, 6, .inl wd)), (ps, .inl (cZ, 6, .inl sg)), (po, .inl (cI, 64, .inl ow)), (pk, .inl (cI, 64, .inl co))]) [2, 3, 4, 5, 6] rfl) rfl rfl) rfl rfl hl.1 rfl (lv_room (Nat.le_of_ble_eq_true rfl)) dX_fits_8 ⟨Nat.zero_le _, Nat.zero_le _⟩) (fun v8 e8 => ?_)
  obtain rfl : v8 = nI (fitB (w o) (sb o) v).toNat := e8
  exact W.zret (v := nI (fitB (w o) (sb o) v).toNat) hx hb hr (by first | exact b_nar _ | decide +kernel) (fun t ht hW => ⟨_, rfl, (rfl), ht⟩) (fun q h => nomatch h) dX_fits_11

set_option maxHeartbeats 4000000 in
set_option maxRecDepth 100000 in
theorem c_X_encode (l : Launch) (dC : Nat → ClassId) (dI : Nat → Nat → Nat) (sa : Nat → Nat) (cR : ClassId) (ax hfm hq : Nat) (fa : Nat → Option Nat) (cI cZ : ClassId) (h pw ps po pk n : Nat) (wd sg ow co : Nat → Int32) (it w : Nat → Nat) (sb : Nat → Bool) (hF : fR n it w sb wd sg ow co) (cJ : ClassId) (nu : Nat → Int64) (f : Nat) (hf : f < 8) (hfa : fa f = some h) (hwh : cw_lft it n w 6 = 0) (hft : afit w sb nu = true) : Met l yX_encode wX_encode { frames := 4, cells := 0, slots := 0, locals := 84 } (xo_Pc sa (dC, dI) cls3 [(ax, .inr (1, [.ref hfm, .ref hq])), (hfm, .inl (cR, 8, .inr (.inr (.inr (.inr fa))))), (h, .inr (0, [.ref pw, .ref ps, .ref po, .ref pk, .int (nI n)])), (pw, .inl (cI, 6, .inl wd)), (ps, .inl (cZ, 6, .inl sg)), (po, .inl (cI, 64, .inl ow)), (pk, .inl (cI, 64, .inl co)), (hq, .inl (cJ, 6, .inr (.inl nu)))] [(cR, .object "SliceCoder$Form"), (cI, .int), (cZ, .boolean), (cJ, .long)] [.ref ax, .int (nI f)]) (vp_Sl (fun r => r = lN (wrd (ebit it nu) n))) 0 0 (fun _ => False) := by
  refine Met.ofW (cc := cX_encode) (maxL := 3) (ret := (some .long)) (by decide) rfl ?_
  intro p e s m args below meth c s₁ B hml hv
  obtain ⟨rfl, hP, hK, hV, hZ⟩ := hv
  have hx := B.exec
  have hb := B.bytes
  have hr := B.returns
  have hts := atoms_spec (ws := wX_encode) B.pre
  have hw : ∀ w ∈ wA, w.before _ s = true := fun w h => hts w (List.mem_cons_of_mem _ h)
  have hown : s.vm.findClass RX = some m.cls := findClass_of_methodNamed B.named
  have hlocks := B.notSynchronized
  have hl := lv_entry ([.ref ax, .int (nI f)]) (n := 3) (Nat.le_of_ble_eq_true rfl)
  rw [lg_entry_eq]
  generalize (lg_sl ([.ref ax, .int (nI f)]) ++ List.replicate (3 - (lg_sl ([.ref ax, .int (nI f)])).length) Slot.unset).toArray = ls at hl ⊢
  have hl : lv_has ls 3 [(0, .ref ax), (1, .int (nI f))] := hl
  refine lv_aload_n hx hb dX_encode_0 rfl (lv_at hl 0 rfl) ?_
  refine lv_iload_n hx hb dX_encode_1 rfl (lv_at hl 1 rfl) ?_
  refine va_csr (W.runV (As := [.int (nI f)]) (rest := []) ⟨hx, hb, hml, hown, hw⟩ (c_X_formAt l dC dI sa cR ax hfm hq fa f h hf hfa) (cwV 1 hw (gV kw_75 kw_77 kw_0 kw_14 kw_78) rfl rfl rfl (by decide +kernel) ⟨Nat.le_of_ble_eq_true rfl, Nat.le_of_ble_eq_true rfl⟩) (xo_preV (q0 := 0) (hK.sub (tys' := [(cR, .object "SliceCoder$Form")]) [0] rfl) (hP.sub (ws' := [(ax, .inr (1, [.ref hfm, .ref hq])), (hfm, .inl (cR, 8, .inr (.inr (.inr (.inr fa)))))]) [0, 1] rfl) hV hZ rfl rfl) rfl rfl hl.1 rfl (lv_room (Nat.le_of_ble_eq_true rfl)) dX_encode_2 ⟨Nat.zero_le _, Nat.zero_le _⟩) (fun v2 e2 => ?_)
  obtain rfl : h = v2 := (e2).symm
  refine lv_astore_n hx hb dX_encode_5 rfl hl (by decide) rfl (fun ls hl => ?_)
  have hl : lv_has ls 3 [(2, .ref h), (0, .ref ax), (1, .int (nI f))] := hl
  refine lv_aload_n hx hb dX_encode_6 rfl (lv_at hl 0 rfl) ?_
  refine va_csv (W.runS (As := [.ref h]) (rest := []) ⟨hx, hb, hml, hown, hw⟩ (c_X_checkWhole l dC dI sa cI cZ h pw ps po pk n wd sg ow co it w sb hF hwh) (cwS 1 hw (gS kw_299 kw_300 kw_14 kw_301) rfl rfl rfl (by decide +kernel) ⟨Nat.le_of_ble_eq_true rfl, Nat.le_of_ble_eq_true rfl⟩) (xo_preS (hK.sub (tys' := [(cI, .int), (cZ, .boolean)]) [1, 2] rfl) (hP.sub (ws' := [(h, .inr (0, [.ref pw, .ref ps, .ref po, .ref pk, .int (nI n)])), (pw, .inl (cI, 6, .inl wd)), (ps, .inl (cZ, 6, .inl sg)), (po, .inl (cI, 64, .inl ow)), (pk, .inl (cI, 64, .inl co))]) [2, 3, 4, 5, 6] rfl) hV hZ) rfl rfl hl.1 rfl (lv_room (Nat.le_of_ble_eq_true rfl)) dX_encode_7 ⟨Nat.zero_le _, Nat.zero_le _⟩) (fun _ => ?_)
  refine lv_aload_n hx hb dX_encode_10 rfl (lv_at hl 0 rfl) ?_
  refine lv_aload_n hx hb dX_encode_11 rfl (lv_at hl 1 rfl) ?_
  refine va_get (D := (dC, dI)) (ci := 1) (v := .ref hq) (C := RX) (T := TX) (N := 2) hx hb hw inX hown hK hP 0 rfl rfl 1 (by decide) (hw _ kw_60) (fun _ h9 => h9) rfl dX_encode_12 ?_
  refine vp_callSi (W.runV (As := [.ref hq]) (rest := []) ⟨hx, hb, hml, hown, hw⟩ (c_F_canBeAll l dC dI cI cZ h pw ps po pk n wd sg ow co it w sb hF cJ hq nu) (cwV 1 hw (gV kw_303 kw_304 kw_305 kw_15 kw_306) rfl rfl rfl (by decide +kernel) ⟨Nat.le_of_ble_eq_true rfl, Nat.le_of_ble_eq_true rfl⟩) (ro_preV (q0 := 0) (hK.sub (tys' := [(cI, .int), (cZ, .boolean), (cJ, .long)]) [1, 2, 3] rfl) (hP.sub (ws' := [(h, .inr (0, [.ref pw, .ref ps, .ref po, .ref pk, .int (nI n)])), (pw, .inl (cI, 6, .inl wd)), (ps, .inl (cZ, 6, .inl sg)), (po, .inl (cI, 64, .inl ow)), (pk, .inl (cI, 64, .inl co)), (hq, .inl (cJ, 6, .inr (.inl nu)))]) [2, 3, 4, 5, 6, 7] rfl) rfl rfl) rfl rfl hl.1 rfl (lv_room (Nat.le_of_ble_eq_true rfl)) dX_encode_15 ⟨Nat.zero_le _, Nat.zero_le _⟩) (fun v15 e15 => ?_)
  obtain rfl : v15 = nI 1 := e15.trans (by rw [show allb (fun o => decide (w o = 0) || fitB (w o) (sb o) (nu o)) 6 = true from hft]; rfl)
  refine lv_if_ne (tgt := 31) hx hb dX_encode_18 (by decide) (fun h18 => ?_) (fun h18 => ?_)
  · refine lv_aload_n hx hb dX_encode_31 rfl (lv_at hl 0 rfl) ?_
    refine lv_aload_n hx hb dX_encode_32 rfl (lv_at hl 1 rfl) ?_
    refine va_get (D := (dC, dI)) (ci := 1) (v := .ref hq) (C := RX) (T := TX) (N := 2) hx hb hw inX hown hK hP 0 rfl rfl 1 (by decide) (hw _ kw_60) (fun _ h9 => h9) rfl dX_encode_33 ?_
    refine vp_callSl (W.runV (As := [.ref hq]) (rest := []) ⟨hx, hb, hml, hown, hw⟩ (c_F_wordOf l dC dI cI cZ h pw ps po pk n wd sg ow co it w sb hF cJ hq nu) (cwV 1 hw (gV kw_324 kw_325 kw_326 kw_15 kw_327) rfl rfl rfl (by decide +kernel) ⟨Nat.le_of_ble_eq_true rfl, Nat.le_of_ble_eq_true rfl⟩) (ro_preV (q0 := 0) (hK.sub (tys' := [(cI, .int), (cZ, .boolean), (cJ, .long)]) [1, 2, 3] rfl) (hP.sub (ws' := [(h, .inr (0, [.ref pw, .ref ps, .ref po, .ref pk, .int (nI n)])), (pw, .inl (cI, 6, .inl wd)), (ps, .inl (cZ, 6, .inl sg)), (po, .inl (cI, 64, .inl ow)), (pk, .inl (cI, 64, .inl co)), (hq, .inl (cJ, 6, .inr (.inl nu)))]) [2, 3, 4, 5, 6, 7] rfl) rfl rfl) rfl rfl hl.1 rfl (lv_room (Nat.le_of_ble_eq_true rfl)) dX_encode_36 ⟨Nat.zero_le _, Nat.zero_le _⟩) (fun v36 e36 => ?_)
    obtain rfl : v36 = lN (wrd (ebit it nu) n) := e36
    exact W.lret (v := lN (wrd (ebit it nu) n)) hx hb hr (fun t ht hW => ⟨_, rfl, (rfl), ht⟩) (fun q h => nomatch h) dX_encode_39
  · exfalso
    first | exact h18 (by decide +kernel) | exact absurd h18 (by decide +kernel)

set_option maxHeartbeats 4000000 in
set_option maxRecDepth 100000 in
theorem c_X_is (l : Launch) (dC : Nat → ClassId) (dI : Nat → Nat → Nat) (sa : Nat → Nat) (cR : ClassId) (ax hfm hq : Nat) (fa : Nat → Option Nat) (cI cZ : ClassId) (h pw ps po pk n : Nat) (wd sg ow co : Nat → Int32) (it w : Nat → Nat) (sb : Nat → Bool) (hF : fR n it w sb wd sg ow co) (f : Nat) (hf : f < 8) (hfa : fa f = some h) (wo : Int64) : Met l yX_is wX_is { frames := 2, cells := 0, slots := 0, locals := 46 } (xo_Pc sa (dC, dI) cls3 [(ax, .inr (1, [.ref hfm, .ref hq])), (hfm, .inl (cR, 8, .inr (.inr (.inr (.inr fa))))), (h, .inr (0, [.ref pw, .ref ps, .ref po, .ref pk, .int (nI n)])), (pw, .inl (cI, 6, .inl wd)), (ps, .inl (cZ, 6, .inl sg)), (po, .inl (cI, 64, .inl ow)), (pk, .inl (cI, 64, .inl co))] [(cR, .object "SliceCoder$Form"), (cI, .int), (cZ, .boolean)] [.ref ax, .int (nI f), .long wo]) (vp_Si (fun r => r = nI (isof it n wo).toNat)) 0 0 (fun _ => False) := by
  refine Met.ofW (cc := cX_is) (maxL := 4) (ret := (some .boolean)) (by decide) rfl ?_
  intro p e s m args below meth c s₁ B hml hv
  obtain ⟨rfl, hP, hK, hV, hZ⟩ := hv
  have hx := B.exec
  have hb := B.bytes
  have hr := B.returns
  have hts := atoms_spec (ws := wX_is) B.pre
  have hw : ∀ w ∈ wA, w.before _ s = true := fun w h => hts w (List.mem_cons_of_mem _ h)
  have hown : s.vm.findClass RX = some m.cls := findClass_of_methodNamed B.named
  have hlocks := B.notSynchronized
  have hl := lv_entry ([.ref ax, .int (nI f), .long wo]) (n := 4) (Nat.le_of_ble_eq_true rfl)
  rw [lg_entry_eq]
  generalize (lg_sl ([.ref ax, .int (nI f), .long wo]) ++ List.replicate (4 - (lg_sl ([.ref ax, .int (nI f), .long wo])).length) Slot.unset).toArray = ls at hl ⊢
  have hl : lv_has ls 4 [(0, .ref ax), (1, .int (nI f)), (2, .long wo)] := hl
  refine lv_aload_n hx hb dX_is_0 rfl (lv_at hl 0 rfl) ?_
  refine lv_iload_n hx hb dX_is_1 rfl (lv_at hl 1 rfl) ?_
  refine va_csr (W.runV (As := [.int (nI f)]) (rest := []) ⟨hx, hb, hml, hown, hw⟩ (c_X_formAt l dC dI sa cR ax hfm hq fa f h hf hfa) (cwV 1 hw (gV kw_75 kw_77 kw_0 kw_14 kw_78) rfl rfl rfl (by decide +kernel) ⟨Nat.le_of_ble_eq_true rfl, Nat.le_of_ble_eq_true rfl⟩) (xo_preV (q0 := 0) (hK.sub (tys' := [(cR, .object "SliceCoder$Form")]) [0] rfl) (hP.sub (ws' := [(ax, .inr (1, [.ref hfm, .ref hq])), (hfm, .inl (cR, 8, .inr (.inr (.inr (.inr fa)))))]) [0, 1] rfl) hV hZ rfl rfl) rfl rfl hl.1 rfl (lv_room (Nat.le_of_ble_eq_true rfl)) dX_is_2 ⟨Nat.zero_le _, Nat.zero_le _⟩) (fun v2 e2 => ?_)
  obtain rfl : h = v2 := (e2).symm
  refine lv_lload_n hx hb dX_is_5 rfl (lv_at hl 2 rfl) ?_
  refine vp_callSi (W.runV (As := [.long wo]) (rest := []) ⟨hx, hb, hml, hown, hw⟩ (c_F_matches l dC dI cI cZ h pw ps po pk n wd sg ow co it w sb hF wo) (cwV 1 hw (gV kw_335 kw_336 kw_337 kw_15 kw_338) rfl rfl rfl (by decide +kernel) ⟨Nat.le_of_ble_eq_true rfl, Nat.le_of_ble_eq_true rfl⟩) (ro_preV (q0 := 0) (hK.sub (tys' := [(cI, .int), (cZ, .boolean)]) [1, 2] rfl) (hP.sub (ws' := [(h, .inr (0, [.ref pw, .ref ps, .ref po, .ref pk, .int (nI n)])), (pw, .inl (cI, 6, .inl wd)), (ps, .inl (cZ, 6, .inl sg)), (po, .inl (cI, 64, .inl ow)), (pk, .inl (cI, 64, .inl co))]) [2, 3, 4, 5, 6] rfl) rfl rfl) rfl rfl hl.1 rfl (lv_room (Nat.le_of_ble_eq_true rfl)) dX_is_6 ⟨Nat.zero_le _, Nat.zero_le _⟩) (fun v6 e6 => ?_)
  obtain rfl : v6 = nI (isof it n wo).toNat := e6
  exact W.zret (v := nI (isof it n wo).toNat) hx hb hr (by first | exact b_nar _ | decide +kernel) (fun t ht hW => ⟨_, rfl, (rfl), ht⟩) (fun q h => nomatch h) dX_is_9

set_option maxHeartbeats 4000000 in
set_option maxRecDepth 100000 in
theorem c_X_decode (l : Launch) (dC : Nat → ClassId) (dI : Nat → Nat → Nat) (sa : Nat → Nat) (cR : ClassId) (ax hfm hq : Nat) (fa : Nat → Option Nat) (cI cZ : ClassId) (h pw ps po pk n : Nat) (wd sg ow co : Nat → Int32) (it w : Nat → Nat) (sb : Nat → Bool) (hF : fR n it w sb wd sg ow co) (f : Nat) (hf : f < 8) (hfa : fa f = some h) (o : Nat) (wo : Int64) (ho : o < 6) (hw1 : 0 < w o) (hwh : cw_lft it n w 6 = 0) (hmt : isof it n wo = true) : Met l yX_decode wX_decode { frames := 4, cells := 0, slots := 0, locals := 84 } (xo_Pc sa (dC, dI) cls3 [(ax, .inr (1, [.ref hfm, .ref hq])), (hfm, .inl (cR, 8, .inr (.inr (.inr (.inr fa))))), (h, .inr (0, [.ref pw, .ref ps, .ref po, .ref pk, .int (nI n)])), (pw, .inl (cI, 6, .inl wd)), (ps, .inl (cZ, 6, .inl sg)), (po, .inl (cI, 64, .inl ow)), (pk, .inl (cI, 64, .inl co))] [(cR, .object "SliceCoder$Form"), (cI, .int), (cZ, .boolean)] [.ref ax, .int (nI f), .int (nI o), .long wo]) (vp_Sl (fun r => dcP it n (w o) (sb o) o wo r)) 0 0 (fun _ => False) := by
  refine Met.ofW (cc := cX_decode) (maxL := 6) (ret := (some .long)) (by decide) rfl ?_
  intro p e s m args below meth c s₁ B hml hv
  obtain ⟨rfl, hP, hK, hV, hZ⟩ := hv
  have hx := B.exec
  have hb := B.bytes
  have hr := B.returns
  have hts := atoms_spec (ws := wX_decode) B.pre
  have hw : ∀ w ∈ wA, w.before _ s = true := fun w h => hts w (List.mem_cons_of_mem _ h)
  have hown : s.vm.findClass RX = some m.cls := findClass_of_methodNamed B.named
  have hlocks := B.notSynchronized
  have hl := lv_entry ([.ref ax, .int (nI f), .int (nI o), .long wo]) (n := 6) (Nat.le_of_ble_eq_true rfl)
  rw [lg_entry_eq]
  generalize (lg_sl ([.ref ax, .int (nI f), .int (nI o), .long wo]) ++ List.replicate (6 - (lg_sl ([.ref ax, .int (nI f), .int (nI o), .long wo])).length) Slot.unset).toArray = ls at hl ⊢
  have hl : lv_has ls 6 [(0, .ref ax), (1, .int (nI f)), (2, .int (nI o)), (3, .long wo)] := hl
  refine lv_aload_n hx hb dX_decode_0 rfl (lv_at hl 0 rfl) ?_
  refine lv_iload_n hx hb dX_decode_1 rfl (lv_at hl 1 rfl) ?_
  refine lv_iload_n hx hb dX_decode_2 rfl (lv_at hl 2 rfl) ?_
  refine va_csr (W.runV (As := [.int (nI f), .int (nI o)]) (rest := []) ⟨hx, hb, hml, hown, hw⟩ (c_X_formWith l dC dI sa cR ax hfm hq fa cI cZ h pw ps po pk n wd sg ow co it w sb hF f hf hfa o ho hw1) (cwV 2 hw (gV kw_237 kw_239 kw_3 kw_14 kw_240) rfl rfl rfl (by decide +kernel) ⟨Nat.le_of_ble_eq_true rfl, Nat.le_of_ble_eq_true rfl⟩) (xo_preV (q0 := 0) hK hP hV hZ rfl rfl) rfl rfl hl.1 rfl (lv_room (Nat.le_of_ble_eq_true rfl)) dX_decode_3 ⟨Nat.zero_le _, Nat.zero_le _⟩) (fun v3 e3 => ?_)
  obtain rfl : h = v3 := (e3).symm
  refine lv_astore hx hb dX_decode_6 hl (by decide) rfl (fun ls hl => ?_)
  have hl : lv_has ls 6 [(5, .ref h), (0, .ref ax), (1, .int (nI f)), (2, .int (nI o)), (3, .long wo)] := hl
  refine lv_aload hx hb dX_decode_8 (lv_at hl 0 rfl) ?_
  refine va_csv (W.runS (As := [.ref h]) (rest := []) ⟨hx, hb, hml, hown, hw⟩ (c_X_checkWhole l dC dI sa cI cZ h pw ps po pk n wd sg ow co it w sb hF hwh) (cwS 1 hw (gS kw_299 kw_300 kw_14 kw_301) rfl rfl rfl (by decide +kernel) ⟨Nat.le_of_ble_eq_true rfl, Nat.le_of_ble_eq_true rfl⟩) (xo_preS (hK.sub (tys' := [(cI, .int), (cZ, .boolean)]) [1, 2] rfl) (hP.sub (ws' := [(h, .inr (0, [.ref pw, .ref ps, .ref po, .ref pk, .int (nI n)])), (pw, .inl (cI, 6, .inl wd)), (ps, .inl (cZ, 6, .inl sg)), (po, .inl (cI, 64, .inl ow)), (pk, .inl (cI, 64, .inl co))]) [2, 3, 4, 5, 6] rfl) hV hZ) rfl rfl hl.1 rfl (lv_room (Nat.le_of_ble_eq_true rfl)) dX_decode_10 ⟨Nat.zero_le _, Nat.zero_le _⟩) (fun _ => ?_)
  refine lv_aload hx hb dX_decode_13 (lv_at hl 0 rfl) ?_
  refine lv_lload_n hx hb dX_decode_15 rfl (lv_at hl 4 rfl) ?_
  refine vp_callSi (W.runV (As := [.long wo]) (rest := []) ⟨hx, hb, hml, hown, hw⟩ (c_F_matches l dC dI cI cZ h pw ps po pk n wd sg ow co it w sb hF wo) (cwV 1 hw (gV kw_335 kw_336 kw_337 kw_15 kw_338) rfl rfl rfl (by decide +kernel) ⟨Nat.le_of_ble_eq_true rfl, Nat.le_of_ble_eq_true rfl⟩) (ro_preV (q0 := 0) (hK.sub (tys' := [(cI, .int), (cZ, .boolean)]) [1, 2] rfl) (hP.sub (ws' := [(h, .inr (0, [.ref pw, .ref ps, .ref po, .ref pk, .int (nI n)])), (pw, .inl (cI, 6, .inl wd)), (ps, .inl (cZ, 6, .inl sg)), (po, .inl (cI, 64, .inl ow)), (pk, .inl (cI, 64, .inl co))]) [2, 3, 4, 5, 6] rfl) rfl rfl) rfl rfl hl.1 rfl (lv_room (Nat.le_of_ble_eq_true rfl)) dX_decode_16 ⟨Nat.zero_le _, Nat.zero_le _⟩) (fun v16 e16 => ?_)
  obtain rfl : v16 = nI 1 := e16.trans (by rw [show allb (fun j => alw it n j (bq wo j)) 64 = true from hmt]; rfl)
  refine lv_if_ne (tgt := 32) hx hb dX_decode_19 (by decide) (fun h19 => ?_) (fun h19 => ?_)
  · refine lv_aload hx hb dX_decode_32 (lv_at hl 0 rfl) ?_
    refine lv_iload_n hx hb dX_decode_34 rfl (lv_at hl 3 rfl) ?_
    refine lv_lload_n hx hb dX_decode_35 rfl (lv_at hl 4 rfl) ?_
    refine vp_callSl (W.runV (As := [.int (nI o), .long wo]) (rest := []) ⟨hx, hb, hml, hown, hw⟩ (c_F_numberIn l dC dI cI cZ h pw ps po pk n wd sg ow co it w sb hF o ho hw1 wo) (cwV 2 hw (gV kw_351 kw_352 kw_353 kw_15 kw_354) rfl rfl rfl (by decide +kernel) ⟨Nat.le_of_ble_eq_true rfl, Nat.le_of_ble_eq_true rfl⟩) (ro_preV (q0 := 0) (hK.sub (tys' := [(cI, .int), (cZ, .boolean)]) [1, 2] rfl) (hP.sub (ws' := [(h, .inr (0, [.ref pw, .ref ps, .ref po, .ref pk, .int (nI n)])), (pw, .inl (cI, 6, .inl wd)), (ps, .inl (cZ, 6, .inl sg)), (po, .inl (cI, 64, .inl ow)), (pk, .inl (cI, 64, .inl co))]) [2, 3, 4, 5, 6] rfl) rfl rfl) rfl rfl hl.1 rfl (lv_room (Nat.le_of_ble_eq_true rfl)) dX_decode_36 ⟨Nat.zero_le _, Nat.zero_le _⟩) (fun v36 e36 => ?_)
    exact W.lret (v := v36) hx hb hr (fun t ht hW => ⟨_, rfl, (e36), ht⟩) (fun q h => nomatch h) dX_decode_39
  · exfalso
    first | exact h19 (by decide +kernel) | exact absurd h19 (by decide +kernel)

set_option maxHeartbeats 4000000 in
set_option maxRecDepth 100000 in
theorem c_X_meet (l : Launch) (dC : Nat → ClassId) (dI : Nat → Nat → Nat) (sa : Nat → Nat) (cR : ClassId) (ax hfm hq : Nat) (fa : Nat → Option Nat) (cI cZ : ClassId) (h pw ps po pk n : Nat) (wd sg ow co : Nat → Int32) (it w : Nat → Nat) (sb : Nat → Bool) (hF : fR n it w sb wd sg ow co) (f : Nat) (hf : f < 8) (hfa : fa f = some h) (h2 pw2 ps2 po2 pk2 n2 : Nat) (wd2 sg2 ow2 co2 : Nat → Int32) (it2 w2 : Nat → Nat) (sb2 : Nat → Bool) (hF2 : fR n2 it2 w2 sb2 wd2 sg2 ow2 co2) (g : Nat) (hg : g < 8) (hga : fa g = some h2) : Met l yX_meet wX_meet { frames := 2, cells := 0, slots := 0, locals := 47 } (xo_Pc sa (dC, dI) cls3 [(ax, .inr (1, [.ref hfm, .ref hq])), (hfm, .inl (cR, 8, .inr (.inr (.inr (.inr fa))))), (h, .inr (0, [.ref pw, .ref ps, .ref po, .ref pk, .int (nI n)])), (pw, .inl (cI, 6, .inl wd)), (ps, .inl (cZ, 6, .inl sg)), (po, .inl (cI, 64, .inl ow)), (pk, .inl (cI, 64, .inl co)), (h2, .inr (0, [.ref pw2, .ref ps2, .ref po2, .ref pk2, .int (nI n2)])), (pw2, .inl (cI, 6, .inl wd2)), (ps2, .inl (cZ, 6, .inl sg2)), (po2, .inl (cI, 64, .inl ow2)), (pk2, .inl (cI, 64, .inl co2))] [(cR, .object "SliceCoder$Form"), (cI, .int), (cZ, .boolean)] [.ref ax, .int (nI f), .int (nI g)]) (vp_Si (fun r => r = nI (allb (shw it n it2 n2) 64).toNat)) 0 0 (fun _ => False) := by
  refine Met.ofW (cc := cX_meet) (maxL := 3) (ret := (some .boolean)) (by decide) rfl ?_
  intro p e s m args below meth c s₁ B hml hv
  obtain ⟨rfl, hP, hK, hV, hZ⟩ := hv
  have hx := B.exec
  have hb := B.bytes
  have hr := B.returns
  have hts := atoms_spec (ws := wX_meet) B.pre
  have hw : ∀ w ∈ wA, w.before _ s = true := fun w h => hts w (List.mem_cons_of_mem _ h)
  have hown : s.vm.findClass RX = some m.cls := findClass_of_methodNamed B.named
  have hlocks := B.notSynchronized
  have hl := lv_entry ([.ref ax, .int (nI f), .int (nI g)]) (n := 3) (Nat.le_of_ble_eq_true rfl)
  rw [lg_entry_eq]
  generalize (lg_sl ([.ref ax, .int (nI f), .int (nI g)]) ++ List.replicate (3 - (lg_sl ([.ref ax, .int (nI f), .int (nI g)])).length) Slot.unset).toArray = ls at hl ⊢
  have hl : lv_has ls 3 [(0, .ref ax), (1, .int (nI f)), (2, .int (nI g))] := hl
  refine lv_aload_n hx hb dX_meet_0 rfl (lv_at hl 0 rfl) ?_
  refine lv_iload_n hx hb dX_meet_1 rfl (lv_at hl 1 rfl) ?_
  refine va_csr (W.runV (As := [.int (nI f)]) (rest := []) ⟨hx, hb, hml, hown, hw⟩ (c_X_formAt l dC dI sa cR ax hfm hq fa f h hf hfa) (cwV 1 hw (gV kw_75 kw_77 kw_0 kw_14 kw_78) rfl rfl rfl (by decide +kernel) ⟨Nat.le_of_ble_eq_true rfl, Nat.le_of_ble_eq_true rfl⟩) (xo_preV (q0 := 0) (hK.sub (tys' := [(cR, .object "SliceCoder$Form")]) [0] rfl) (hP.sub (ws' := [(ax, .inr (1, [.ref hfm, .ref hq])), (hfm, .inl (cR, 8, .inr (.inr (.inr (.inr fa)))))]) [0, 1] rfl) hV hZ rfl rfl) rfl rfl hl.1 rfl (lv_room (Nat.le_of_ble_eq_true rfl)) dX_meet_2 ⟨Nat.zero_le _, Nat.zero_le _⟩) (fun v2 e2 => ?_)
  obtain rfl : h = v2 := (e2).symm
  refine lv_aload_n hx hb dX_meet_5 rfl (lv_at hl 0 rfl) ?_
  refine lv_iload_n hx hb dX_meet_6 rfl (lv_at hl 2 rfl) ?_
  refine va_csr (W.runV (As := [.int (nI g)]) (rest := [.ref h]) ⟨hx, hb, hml, hown, hw⟩ (c_X_formAt l dC dI sa cR ax hfm hq fa g h2 hg hga) (cwV 1 hw (gV kw_75 kw_77 kw_0 kw_14 kw_78) rfl rfl rfl (by decide +kernel) ⟨Nat.le_of_ble_eq_true rfl, Nat.le_of_ble_eq_true rfl⟩) (xo_preV (q0 := 0) (hK.sub (tys' := [(cR, .object "SliceCoder$Form")]) [0] rfl) (hP.sub (ws' := [(ax, .inr (1, [.ref hfm, .ref hq])), (hfm, .inl (cR, 8, .inr (.inr (.inr (.inr fa)))))]) [0, 1] rfl) hV hZ rfl rfl) rfl rfl hl.1 rfl (lv_room (Nat.le_of_ble_eq_true rfl)) dX_meet_7 ⟨Nat.zero_le _, Nat.zero_le _⟩) (fun v7 e7 => ?_)
  obtain rfl : h2 = v7 := (e7).symm
  refine vp_callSi (W.runV (As := [.ref h2]) (rest := []) ⟨hx, hb, hml, hown, hw⟩ (c_F_sharesWordWith l dC dI cI cZ h pw ps po pk n wd sg ow co it w sb hF h2 pw2 ps2 po2 pk2 n2 wd2 sg2 ow2 co2 it2 w2 sb2 hF2) (cwV 1 hw (gV kw_362 kw_363 kw_364 kw_15 kw_365) rfl rfl rfl (by decide +kernel) ⟨Nat.le_of_ble_eq_true rfl, Nat.le_of_ble_eq_true rfl⟩) (ro_preV (q0 := 0) (hK.sub (tys' := [(cI, .int), (cZ, .boolean)]) [1, 2] rfl) (hP.sub (ws' := [(h, .inr (0, [.ref pw, .ref ps, .ref po, .ref pk, .int (nI n)])), (pw, .inl (cI, 6, .inl wd)), (ps, .inl (cZ, 6, .inl sg)), (po, .inl (cI, 64, .inl ow)), (pk, .inl (cI, 64, .inl co)), (h2, .inr (0, [.ref pw2, .ref ps2, .ref po2, .ref pk2, .int (nI n2)])), (pw2, .inl (cI, 6, .inl wd2)), (ps2, .inl (cZ, 6, .inl sg2)), (po2, .inl (cI, 64, .inl ow2)), (pk2, .inl (cI, 64, .inl co2))]) [2, 3, 4, 5, 6, 7, 8, 9, 10, 11] rfl) rfl rfl) rfl rfl hl.1 rfl (lv_room (Nat.le_of_ble_eq_true rfl)) dX_meet_10 ⟨Nat.zero_le _, Nat.zero_le _⟩) (fun v10 e10 => ?_)
  obtain rfl : v10 = nI (allb (shw it n it2 n2) 64).toNat := e10
  exact W.zret (v := nI (allb (shw it n it2 n2) 64).toNat) hx hb hr (by first | exact b_nar _ | decide +kernel) (fun t ht hW => ⟨_, rfl, (rfl), ht⟩) (fun q h => nomatch h) dX_meet_13

set_option maxHeartbeats 4000000 in
set_option maxRecDepth 100000 in
theorem c_X_count (l : Launch) (dC : Nat → ClassId) (dI : Nat → Nat → Nat) (sa : Nat → Nat) (cR : ClassId) (ax hfm hq : Nat) (fa : Nat → Option Nat) (cI cZ : ClassId) (h pw ps po pk n : Nat) (wd sg ow co : Nat → Int32) (it w : Nat → Nat) (sb : Nat → Bool) (hF : fR n it w sb wd sg ow co) (f : Nat) (hf : f < 8) (hfa : fa f = some h) (q : Nat) (hq4 : q < 4) : Met l yX_count wX_count { frames := 2, cells := 0, slots := 0, locals := 44 } (xo_Pc sa (dC, dI) cls3 [(ax, .inr (1, [.ref hfm, .ref hq])), (hfm, .inl (cR, 8, .inr (.inr (.inr (.inr fa))))), (h, .inr (0, [.ref pw, .ref ps, .ref po, .ref pk, .int (nI n)])), (pw, .inl (cI, 6, .inl wd)), (ps, .inl (cZ, 6, .inl sg)), (po, .inl (cI, 64, .inl ow)), (pk, .inl (cI, 64, .inl co))] [(cR, .object "SliceCoder$Form"), (cI, .int), (cZ, .boolean)] [.ref ax, .int (nI f), .int (nI q)]) (vp_Si (fun r => r = nI (cnt1 it n w q))) 0 0 (fun _ => False) := by
  refine Met.ofW (cc := cX_count) (maxL := 4) (ret := (some .int)) (by decide) rfl ?_
  intro p e s m args below meth c s₁ B hml hv
  obtain ⟨rfl, hP, hK, hV, hZ⟩ := hv
  have hx := B.exec
  have hb := B.bytes
  have hr := B.returns
  have hts := atoms_spec (ws := wX_count) B.pre
  have hw : ∀ w ∈ wA, w.before _ s = true := fun w h => hts w (List.mem_cons_of_mem _ h)
  have hown : s.vm.findClass RX = some m.cls := findClass_of_methodNamed B.named
  have hlocks := B.notSynchronized
  have hl := lv_entry ([.ref ax, .int (nI f), .int (nI q)]) (n := 4) (Nat.le_of_ble_eq_true rfl)
  rw [lg_entry_eq]
  generalize (lg_sl ([.ref ax, .int (nI f), .int (nI q)]) ++ List.replicate (4 - (lg_sl ([.ref ax, .int (nI f), .int (nI q)])).length) Slot.unset).toArray = ls at hl ⊢
  have hl : lv_has ls 4 [(0, .ref ax), (1, .int (nI f)), (2, .int (nI q))] := hl
  have hN_widths : ∀ A9, (Cond.fieldLinkNest "SliceCoder" 70 "SliceCoder$Form" "widths" "[I" "SliceCoder").before A9 s = true := fun A9 => va_Nw.use (by rfl) (hV.1 _ (by decide +kernel))
  have hN_length : ∀ A9, (Cond.fieldLinkNest "SliceCoder" 57 "SliceCoder$Form" "length" "I" "SliceCoder").before A9 s = true := fun A9 => va_Nw.use (by rfl) (hV.1 _ (by decide +kernel))
  refine lv_aload_n hx hb dX_count_0 rfl (lv_at hl 0 rfl) ?_
  refine lv_iload_n hx hb dX_count_1 rfl (lv_at hl 1 rfl) ?_
  refine va_csr (W.runV (As := [.int (nI f)]) (rest := []) ⟨hx, hb, hml, hown, hw⟩ (c_X_formAt l dC dI sa cR ax hfm hq fa f h hf hfa) (cwV 1 hw (gV kw_75 kw_77 kw_0 kw_14 kw_78) rfl rfl rfl (by decide +kernel) ⟨Nat.le_of_ble_eq_true rfl, Nat.le_of_ble_eq_true rfl⟩) (xo_preV (q0 := 0) (hK.sub (tys' := [(cR, .object "SliceCoder$Form")]) [0] rfl) (hP.sub (ws' := [(ax, .inr (1, [.ref hfm, .ref hq])), (hfm, .inl (cR, 8, .inr (.inr (.inr (.inr fa)))))]) [0, 1] rfl) hV hZ rfl rfl) rfl rfl hl.1 rfl (lv_room (Nat.le_of_ble_eq_true rfl)) dX_count_2 ⟨Nat.zero_le _, Nat.zero_le _⟩) (fun v2 e2 => ?_)
  obtain rfl : h = v2 := (e2).symm
  refine lv_astore_n hx hb dX_count_5 rfl hl (by decide) rfl (fun ls hl => ?_)
  have hl : lv_has ls 4 [(3, .ref h), (0, .ref ax), (1, .int (nI f)), (2, .int (nI q))] := hl
  refine lv_iload_n hx hb dX_count_6 rfl (lv_at hl 3 rfl) ?_
  rcases (show q = 0 ∨ q = 1 ∨ q = 2 ∨ q = 3 by omega) with rfl | rfl | rfl | rfl
  · refine lv_tableIn (tgt := 36) hx hb dX_count_7 (by decide +kernel) (by decide +kernel) rfl (by decide) ?_
    refine lv_aload_n hx hb dX_count_36 rfl (lv_at hl 0 rfl) ?_
    refine va_getN (D := (dC, dI)) (ci := 0) (v := .int (nI n)) (C := RF) (T := TF) (N := 5) hx hb hw inF hown hK hP 2 rfl rfl 4 (by decide) (hN_length _) (fun _ h9 => h9) rfl dX_count_37 ?_
    exact W.iret (v := nI n) hx hb hr (fun t ht hW => ⟨_, rfl, (rfl), ht⟩) (fun q h => nomatch h) dX_count_40
  · refine lv_tableIn (tgt := 41) hx hb dX_count_7 (by decide +kernel) (by decide +kernel) rfl (by decide) ?_
    refine lv_aload_n hx hb dX_count_41 rfl (lv_at hl 0 rfl) ?_
    refine vp_callSi (W.runV (As := []) (rest := []) ⟨hx, hb, hml, hown, hw⟩ (c_F_fixedBits l dC dI cI cZ h pw ps po pk n wd sg ow co it w sb hF ) (cwV 0 hw (gV kw_373 kw_269 kw_270 kw_15 kw_271) rfl rfl rfl (by decide +kernel) ⟨Nat.le_of_ble_eq_true rfl, Nat.le_of_ble_eq_true rfl⟩) (ro_preV (q0 := 0) (hK.sub (tys' := [(cI, .int), (cZ, .boolean)]) [1, 2] rfl) (hP.sub (ws' := [(h, .inr (0, [.ref pw, .ref ps, .ref po, .ref pk, .int (nI n)])), (pw, .inl (cI, 6, .inl wd)), (ps, .inl (cZ, 6, .inl sg)), (po, .inl (cI, 64, .inl ow)), (pk, .inl (cI, 64, .inl co))]) [2, 3, 4, 5, 6] rfl) rfl rfl) rfl rfl hl.1 rfl (lv_room (Nat.le_of_ble_eq_true rfl)) dX_count_42 ⟨Nat.zero_le _, Nat.zero_le _⟩) (fun v42 e42 => ?_)
    obtain rfl : v42 = nI (cw_fix it n) := e42
    exact W.iret (v := nI (cw_fix it n)) hx hb hr (fun t ht hW => ⟨_, rfl, (rfl), ht⟩) (fun q h => nomatch h) dX_count_45
  · refine lv_tableIn (tgt := 46) hx hb dX_count_7 (by decide +kernel) (by decide +kernel) rfl (by decide) ?_
    refine lv_aload_n hx hb dX_count_46 rfl (lv_at hl 0 rfl) ?_
    refine vp_callSi (W.runV (As := []) (rest := []) ⟨hx, hb, hml, hown, hw⟩ (c_F_operands l dC dI cI cZ h pw ps po pk n wd sg ow co it w sb hF ) (cwV 0 hw (gV kw_374 kw_375 kw_376 kw_15 kw_377) rfl rfl rfl (by decide +kernel) ⟨Nat.le_of_ble_eq_true rfl, Nat.le_of_ble_eq_true rfl⟩) (ro_preV (q0 := 0) (hK.sub (tys' := [(cI, .int), (cZ, .boolean)]) [1, 2] rfl) (hP.sub (ws' := [(h, .inr (0, [.ref pw, .ref ps, .ref po, .ref pk, .int (nI n)])), (pw, .inl (cI, 6, .inl wd)), (ps, .inl (cZ, 6, .inl sg)), (po, .inl (cI, 64, .inl ow)), (pk, .inl (cI, 64, .inl co))]) [2, 3, 4, 5, 6] rfl) rfl rfl) rfl rfl hl.1 rfl (lv_room (Nat.le_of_ble_eq_true rfl)) dX_count_47 ⟨Nat.zero_le _, Nat.zero_le _⟩) (fun v47 e47 => ?_)
    obtain rfl : v47 = nI (cw_ops w 6) := e47
    exact W.iret (v := nI (cw_ops w 6)) hx hb hr (fun t ht hW => ⟨_, rfl, (rfl), ht⟩) (fun q h => nomatch h) dX_count_50
  · refine lv_tableIn (tgt := 51) hx hb dX_count_7 (by decide +kernel) (by decide +kernel) rfl (by decide) ?_
    refine lv_aload_n hx hb dX_count_51 rfl (lv_at hl 0 rfl) ?_
    refine vp_callSi (W.runV (As := []) (rest := []) ⟨hx, hb, hml, hown, hw⟩ (c_F_missingBits l dC dI cI cZ h pw ps po pk n wd sg ow co it w sb hF ) (cwV 0 hw (gV kw_378 kw_265 kw_266 kw_15 kw_267) rfl rfl rfl (by decide +kernel) ⟨Nat.le_of_ble_eq_true rfl, Nat.le_of_ble_eq_true rfl⟩) (ro_preV (q0 := 0) (hK.sub (tys' := [(cI, .int), (cZ, .boolean)]) [1, 2] rfl) (hP.sub (ws' := [(h, .inr (0, [.ref pw, .ref ps, .ref po, .ref pk, .int (nI n)])), (pw, .inl (cI, 6, .inl wd)), (ps, .inl (cZ, 6, .inl sg)), (po, .inl (cI, 64, .inl ow)), (pk, .inl (cI, 64, .inl co))]) [2, 3, 4, 5, 6] rfl) rfl rfl) rfl rfl hl.1 rfl (lv_room (Nat.le_of_ble_eq_true rfl)) dX_count_52 ⟨Nat.zero_le _, Nat.zero_le _⟩) (fun v52 e52 => ?_)
    obtain rfl : v52 = nI (cw_lft it n w 6) := e52
    exact W.iret (v := nI (cw_lft it n w 6)) hx hb hr (fun t ht hW => ⟨_, rfl, (rfl), ht⟩) (fun q h => nomatch h) dX_count_55

set_option maxHeartbeats 4000000 in
set_option maxRecDepth 100000 in
theorem t_X_clear_f (l : Launch) (hl0 : l.stackTraces = false) (dC : Nat → ClassId) (dI : Nat → Nat → Nat) (sa : Nat → Nat) (ax hfm hq : Nat) (x : Int32) (hb9 : isF x = false) : tx_Met l yX_clear wX_clear { frames := 7, cells := 1, slots := 6, locals := 103 } (xo_Pc sa (dC, dI) cls3 [(ax, .inr (1, [.ref hfm, .ref hq]))] [] [.ref ax, .int x]) eIA 1 6 := by
  refine tx_ofW (cc := cX_clear) (maxL := 2) (ret := none) (by decide) rfl ?_
  intro p e s m args below meth c s₁ B hml hv
  obtain ⟨rfl, hP, hK, hV, hZ⟩ := hv
  have hx := B.exec
  have hb := B.bytes
  have hr := B.returns
  have hts := atoms_spec (ws := wX_clear) B.pre
  have hw : ∀ w ∈ wA, w.before _ s = true := fun w h => hts w (List.mem_cons_of_mem _ h)
  have hown : s.vm.findClass RX = some m.cls := findClass_of_methodNamed B.named
  have hlocks := B.notSynchronized
  have hl := lv_entry ([.ref ax, .int x]) (n := 2) (Nat.le_of_ble_eq_true rfl)
  rw [lg_entry_eq]
  generalize (lg_sl ([.ref ax, .int x]) ++ List.replicate (2 - (lg_sl ([.ref ax, .int x])).length) Slot.unset).toArray = ls at hl ⊢
  have hl : lv_has ls 2 [(0, .ref ax), (1, .int x)] := hl
  refine lv_aload_n hx hb dX_clear_0 rfl (lv_at hl 0 rfl) ?_
  refine lv_iload_n hx hb dX_clear_1 rfl (lv_at hl 1 rfl) ?_
  refine tx_callV (As := [.int x]) (rest := []) (st0 := [.int x, .ref ax]) ⟨hx, hb, hml, hown, hw⟩ (t_X_formAt l hl0 dC dI sa ax hfm hq x hb9) (cwV 1 hw (gV kw_75 kw_77 kw_0 kw_14 kw_78) rfl rfl rfl (by decide +kernel) ⟨Nat.le_of_ble_eq_true rfl, Nat.le_of_ble_eq_true rfl⟩) (xo_preV (q0 := 0) hK hP hV hZ rfl rfl) rfl hl.1 rfl (lv_room (Nat.le_of_ble_eq_true rfl)) dX_clear_2 ⟨Nat.le_of_ble_eq_true rfl, Nat.le_of_ble_eq_true rfl⟩ (fun q9 ce H1 k1 k2 k3 k4 k5 => ?_)
  exact tx_out B.named (hts _ List.mem_cons_self) hlocks k1 k2 k3 (Nat.le_of_ble_eq_true rfl) (Nat.le_of_ble_eq_true rfl)

set_option maxHeartbeats 4000000 in
set_option maxRecDepth 100000 in
theorem t_X_operand_f (l : Launch) (hl0 : l.stackTraces = false) (dC : Nat → ClassId) (dI : Nat → Nat → Nat) (sa : Nat → Nat) (ax hfm hq : Nat) (x : Int32) (y : Int32) (z : Int32) (b : Int32) (hb9 : isF x = false) : tx_Met l yX_operand wX_operand { frames := 7, cells := 1, slots := 6, locals := 103 } (xo_Pc sa (dC, dI) cls3 [(ax, .inr (1, [.ref hfm, .ref hq]))] [] [.ref ax, .int x, .int y, .int z, .int b]) eIA 1 6 := by
  refine tx_ofW (cc := cX_operand) (maxL := 6) (ret := none) (by decide) rfl ?_
  intro p e s m args below meth c s₁ B hml hv
  obtain ⟨rfl, hP, hK, hV, hZ⟩ := hv
  have hx := B.exec
  have hb := B.bytes
  have hr := B.returns
  have hts := atoms_spec (ws := wX_operand) B.pre
  have hw : ∀ w ∈ wA, w.before _ s = true := fun w h => hts w (List.mem_cons_of_mem _ h)
  have hown : s.vm.findClass RX = some m.cls := findClass_of_methodNamed B.named
  have hlocks := B.notSynchronized
  have hl := lv_entry ([.ref ax, .int x, .int y, .int z, .int b]) (n := 6) (Nat.le_of_ble_eq_true rfl)
  rw [lg_entry_eq]
  generalize (lg_sl ([.ref ax, .int x, .int y, .int z, .int b]) ++ List.replicate (6 - (lg_sl ([.ref ax, .int x, .int y, .int z, .int b])).length) Slot.unset).toArray = ls at hl ⊢
  have hl : lv_has ls 6 [(0, .ref ax), (1, .int x), (2, .int y), (3, .int z), (4, .int b)] := hl
  refine lv_aload_n hx hb dX_operand_0 rfl (lv_at hl 0 rfl) ?_
  refine lv_iload_n hx hb dX_operand_1 rfl (lv_at hl 1 rfl) ?_
  refine tx_callV (As := [.int x]) (rest := []) (st0 := [.int x, .ref ax]) ⟨hx, hb, hml, hown, hw⟩ (t_X_formAt l hl0 dC dI sa ax hfm hq x hb9) (cwV 1 hw (gV kw_75 kw_77 kw_0 kw_14 kw_78) rfl rfl rfl (by decide +kernel) ⟨Nat.le_of_ble_eq_true rfl, Nat.le_of_ble_eq_true rfl⟩) (xo_preV (q0 := 0) hK hP hV hZ rfl rfl) rfl hl.1 rfl (lv_room (Nat.le_of_ble_eq_true rfl)) dX_operand_2 ⟨Nat.le_of_ble_eq_true rfl, Nat.le_of_ble_eq_true rfl⟩ (fun q9 ce H1 k1 k2 k3 k4 k5 => ?_)
  exact tx_out B.named (hts _ List.mem_cons_self) hlocks k1 k2 k3 (Nat.le_of_ble_eq_true rfl) (Nat.le_of_ble_eq_true rfl)

set_option maxHeartbeats 4000000 in
set_option maxRecDepth 100000 in
theorem t_X_fixed_f (l : Launch) (hl0 : l.stackTraces = false) (dC : Nat → ClassId) (dI : Nat → Nat → Nat) (sa : Nat → Nat) (ax hfm hq : Nat) (x : Int32) (z : Int32) (v : Int64) (hb9 : isF x = false) : tx_Met l yX_fixed wX_fixed { frames := 7, cells := 1, slots := 6, locals := 103 } (xo_Pc sa (dC, dI) cls3 [(ax, .inr (1, [.ref hfm, .ref hq]))] [] [.ref ax, .int x, .int z, .long v]) eIA 1 6 := by
  refine tx_ofW (cc := cX_fixed) (maxL := 6) (ret := (some .int)) (by decide) rfl ?_
  intro p e s m args below meth c s₁ B hml hv
  obtain ⟨rfl, hP, hK, hV, hZ⟩ := hv
  have hx := B.exec
  have hb := B.bytes
  have hr := B.returns
  have hts := atoms_spec (ws := wX_fixed) B.pre
  have hw : ∀ w ∈ wA, w.before _ s = true := fun w h => hts w (List.mem_cons_of_mem _ h)
  have hown : s.vm.findClass RX = some m.cls := findClass_of_methodNamed B.named
  have hlocks := B.notSynchronized
  have hl := lv_entry ([.ref ax, .int x, .int z, .long v]) (n := 6) (Nat.le_of_ble_eq_true rfl)
  rw [lg_entry_eq]
  generalize (lg_sl ([.ref ax, .int x, .int z, .long v]) ++ List.replicate (6 - (lg_sl ([.ref ax, .int x, .int z, .long v])).length) Slot.unset).toArray = ls at hl ⊢
  have hl : lv_has ls 6 [(0, .ref ax), (1, .int x), (2, .int z), (3, .long v)] := hl
  refine lv_aload_n hx hb dX_fixed_0 rfl (lv_at hl 0 rfl) ?_
  refine lv_iload_n hx hb dX_fixed_1 rfl (lv_at hl 1 rfl) ?_
  refine tx_callV (As := [.int x]) (rest := []) (st0 := [.int x, .ref ax]) ⟨hx, hb, hml, hown, hw⟩ (t_X_formAt l hl0 dC dI sa ax hfm hq x hb9) (cwV 1 hw (gV kw_75 kw_77 kw_0 kw_14 kw_78) rfl rfl rfl (by decide +kernel) ⟨Nat.le_of_ble_eq_true rfl, Nat.le_of_ble_eq_true rfl⟩) (xo_preV (q0 := 0) hK hP hV hZ rfl rfl) rfl hl.1 rfl (lv_room (Nat.le_of_ble_eq_true rfl)) dX_fixed_2 ⟨Nat.le_of_ble_eq_true rfl, Nat.le_of_ble_eq_true rfl⟩ (fun q9 ce H1 k1 k2 k3 k4 k5 => ?_)
  exact tx_out B.named (hts _ List.mem_cons_self) hlocks k1 k2 k3 (Nat.le_of_ble_eq_true rfl) (Nat.le_of_ble_eq_true rfl)

set_option maxHeartbeats 4000000 in
set_option maxRecDepth 100000 in
theorem t_X_whole_f (l : Launch) (hl0 : l.stackTraces = false) (dC : Nat → ClassId) (dI : Nat → Nat → Nat) (sa : Nat → Nat) (ax hfm hq : Nat) (x : Int32) (hb9 : isF x = false) : tx_Met l yX_whole wX_whole { frames := 7, cells := 1, slots := 6, locals := 103 } (xo_Pc sa (dC, dI) cls3 [(ax, .inr (1, [.ref hfm, .ref hq]))] [] [.ref ax, .int x]) eIA 1 6 := by
  refine tx_ofW (cc := cX_whole) (maxL := 2) (ret := (some .boolean)) (by decide) rfl ?_
  intro p e s m args below meth c s₁ B hml hv
  obtain ⟨rfl, hP, hK, hV, hZ⟩ := hv
  have hx := B.exec
  have hb := B.bytes
  have hr := B.returns
  have hts := atoms_spec (ws := wX_whole) B.pre
  have hw : ∀ w ∈ wA, w.before _ s = true := fun w h => hts w (List.mem_cons_of_mem _ h)
  have hown : s.vm.findClass RX = some m.cls := findClass_of_methodNamed B.named
  have hlocks := B.notSynchronized
  have hl := lv_entry ([.ref ax, .int x]) (n := 2) (Nat.le_of_ble_eq_true rfl)
  rw [lg_entry_eq]
  generalize (lg_sl ([.ref ax, .int x]) ++ List.replicate (2 - (lg_sl ([.ref ax, .int x])).length) Slot.unset).toArray = ls at hl ⊢
  have hl : lv_has ls 2 [(0, .ref ax), (1, .int x)] := hl
  refine lv_aload_n hx hb dX_whole_0 rfl (lv_at hl 0 rfl) ?_
  refine lv_iload_n hx hb dX_whole_1 rfl (lv_at hl 1 rfl) ?_
  refine tx_callV (As := [.int x]) (rest := []) (st0 := [.int x, .ref ax]) ⟨hx, hb, hml, hown, hw⟩ (t_X_formAt l hl0 dC dI sa ax hfm hq x hb9) (cwV 1 hw (gV kw_75 kw_77 kw_0 kw_14 kw_78) rfl rfl rfl (by decide +kernel) ⟨Nat.le_of_ble_eq_true rfl, Nat.le_of_ble_eq_true rfl⟩) (xo_preV (q0 := 0) hK hP hV hZ rfl rfl) rfl hl.1 rfl (lv_room (Nat.le_of_ble_eq_true rfl)) dX_whole_2 ⟨Nat.le_of_ble_eq_true rfl, Nat.le_of_ble_eq_true rfl⟩ (fun q9 ce H1 k1 k2 k3 k4 k5 => ?_)
  exact tx_out B.named (hts _ List.mem_cons_self) hlocks k1 k2 k3 (Nat.le_of_ble_eq_true rfl) (Nat.le_of_ble_eq_true rfl)

set_option maxHeartbeats 4000000 in
set_option maxRecDepth 100000 in
theorem t_X_encode_f (l : Launch) (hl0 : l.stackTraces = false) (dC : Nat → ClassId) (dI : Nat → Nat → Nat) (sa : Nat → Nat) (ax hfm hq : Nat) (x : Int32) (hb9 : isF x = false) : tx_Met l yX_encode wX_encode { frames := 7, cells := 1, slots := 6, locals := 103 } (xo_Pc sa (dC, dI) cls3 [(ax, .inr (1, [.ref hfm, .ref hq]))] [] [.ref ax, .int x]) eIA 1 6 := by
  refine tx_ofW (cc := cX_encode) (maxL := 3) (ret := (some .long)) (by decide) rfl ?_
  intro p e s m args below meth c s₁ B hml hv
  obtain ⟨rfl, hP, hK, hV, hZ⟩ := hv
  have hx := B.exec
  have hb := B.bytes
  have hr := B.returns
  have hts := atoms_spec (ws := wX_encode) B.pre
  have hw : ∀ w ∈ wA, w.before _ s = true := fun w h => hts w (List.mem_cons_of_mem _ h)
  have hown : s.vm.findClass RX = some m.cls := findClass_of_methodNamed B.named
  have hlocks := B.notSynchronized
  have hl := lv_entry ([.ref ax, .int x]) (n := 3) (Nat.le_of_ble_eq_true rfl)
  rw [lg_entry_eq]
  generalize (lg_sl ([.ref ax, .int x]) ++ List.replicate (3 - (lg_sl ([.ref ax, .int x])).length) Slot.unset).toArray = ls at hl ⊢
  have hl : lv_has ls 3 [(0, .ref ax), (1, .int x)] := hl
  refine lv_aload_n hx hb dX_encode_0 rfl (lv_at hl 0 rfl) ?_
  refine lv_iload_n hx hb dX_encode_1 rfl (lv_at hl 1 rfl) ?_
  refine tx_callV (As := [.int x]) (rest := []) (st0 := [.int x, .ref ax]) ⟨hx, hb, hml, hown, hw⟩ (t_X_formAt l hl0 dC dI sa ax hfm hq x hb9) (cwV 1 hw (gV kw_75 kw_77 kw_0 kw_14 kw_78) rfl rfl rfl (by decide +kernel) ⟨Nat.le_of_ble_eq_true rfl, Nat.le_of_ble_eq_true rfl⟩) (xo_preV (q0 := 0) hK hP hV hZ rfl rfl) rfl hl.1 rfl (lv_room (Nat.le_of_ble_eq_true rfl)) dX_encode_2 ⟨Nat.le_of_ble_eq_true rfl, Nat.le_of_ble_eq_true rfl⟩ (fun q9 ce H1 k1 k2 k3 k4 k5 => ?_)
  exact tx_out B.named (hts _ List.mem_cons_self) hlocks k1 k2 k3 (Nat.le_of_ble_eq_true rfl) (Nat.le_of_ble_eq_true rfl)

set_option maxHeartbeats 4000000 in
set_option maxRecDepth 100000 in
theorem t_X_is_f (l : Launch) (hl0 : l.stackTraces = false) (dC : Nat → ClassId) (dI : Nat → Nat → Nat) (sa : Nat → Nat) (ax hfm hq : Nat) (x : Int32) (v : Int64) (hb9 : isF x = false) : tx_Met l yX_is wX_is { frames := 7, cells := 1, slots := 6, locals := 103 } (xo_Pc sa (dC, dI) cls3 [(ax, .inr (1, [.ref hfm, .ref hq]))] [] [.ref ax, .int x, .long v]) eIA 1 6 := by
  refine tx_ofW (cc := cX_is) (maxL := 4) (ret := (some .boolean)) (by decide) rfl ?_
  intro p e s m args below meth c s₁ B hml hv
  obtain ⟨rfl, hP, hK, hV, hZ⟩ := hv
  have hx := B.exec
  have hb := B.bytes
  have hr := B.returns
  have hts := atoms_spec (ws := wX_is) B.pre
  have hw : ∀ w ∈ wA, w.before _ s = true := fun w h => hts w (List.mem_cons_of_mem _ h)
  have hown : s.vm.findClass RX = some m.cls := findClass_of_methodNamed B.named
  have hlocks := B.notSynchronized
  have hl := lv_entry ([.ref ax, .int x, .long v]) (n := 4) (Nat.le_of_ble_eq_true rfl)
  rw [lg_entry_eq]
  generalize (lg_sl ([.ref ax, .int x, .long v]) ++ List.replicate (4 - (lg_sl ([.ref ax, .int x, .long v])).length) Slot.unset).toArray = ls at hl ⊢
  have hl : lv_has ls 4 [(0, .ref ax), (1, .int x), (2, .long v)] := hl
  refine lv_aload_n hx hb dX_is_0 rfl (lv_at hl 0 rfl) ?_
  refine lv_iload_n hx hb dX_is_1 rfl (lv_at hl 1 rfl) ?_
  refine tx_callV (As := [.int x]) (rest := []) (st0 := [.int x, .ref ax]) ⟨hx, hb, hml, hown, hw⟩ (t_X_formAt l hl0 dC dI sa ax hfm hq x hb9) (cwV 1 hw (gV kw_75 kw_77 kw_0 kw_14 kw_78) rfl rfl rfl (by decide +kernel) ⟨Nat.le_of_ble_eq_true rfl, Nat.le_of_ble_eq_true rfl⟩) (xo_preV (q0 := 0) hK hP hV hZ rfl rfl) rfl hl.1 rfl (lv_room (Nat.le_of_ble_eq_true rfl)) dX_is_2 ⟨Nat.le_of_ble_eq_true rfl, Nat.le_of_ble_eq_true rfl⟩ (fun q9 ce H1 k1 k2 k3 k4 k5 => ?_)
  exact tx_out B.named (hts _ List.mem_cons_self) hlocks k1 k2 k3 (Nat.le_of_ble_eq_true rfl) (Nat.le_of_ble_eq_true rfl)

set_option maxHeartbeats 4000000 in
set_option maxRecDepth 100000 in
theorem t_X_meet_f (l : Launch) (hl0 : l.stackTraces = false) (dC : Nat → ClassId) (dI : Nat → Nat → Nat) (sa : Nat → Nat) (ax hfm hq : Nat) (x : Int32) (y : Int32) (hb9 : isF x = false) : tx_Met l yX_meet wX_meet { frames := 7, cells := 1, slots := 6, locals := 103 } (xo_Pc sa (dC, dI) cls3 [(ax, .inr (1, [.ref hfm, .ref hq]))] [] [.ref ax, .int x, .int y]) eIA 1 6 := by
  refine tx_ofW (cc := cX_meet) (maxL := 3) (ret := (some .boolean)) (by decide) rfl ?_
  intro p e s m args below meth c s₁ B hml hv
  obtain ⟨rfl, hP, hK, hV, hZ⟩ := hv
  have hx := B.exec
  have hb := B.bytes
  have hr := B.returns
  have hts := atoms_spec (ws := wX_meet) B.pre
  have hw : ∀ w ∈ wA, w.before _ s = true := fun w h => hts w (List.mem_cons_of_mem _ h)
  have hown : s.vm.findClass RX = some m.cls := findClass_of_methodNamed B.named
  have hlocks := B.notSynchronized
  have hl := lv_entry ([.ref ax, .int x, .int y]) (n := 3) (Nat.le_of_ble_eq_true rfl)
  rw [lg_entry_eq]
  generalize (lg_sl ([.ref ax, .int x, .int y]) ++ List.replicate (3 - (lg_sl ([.ref ax, .int x, .int y])).length) Slot.unset).toArray = ls at hl ⊢
  have hl : lv_has ls 3 [(0, .ref ax), (1, .int x), (2, .int y)] := hl
  refine lv_aload_n hx hb dX_meet_0 rfl (lv_at hl 0 rfl) ?_
  refine lv_iload_n hx hb dX_meet_1 rfl (lv_at hl 1 rfl) ?_
  refine tx_callV (As := [.int x]) (rest := []) (st0 := [.int x, .ref ax]) ⟨hx, hb, hml, hown, hw⟩ (t_X_formAt l hl0 dC dI sa ax hfm hq x hb9) (cwV 1 hw (gV kw_75 kw_77 kw_0 kw_14 kw_78) rfl rfl rfl (by decide +kernel) ⟨Nat.le_of_ble_eq_true rfl, Nat.le_of_ble_eq_true rfl⟩) (xo_preV (q0 := 0) hK hP hV hZ rfl rfl) rfl hl.1 rfl (lv_room (Nat.le_of_ble_eq_true rfl)) dX_meet_2 ⟨Nat.le_of_ble_eq_true rfl, Nat.le_of_ble_eq_true rfl⟩ (fun q9 ce H1 k1 k2 k3 k4 k5 => ?_)
  exact tx_out B.named (hts _ List.mem_cons_self) hlocks k1 k2 k3 (Nat.le_of_ble_eq_true rfl) (Nat.le_of_ble_eq_true rfl)

set_option maxHeartbeats 4000000 in
set_option maxRecDepth 100000 in
theorem t_X_count_f (l : Launch) (hl0 : l.stackTraces = false) (dC : Nat → ClassId) (dI : Nat → Nat → Nat) (sa : Nat → Nat) (ax hfm hq : Nat) (x : Int32) (y : Int32) (hb9 : isF x = false) : tx_Met l yX_count wX_count { frames := 7, cells := 1, slots := 6, locals := 103 } (xo_Pc sa (dC, dI) cls3 [(ax, .inr (1, [.ref hfm, .ref hq]))] [] [.ref ax, .int x, .int y]) eIA 1 6 := by
  refine tx_ofW (cc := cX_count) (maxL := 4) (ret := (some .int)) (by decide) rfl ?_
  intro p e s m args below meth c s₁ B hml hv
  obtain ⟨rfl, hP, hK, hV, hZ⟩ := hv
  have hx := B.exec
  have hb := B.bytes
  have hr := B.returns
  have hts := atoms_spec (ws := wX_count) B.pre
  have hw : ∀ w ∈ wA, w.before _ s = true := fun w h => hts w (List.mem_cons_of_mem _ h)
  have hown : s.vm.findClass RX = some m.cls := findClass_of_methodNamed B.named
  have hlocks := B.notSynchronized
  have hl := lv_entry ([.ref ax, .int x, .int y]) (n := 4) (Nat.le_of_ble_eq_true rfl)
  rw [lg_entry_eq]
  generalize (lg_sl ([.ref ax, .int x, .int y]) ++ List.replicate (4 - (lg_sl ([.ref ax, .int x, .int y])).length) Slot.unset).toArray = ls at hl ⊢
  have hl : lv_has ls 4 [(0, .ref ax), (1, .int x), (2, .int y)] := hl
  refine lv_aload_n hx hb dX_count_0 rfl (lv_at hl 0 rfl) ?_
  refine lv_iload_n hx hb dX_count_1 rfl (lv_at hl 1 rfl) ?_
  refine tx_callV (As := [.int x]) (rest := []) (st0 := [.int x, .ref ax]) ⟨hx, hb, hml, hown, hw⟩ (t_X_formAt l hl0 dC dI sa ax hfm hq x hb9) (cwV 1 hw (gV kw_75 kw_77 kw_0 kw_14 kw_78) rfl rfl rfl (by decide +kernel) ⟨Nat.le_of_ble_eq_true rfl, Nat.le_of_ble_eq_true rfl⟩) (xo_preV (q0 := 0) hK hP hV hZ rfl rfl) rfl hl.1 rfl (lv_room (Nat.le_of_ble_eq_true rfl)) dX_count_2 ⟨Nat.le_of_ble_eq_true rfl, Nat.le_of_ble_eq_true rfl⟩ (fun q9 ce H1 k1 k2 k3 k4 k5 => ?_)
  exact tx_out B.named (hts _ List.mem_cons_self) hlocks k1 k2 k3 (Nat.le_of_ble_eq_true rfl) (Nat.le_of_ble_eq_true rfl)

set_option maxHeartbeats 4000000 in
set_option maxRecDepth 100000 in
theorem t_X_slice_f (l : Launch) (hl0 : l.stackTraces = false) (dC : Nat → ClassId) (dI : Nat → Nat → Nat) (sa : Nat → Nat) (ax hfm hq : Nat) (x : Int32) (y : Int32) (zh : Int32) (zl : Int32) (hb9 : isF x = false) : tx_Met l yX_slice wX_slice { frames := 8, cells := 1, slots := 6, locals := 126 } (xo_Pc sa (dC, dI) cls3 [(ax, .inr (1, [.ref hfm, .ref hq]))] [] [.ref ax, .int x, .int y, .int zh, .int zl]) eIA 1 6 := by
  refine tx_ofW (cc := cX_slice) (maxL := 6) (ret := (some .int)) (by decide) rfl ?_
  intro p e s m args below meth c s₁ B hml hv
  obtain ⟨rfl, hP, hK, hV, hZ⟩ := hv
  have hx := B.exec
  have hb := B.bytes
  have hr := B.returns
  have hts := atoms_spec (ws := wX_slice) B.pre
  have hw : ∀ w ∈ wA, w.before _ s = true := fun w h => hts w (List.mem_cons_of_mem _ h)
  have hown : s.vm.findClass RX = some m.cls := findClass_of_methodNamed B.named
  have hlocks := B.notSynchronized
  have hl := lv_entry ([.ref ax, .int x, .int y, .int zh, .int zl]) (n := 6) (Nat.le_of_ble_eq_true rfl)
  rw [lg_entry_eq]
  generalize (lg_sl ([.ref ax, .int x, .int y, .int zh, .int zl]) ++ List.replicate (6 - (lg_sl ([.ref ax, .int x, .int y, .int zh, .int zl])).length) Slot.unset).toArray = ls at hl ⊢
  have hl : lv_has ls 6 [(0, .ref ax), (1, .int x), (2, .int y), (3, .int zh), (4, .int zl)] := hl
  refine lv_aload_n hx hb dX_slice_0 rfl (lv_at hl 0 rfl) ?_
  refine lv_iload_n hx hb dX_slice_1 rfl (lv_at hl 1 rfl) ?_
  refine lv_iload_n hx hb dX_slice_2 rfl (lv_at hl 2 rfl) ?_
  refine tx_callV (As := [.int x, .int y]) (rest := []) (st0 := [.int y, .int x, .ref ax]) ⟨hx, hb, hml, hown, hw⟩ (t_X_formWith_f l hl0 dC dI sa ax hfm hq x y hb9) (cwV 2 hw (gV kw_237 kw_239 kw_3 kw_14 kw_240) rfl rfl rfl (by decide +kernel) ⟨Nat.le_of_ble_eq_true rfl, Nat.le_of_ble_eq_true rfl⟩) (xo_preV (q0 := 0) hK hP hV hZ rfl rfl) rfl hl.1 rfl (lv_room (Nat.le_of_ble_eq_true rfl)) dX_slice_3 ⟨Nat.le_of_ble_eq_true rfl, Nat.le_of_ble_eq_true rfl⟩ (fun q9 ce H1 k1 k2 k3 k4 k5 => ?_)
  exact tx_out B.named (hts _ List.mem_cons_self) hlocks k1 k2 k3 (Nat.le_of_ble_eq_true rfl) (Nat.le_of_ble_eq_true rfl)

set_option maxHeartbeats 4000000 in
set_option maxRecDepth 100000 in
theorem t_X_slice_o (l : Launch) (hl0 : l.stackTraces = false) (dC : Nat → ClassId) (dI : Nat → Nat → Nat) (sa : Nat → Nat) (cR : ClassId) (ax hfm hq : Nat) (fa : Nat → Option Nat) (cI cZ : ClassId) (h pw ps po pk n : Nat) (wd sg ow co : Nat → Int32) (it w : Nat → Nat) (sb : Nat → Bool) (hF : fR n it w sb wd sg ow co) (f : Nat) (hf : f < 8) (hfa : fa f = some h) (y : Int32) (zh : Int32) (zl : Int32) (hb9 : hop w y = false) : tx_Met l yX_slice wX_slice { frames := 7, cells := 1, slots := 6, locals := 105 } (xo_Pc sa (dC, dI) cls3 [(ax, .inr (1, [.ref hfm, .ref hq])), (hfm, .inl (cR, 8, .inr (.inr (.inr (.inr fa))))), (h, .inr (0, [.ref pw, .ref ps, .ref po, .ref pk, .int (nI n)])), (pw, .inl (cI, 6, .inl wd)), (ps, .inl (cZ, 6, .inl sg)), (po, .inl (cI, 64, .inl ow)), (pk, .inl (cI, 64, .inl co))] [(cR, .object "SliceCoder$Form"), (cI, .int), (cZ, .boolean)] [.ref ax, .int (nI f), .int y, .int zh, .int zl]) eIA 1 6 := by
  refine tx_ofW (cc := cX_slice) (maxL := 6) (ret := (some .int)) (by decide) rfl ?_
  intro p e s m args below meth c s₁ B hml hv
  obtain ⟨rfl, hP, hK, hV, hZ⟩ := hv
  have hx := B.exec
  have hb := B.bytes
  have hr := B.returns
  have hts := atoms_spec (ws := wX_slice) B.pre
  have hw : ∀ w ∈ wA, w.before _ s = true := fun w h => hts w (List.mem_cons_of_mem _ h)
  have hown : s.vm.findClass RX = some m.cls := findClass_of_methodNamed B.named
  have hlocks := B.notSynchronized
  have hl := lv_entry ([.ref ax, .int (nI f), .int y, .int zh, .int zl]) (n := 6) (Nat.le_of_ble_eq_true rfl)
  rw [lg_entry_eq]
  generalize (lg_sl ([.ref ax, .int (nI f), .int y, .int zh, .int zl]) ++ List.replicate (6 - (lg_sl ([.ref ax, .int (nI f), .int y, .int zh, .int zl])).length) Slot.unset).toArray = ls at hl ⊢
  have hl : lv_has ls 6 [(0, .ref ax), (1, .int (nI f)), (2, .int y), (3, .int zh), (4, .int zl)] := hl
  refine lv_aload_n hx hb dX_slice_0 rfl (lv_at hl 0 rfl) ?_
  refine lv_iload_n hx hb dX_slice_1 rfl (lv_at hl 1 rfl) ?_
  refine lv_iload_n hx hb dX_slice_2 rfl (lv_at hl 2 rfl) ?_
  refine tx_callV (As := [.int (nI f), .int y]) (rest := []) (st0 := [.int y, .int (nI f), .ref ax]) ⟨hx, hb, hml, hown, hw⟩ (t_X_formWith_o l hl0 dC dI sa cR ax hfm hq fa cI cZ h pw ps po pk n wd sg ow co it w sb hF f hf hfa y hb9) (cwV 2 hw (gV kw_237 kw_239 kw_3 kw_14 kw_240) rfl rfl rfl (by decide +kernel) ⟨Nat.le_of_ble_eq_true rfl, Nat.le_of_ble_eq_true rfl⟩) (xo_preV (q0 := 0) hK hP hV hZ rfl rfl) rfl hl.1 rfl (lv_room (Nat.le_of_ble_eq_true rfl)) dX_slice_3 ⟨Nat.le_of_ble_eq_true rfl, Nat.le_of_ble_eq_true rfl⟩ (fun q9 ce H1 k1 k2 k3 k4 k5 => ?_)
  exact tx_out B.named (hts _ List.mem_cons_self) hlocks k1 k2 k3 (Nat.le_of_ble_eq_true rfl) (Nat.le_of_ble_eq_true rfl)

set_option maxHeartbeats 4000000 in
set_option maxRecDepth 100000 in
theorem t_X_fits_f (l : Launch) (hl0 : l.stackTraces = false) (dC : Nat → ClassId) (dI : Nat → Nat → Nat) (sa : Nat → Nat) (ax hfm hq : Nat) (x : Int32) (y : Int32) (v : Int64) (hb9 : isF x = false) : tx_Met l yX_fits wX_fits { frames := 8, cells := 1, slots := 6, locals := 126 } (xo_Pc sa (dC, dI) cls3 [(ax, .inr (1, [.ref hfm, .ref hq]))] [] [.ref ax, .int x, .int y, .long v]) eIA 1 6 := by
  refine tx_ofW (cc := cX_fits) (maxL := 5) (ret := (some .boolean)) (by decide) rfl ?_
  intro p e s m args below meth c s₁ B hml hv
  obtain ⟨rfl, hP, hK, hV, hZ⟩ := hv
  have hx := B.exec
  have hb := B.bytes
  have hr := B.returns
  have hts := atoms_spec (ws := wX_fits) B.pre
  have hw : ∀ w ∈ wA, w.before _ s = true := fun w h => hts w (List.mem_cons_of_mem _ h)
  have hown : s.vm.findClass RX = some m.cls := findClass_of_methodNamed B.named
  have hlocks := B.notSynchronized
  have hl := lv_entry ([.ref ax, .int x, .int y, .long v]) (n := 5) (Nat.le_of_ble_eq_true rfl)
  rw [lg_entry_eq]
  generalize (lg_sl ([.ref ax, .int x, .int y, .long v]) ++ List.replicate (5 - (lg_sl ([.ref ax, .int x, .int y, .long v])).length) Slot.unset).toArray = ls at hl ⊢
  have hl : lv_has ls 5 [(0, .ref ax), (1, .int x), (2, .int y), (3, .long v)] := hl
  refine lv_aload_n hx hb dX_fits_0 rfl (lv_at hl 0 rfl) ?_
  refine lv_iload_n hx hb dX_fits_1 rfl (lv_at hl 1 rfl) ?_
  refine lv_iload_n hx hb dX_fits_2 rfl (lv_at hl 2 rfl) ?_
  refine tx_callV (As := [.int x, .int y]) (rest := []) (st0 := [.int y, .int x, .ref ax]) ⟨hx, hb, hml, hown, hw⟩ (t_X_formWith_f l hl0 dC dI sa ax hfm hq x y hb9) (cwV 2 hw (gV kw_237 kw_239 kw_3 kw_14 kw_240) rfl rfl rfl (by decide +kernel) ⟨Nat.le_of_ble_eq_true rfl, Nat.le_of_ble_eq_true rfl⟩) (xo_preV (q0 := 0) hK hP hV hZ rfl rfl) rfl hl.1 rfl (lv_room (Nat.le_of_ble_eq_true rfl)) dX_fits_3 ⟨Nat.le_of_ble_eq_true rfl, Nat.le_of_ble_eq_true rfl⟩ (fun q9 ce H1 k1 k2 k3 k4 k5 => ?_)
  exact tx_out B.named (hts _ List.mem_cons_self) hlocks k1 k2 k3 (Nat.le_of_ble_eq_true rfl) (Nat.le_of_ble_eq_true rfl)

set_option maxHeartbeats 4000000 in
set_option maxRecDepth 100000 in
theorem t_X_fits_o (l : Launch) (hl0 : l.stackTraces = false) (dC : Nat → ClassId) (dI : Nat → Nat → Nat) (sa : Nat → Nat) (cR : ClassId) (ax hfm hq : Nat) (fa : Nat → Option Nat) (cI cZ : ClassId) (h pw ps po pk n : Nat) (wd sg ow co : Nat → Int32) (it w : Nat → Nat) (sb : Nat → Bool) (hF : fR n it w sb wd sg ow co) (f : Nat) (hf : f < 8) (hfa : fa f = some h) (y : Int32) (v : Int64) (hb9 : hop w y = false) : tx_Met l yX_fits wX_fits { frames := 7, cells := 1, slots := 6, locals := 105 } (xo_Pc sa (dC, dI) cls3 [(ax, .inr (1, [.ref hfm, .ref hq])), (hfm, .inl (cR, 8, .inr (.inr (.inr (.inr fa))))), (h, .inr (0, [.ref pw, .ref ps, .ref po, .ref pk, .int (nI n)])), (pw, .inl (cI, 6, .inl wd)), (ps, .inl (cZ, 6, .inl sg)), (po, .inl (cI, 64, .inl ow)), (pk, .inl (cI, 64, .inl co))] [(cR, .object "SliceCoder$Form"), (cI, .int), (cZ, .boolean)] [.ref ax, .int (nI f), .int y, .long v]) eIA 1 6 := by
  refine tx_ofW (cc := cX_fits) (maxL := 5) (ret := (some .boolean)) (by decide) rfl ?_
  intro p e s m args below meth c s₁ B hml hv
  obtain ⟨rfl, hP, hK, hV, hZ⟩ := hv
  have hx := B.exec
  have hb := B.bytes
  have hr := B.returns
  have hts := atoms_spec (ws := wX_fits) B.pre
  have hw : ∀ w ∈ wA, w.before _ s = true := fun w h => hts w (List.mem_cons_of_mem _ h)
  have hown : s.vm.findClass RX = some m.cls := findClass_of_methodNamed B.named
  have hlocks := B.notSynchronized
  have hl := lv_entry ([.ref ax, .int (nI f), .int y, .long v]) (n := 5) (Nat.le_of_ble_eq_true rfl)
  rw [lg_entry_eq]
  generalize (lg_sl ([.ref ax, .int (nI f), .int y, .long v]) ++ List.replicate (5 - (lg_sl ([.ref ax, .int (nI f), .int y, .long v])).length) Slot.unset).toArray = ls at hl ⊢
  have hl : lv_has ls 5 [(0, .ref ax), (1, .int (nI f)), (2, .int y), (3, .long v)] := hl
  refine lv_aload_n hx hb dX_fits_0 rfl (lv_at hl 0 rfl) ?_
  refine lv_iload_n hx hb dX_fits_1 rfl (lv_at hl 1 rfl) ?_
  refine lv_iload_n hx hb dX_fits_2 rfl (lv_at hl 2 rfl) ?_
  refine tx_callV (As := [.int (nI f), .int y]) (rest := []) (st0 := [.int y, .int (nI f), .ref ax]) ⟨hx, hb, hml, hown, hw⟩ (t_X_formWith_o l hl0 dC dI sa cR ax hfm hq fa cI cZ h pw ps po pk n wd sg ow co it w sb hF f hf hfa y hb9) (cwV 2 hw (gV kw_237 kw_239 kw_3 kw_14 kw_240) rfl rfl rfl (by decide +kernel) ⟨Nat.le_of_ble_eq_true rfl, Nat.le_of_ble_eq_true rfl⟩) (xo_preV (q0 := 0) hK hP hV hZ rfl rfl) rfl hl.1 rfl (lv_room (Nat.le_of_ble_eq_true rfl)) dX_fits_3 ⟨Nat.le_of_ble_eq_true rfl, Nat.le_of_ble_eq_true rfl⟩ (fun q9 ce H1 k1 k2 k3 k4 k5 => ?_)
  exact tx_out B.named (hts _ List.mem_cons_self) hlocks k1 k2 k3 (Nat.le_of_ble_eq_true rfl) (Nat.le_of_ble_eq_true rfl)

set_option maxHeartbeats 4000000 in
set_option maxRecDepth 100000 in
theorem t_X_decode_f (l : Launch) (hl0 : l.stackTraces = false) (dC : Nat → ClassId) (dI : Nat → Nat → Nat) (sa : Nat → Nat) (ax hfm hq : Nat) (x : Int32) (y : Int32) (v : Int64) (hb9 : isF x = false) : tx_Met l yX_decode wX_decode { frames := 8, cells := 1, slots := 6, locals := 126 } (xo_Pc sa (dC, dI) cls3 [(ax, .inr (1, [.ref hfm, .ref hq]))] [] [.ref ax, .int x, .int y, .long v]) eIA 1 6 := by
  refine tx_ofW (cc := cX_decode) (maxL := 6) (ret := (some .long)) (by decide) rfl ?_
  intro p e s m args below meth c s₁ B hml hv
  obtain ⟨rfl, hP, hK, hV, hZ⟩ := hv
  have hx := B.exec
  have hb := B.bytes
  have hr := B.returns
  have hts := atoms_spec (ws := wX_decode) B.pre
  have hw : ∀ w ∈ wA, w.before _ s = true := fun w h => hts w (List.mem_cons_of_mem _ h)
  have hown : s.vm.findClass RX = some m.cls := findClass_of_methodNamed B.named
  have hlocks := B.notSynchronized
  have hl := lv_entry ([.ref ax, .int x, .int y, .long v]) (n := 6) (Nat.le_of_ble_eq_true rfl)
  rw [lg_entry_eq]
  generalize (lg_sl ([.ref ax, .int x, .int y, .long v]) ++ List.replicate (6 - (lg_sl ([.ref ax, .int x, .int y, .long v])).length) Slot.unset).toArray = ls at hl ⊢
  have hl : lv_has ls 6 [(0, .ref ax), (1, .int x), (2, .int y), (3, .long v)] := hl
  refine lv_aload_n hx hb dX_decode_0 rfl (lv_at hl 0 rfl) ?_
  refine lv_iload_n hx hb dX_decode_1 rfl (lv_at hl 1 rfl) ?_
  refine lv_iload_n hx hb dX_decode_2 rfl (lv_at hl 2 rfl) ?_
  refine tx_callV (As := [.int x, .int y]) (rest := []) (st0 := [.int y, .int x, .ref ax]) ⟨hx, hb, hml, hown, hw⟩ (t_X_formWith_f l hl0 dC dI sa ax hfm hq x y hb9) (cwV 2 hw (gV kw_237 kw_239 kw_3 kw_14 kw_240) rfl rfl rfl (by decide +kernel) ⟨Nat.le_of_ble_eq_true rfl, Nat.le_of_ble_eq_true rfl⟩) (xo_preV (q0 := 0) hK hP hV hZ rfl rfl) rfl hl.1 rfl (lv_room (Nat.le_of_ble_eq_true rfl)) dX_decode_3 ⟨Nat.le_of_ble_eq_true rfl, Nat.le_of_ble_eq_true rfl⟩ (fun q9 ce H1 k1 k2 k3 k4 k5 => ?_)
  exact tx_out B.named (hts _ List.mem_cons_self) hlocks k1 k2 k3 (Nat.le_of_ble_eq_true rfl) (Nat.le_of_ble_eq_true rfl)

set_option maxHeartbeats 4000000 in
set_option maxRecDepth 100000 in
theorem t_X_decode_o (l : Launch) (hl0 : l.stackTraces = false) (dC : Nat → ClassId) (dI : Nat → Nat → Nat) (sa : Nat → Nat) (cR : ClassId) (ax hfm hq : Nat) (fa : Nat → Option Nat) (cI cZ : ClassId) (h pw ps po pk n : Nat) (wd sg ow co : Nat → Int32) (it w : Nat → Nat) (sb : Nat → Bool) (hF : fR n it w sb wd sg ow co) (f : Nat) (hf : f < 8) (hfa : fa f = some h) (y : Int32) (v : Int64) (hb9 : hop w y = false) : tx_Met l yX_decode wX_decode { frames := 7, cells := 1, slots := 6, locals := 105 } (xo_Pc sa (dC, dI) cls3 [(ax, .inr (1, [.ref hfm, .ref hq])), (hfm, .inl (cR, 8, .inr (.inr (.inr (.inr fa))))), (h, .inr (0, [.ref pw, .ref ps, .ref po, .ref pk, .int (nI n)])), (pw, .inl (cI, 6, .inl wd)), (ps, .inl (cZ, 6, .inl sg)), (po, .inl (cI, 64, .inl ow)), (pk, .inl (cI, 64, .inl co))] [(cR, .object "SliceCoder$Form"), (cI, .int), (cZ, .boolean)] [.ref ax, .int (nI f), .int y, .long v]) eIA 1 6 := by
  refine tx_ofW (cc := cX_decode) (maxL := 6) (ret := (some .long)) (by decide) rfl ?_
  intro p e s m args below meth c s₁ B hml hv
  obtain ⟨rfl, hP, hK, hV, hZ⟩ := hv
  have hx := B.exec
  have hb := B.bytes
  have hr := B.returns
  have hts := atoms_spec (ws := wX_decode) B.pre
  have hw : ∀ w ∈ wA, w.before _ s = true := fun w h => hts w (List.mem_cons_of_mem _ h)
  have hown : s.vm.findClass RX = some m.cls := findClass_of_methodNamed B.named
  have hlocks := B.notSynchronized
  have hl := lv_entry ([.ref ax, .int (nI f), .int y, .long v]) (n := 6) (Nat.le_of_ble_eq_true rfl)
  rw [lg_entry_eq]
  generalize (lg_sl ([.ref ax, .int (nI f), .int y, .long v]) ++ List.replicate (6 - (lg_sl ([.ref ax, .int (nI f), .int y, .long v])).length) Slot.unset).toArray = ls at hl ⊢
  have hl : lv_has ls 6 [(0, .ref ax), (1, .int (nI f)), (2, .int y), (3, .long v)] := hl
  refine lv_aload_n hx hb dX_decode_0 rfl (lv_at hl 0 rfl) ?_
  refine lv_iload_n hx hb dX_decode_1 rfl (lv_at hl 1 rfl) ?_
  refine lv_iload_n hx hb dX_decode_2 rfl (lv_at hl 2 rfl) ?_
  refine tx_callV (As := [.int (nI f), .int y]) (rest := []) (st0 := [.int y, .int (nI f), .ref ax]) ⟨hx, hb, hml, hown, hw⟩ (t_X_formWith_o l hl0 dC dI sa cR ax hfm hq fa cI cZ h pw ps po pk n wd sg ow co it w sb hF f hf hfa y hb9) (cwV 2 hw (gV kw_237 kw_239 kw_3 kw_14 kw_240) rfl rfl rfl (by decide +kernel) ⟨Nat.le_of_ble_eq_true rfl, Nat.le_of_ble_eq_true rfl⟩) (xo_preV (q0 := 0) hK hP hV hZ rfl rfl) rfl hl.1 rfl (lv_room (Nat.le_of_ble_eq_true rfl)) dX_decode_3 ⟨Nat.le_of_ble_eq_true rfl, Nat.le_of_ble_eq_true rfl⟩ (fun q9 ce H1 k1 k2 k3 k4 k5 => ?_)
  exact tx_out B.named (hts _ List.mem_cons_self) hlocks k1 k2 k3 (Nat.le_of_ble_eq_true rfl) (Nat.le_of_ble_eq_true rfl)

set_option maxHeartbeats 4000000 in
set_option maxRecDepth 100000 in
theorem t_X_operand_o (l : Launch) (hl0 : l.stackTraces = false) (dC : Nat → ClassId) (dI : Nat → Nat → Nat) (sa : Nat → Nat) (cR : ClassId) (ax hfm hq : Nat) (fa : Nat → Option Nat) (cI cZ : ClassId) (h pw ps po pk n : Nat) (wd sg ow co : Nat → Int32) (it w : Nat → Nat) (sb : Nat → Bool) (hF : fR n it w sb wd sg ow co) (f : Nat) (hf : f < 8) (hfa : fa f = some h) (y z b : Int32) (hb9 : isO y = false) : tx_Met l yX_operand wX_operand { frames := 7, cells := 1, slots := 6, locals := 102 } (xo_Pc sa (dC, dI) cls3 [(ax, .inr (1, [.ref hfm, .ref hq])), (hfm, .inl (cR, 8, .inr (.inr (.inr (.inr fa))))), (h, .inr (0, [.ref pw, .ref ps, .ref po, .ref pk, .int (nI n)])), (pw, .inl (cI, 6, .inl wd)), (ps, .inl (cZ, 6, .inl sg)), (po, .inl (cI, 64, .inl ow)), (pk, .inl (cI, 64, .inl co))] [(cR, .object "SliceCoder$Form"), (cI, .int), (cZ, .boolean)] [.ref ax, .int (nI f), .int y, .int z, .int b]) eIA 1 6 := by
  refine tx_ofW (cc := cX_operand) (maxL := 6) (ret := none) (by decide) rfl ?_
  intro p e s m args below meth c s₁ B hml hv
  obtain ⟨rfl, hP, hK, hV, hZ⟩ := hv
  have hx := B.exec
  have hb := B.bytes
  have hr := B.returns
  have hts := atoms_spec (ws := wX_operand) B.pre
  have hw : ∀ w ∈ wA, w.before _ s = true := fun w h => hts w (List.mem_cons_of_mem _ h)
  have hown : s.vm.findClass RX = some m.cls := findClass_of_methodNamed B.named
  have hlocks := B.notSynchronized
  have hl := lv_entry ([.ref ax, .int (nI f), .int y, .int z, .int b]) (n := 6) (Nat.le_of_ble_eq_true rfl)
  rw [lg_entry_eq]
  generalize (lg_sl ([.ref ax, .int (nI f), .int y, .int z, .int b]) ++ List.replicate (6 - (lg_sl ([.ref ax, .int (nI f), .int y, .int z, .int b])).length) Slot.unset).toArray = ls at hl ⊢
  have hl : lv_has ls 6 [(0, .ref ax), (1, .int (nI f)), (2, .int y), (3, .int z), (4, .int b)] := hl
  refine lv_aload_n hx hb dX_operand_0 rfl (lv_at hl 0 rfl) ?_
  refine lv_iload_n hx hb dX_operand_1 rfl (lv_at hl 1 rfl) ?_
  refine va_csr (W.runV (As := [.int (nI f)]) (rest := []) ⟨hx, hb, hml, hown, hw⟩ (c_X_formAt l dC dI sa cR ax hfm hq fa f h hf hfa) (cwV 1 hw (gV kw_75 kw_77 kw_0 kw_14 kw_78) rfl rfl rfl (by decide +kernel) ⟨Nat.le_of_ble_eq_true rfl, Nat.le_of_ble_eq_true rfl⟩) (xo_preV (q0 := 0) (hK.sub (tys' := [(cR, .object "SliceCoder$Form")]) [0] rfl) (hP.sub (ws' := [(ax, .inr (1, [.ref hfm, .ref hq])), (hfm, .inl (cR, 8, .inr (.inr (.inr (.inr fa)))))]) [0, 1] rfl) hV hZ rfl rfl) rfl rfl hl.1 rfl (lv_room (Nat.le_of_ble_eq_true rfl)) dX_operand_2 ⟨Nat.zero_le _, Nat.zero_le _⟩) (fun v2 e2 => ?_)
  obtain rfl : h = v2 := (e2).symm
  refine lv_astore hx hb dX_operand_5 hl (by decide) rfl (fun ls hl => ?_)
  have hl : lv_has ls 6 [(5, .ref h), (0, .ref ax), (1, .int (nI f)), (2, .int y), (3, .int z), (4, .int b)] := hl
  refine lv_iload_n hx hb dX_operand_7 rfl (lv_at hl 3 rfl) ?_
  refine tx_callS (As := [.int y]) (rest := []) (st0 := [.int y]) ⟨hx, hb, hml, hown, hw⟩ (t_X_checkOperandIndex l hl0 dC dI sa y hb9) (cwS 1 hw (gS kw_160 kw_161 kw_14 kw_162) rfl rfl rfl (by decide +kernel) ⟨Nat.le_of_ble_eq_true rfl, Nat.le_of_ble_eq_true rfl⟩) (xo_preS (hK.sub (tys' := []) [] rfl) (hP.sub (ws' := []) [] rfl) hV hZ) rfl hl.1 rfl (lv_room (Nat.le_of_ble_eq_true rfl)) dX_operand_8 ⟨Nat.le_of_ble_eq_true rfl, Nat.le_of_ble_eq_true rfl⟩ (fun q9 ce H1 k1 k2 k3 k4 k5 => ?_)
  exact tx_out B.named (hts _ List.mem_cons_self) hlocks k1 k2 k3 (Nat.le_of_ble_eq_true rfl) (Nat.le_of_ble_eq_true rfl)

set_option maxHeartbeats 4000000 in
set_option maxRecDepth 100000 in
theorem t_X_operand_n (l : Launch) (hl0 : l.stackTraces = false) (dC : Nat → ClassId) (dI : Nat → Nat → Nat) (sa : Nat → Nat) (cR : ClassId) (ax hfm hq : Nat) (fa : Nat → Option Nat) (cI cZ : ClassId) (h pw ps po pk n : Nat) (wd sg ow co : Nat → Int32) (it w : Nat → Nat) (sb : Nat → Bool) (hF : fR n it w sb wd sg ow co) (f : Nat) (hf : f < 8) (hfa : fa f = some h) (o : Nat) (z b : Int32) (ho : o < 6) (hb9 : isB z = false) : tx_Met l yX_operand wX_operand { frames := 7, cells := 1, slots := 6, locals := 102 } (xo_Pc sa (dC, dI) cls3 [(ax, .inr (1, [.ref hfm, .ref hq])), (hfm, .inl (cR, 8, .inr (.inr (.inr (.inr fa))))), (h, .inr (0, [.ref pw, .ref ps, .ref po, .ref pk, .int (nI n)])), (pw, .inl (cI, 6, .inl wd)), (ps, .inl (cZ, 6, .inl sg)), (po, .inl (cI, 64, .inl ow)), (pk, .inl (cI, 64, .inl co))] [(cR, .object "SliceCoder$Form"), (cI, .int), (cZ, .boolean)] [.ref ax, .int (nI f), .int (nI o), .int z, .int b]) eIA 1 6 := by
  refine tx_ofW (cc := cX_operand) (maxL := 6) (ret := none) (by decide) rfl ?_
  intro p e s m args below meth c s₁ B hml hv
  obtain ⟨rfl, hP, hK, hV, hZ⟩ := hv
  have hx := B.exec
  have hb := B.bytes
  have hr := B.returns
  have hts := atoms_spec (ws := wX_operand) B.pre
  have hw : ∀ w ∈ wA, w.before _ s = true := fun w h => hts w (List.mem_cons_of_mem _ h)
  have hown : s.vm.findClass RX = some m.cls := findClass_of_methodNamed B.named
  have hlocks := B.notSynchronized
  have hl := lv_entry ([.ref ax, .int (nI f), .int (nI o), .int z, .int b]) (n := 6) (Nat.le_of_ble_eq_true rfl)
  rw [lg_entry_eq]
  generalize (lg_sl ([.ref ax, .int (nI f), .int (nI o), .int z, .int b]) ++ List.replicate (6 - (lg_sl ([.ref ax, .int (nI f), .int (nI o), .int z, .int b])).length) Slot.unset).toArray = ls at hl ⊢
  have hl : lv_has ls 6 [(0, .ref ax), (1, .int (nI f)), (2, .int (nI o)), (3, .int z), (4, .int b)] := hl
  refine lv_aload_n hx hb dX_operand_0 rfl (lv_at hl 0 rfl) ?_
  refine lv_iload_n hx hb dX_operand_1 rfl (lv_at hl 1 rfl) ?_
  refine va_csr (W.runV (As := [.int (nI f)]) (rest := []) ⟨hx, hb, hml, hown, hw⟩ (c_X_formAt l dC dI sa cR ax hfm hq fa f h hf hfa) (cwV 1 hw (gV kw_75 kw_77 kw_0 kw_14 kw_78) rfl rfl rfl (by decide +kernel) ⟨Nat.le_of_ble_eq_true rfl, Nat.le_of_ble_eq_true rfl⟩) (xo_preV (q0 := 0) (hK.sub (tys' := [(cR, .object "SliceCoder$Form")]) [0] rfl) (hP.sub (ws' := [(ax, .inr (1, [.ref hfm, .ref hq])), (hfm, .inl (cR, 8, .inr (.inr (.inr (.inr fa)))))]) [0, 1] rfl) hV hZ rfl rfl) rfl rfl hl.1 rfl (lv_room (Nat.le_of_ble_eq_true rfl)) dX_operand_2 ⟨Nat.zero_le _, Nat.zero_le _⟩) (fun v2 e2 => ?_)
  obtain rfl : h = v2 := (e2).symm
  refine lv_astore hx hb dX_operand_5 hl (by decide) rfl (fun ls hl => ?_)
  have hl : lv_has ls 6 [(5, .ref h), (0, .ref ax), (1, .int (nI f)), (2, .int (nI o)), (3, .int z), (4, .int b)] := hl
  refine lv_iload_n hx hb dX_operand_7 rfl (lv_at hl 3 rfl) ?_
  refine va_csv (W.runS (As := [.int (nI o)]) (rest := []) ⟨hx, hb, hml, hown, hw⟩ (c_X_checkOperandIndex l o ho) (cwS 1 hw (gS kw_160 kw_161 kw_14 kw_162) rfl rfl rfl (by decide +kernel) ⟨Nat.le_of_ble_eq_true rfl, Nat.le_of_ble_eq_true rfl⟩) preEq rfl rfl hl.1 rfl (lv_room (Nat.le_of_ble_eq_true rfl)) dX_operand_8 ⟨Nat.zero_le _, Nat.zero_le _⟩) (fun _ => ?_)
  refine lv_iload_n hx hb dX_operand_11 rfl (lv_at hl 4 rfl) ?_
  refine tx_callS (As := [.int z]) (rest := []) (st0 := [.int z]) ⟨hx, hb, hml, hown, hw⟩ (t_X_checkBitCount l hl0 dC dI sa z hb9) (cwS 1 hw (gS kw_164 kw_165 kw_14 kw_166) rfl rfl rfl (by decide +kernel) ⟨Nat.le_of_ble_eq_true rfl, Nat.le_of_ble_eq_true rfl⟩) (xo_preS (hK.sub (tys' := []) [] rfl) (hP.sub (ws' := []) [] rfl) hV hZ) rfl hl.1 rfl (lv_room (Nat.le_of_ble_eq_true rfl)) dX_operand_12 ⟨Nat.le_of_ble_eq_true rfl, Nat.le_of_ble_eq_true rfl⟩ (fun q9 ce H1 k1 k2 k3 k4 k5 => ?_)
  exact tx_out B.named (hts _ List.mem_cons_self) hlocks k1 k2 k3 (Nat.le_of_ble_eq_true rfl) (Nat.le_of_ble_eq_true rfl)

set_option maxHeartbeats 4000000 in
set_option maxRecDepth 100000 in
theorem t_X_operand_s (l : Launch) (hl0 : l.stackTraces = false) (dC : Nat → ClassId) (dI : Nat → Nat → Nat) (sa : Nat → Nat) (cR : ClassId) (ax hfm hq : Nat) (fa : Nat → Option Nat) (cI cZ : ClassId) (h pw ps po pk n : Nat) (wd sg ow co : Nat → Int32) (it w : Nat → Nat) (sb : Nat → Bool) (hF : fR n it w sb wd sg ow co) (f : Nat) (hf : f < 8) (hfa : fa f = some h) (o k : Nat) (b : Int32) (ho : o < 6) (hk : 1 ≤ k ∧ k ≤ 64) (h0 : 0 < w o) : tx_Met l yX_operand wX_operand { frames := 6, cells := 1, slots := 6, locals := 82 } (xo_Pc sa (dC, dI) cls3 [(ax, .inr (1, [.ref hfm, .ref hq])), (hfm, .inl (cR, 8, .inr (.inr (.inr (.inr fa))))), (h, .inr (0, [.ref pw, .ref ps, .ref po, .ref pk, .int (nI n)])), (pw, .inl (cI, 6, .inl wd)), (ps, .inl (cZ, 6, .inl sg)), (po, .inl (cI, 64, .inl ow)), (pk, .inl (cI, 64, .inl co))] [(cR, .object "SliceCoder$Form"), (cI, .int), (cZ, .boolean)] [.ref ax, .int (nI f), .int (nI o), .int (nI k), .int b]) eIS 1 6 := by
  refine tx_ofW (cc := cX_operand) (maxL := 6) (ret := none) (by decide) rfl ?_
  intro p e s m args below meth c s₁ B hml hv
  obtain ⟨rfl, hP, hK, hV, hZ⟩ := hv
  have hx := B.exec
  have hb := B.bytes
  have hr := B.returns
  have hts := atoms_spec (ws := wX_operand) B.pre
  have hw : ∀ w ∈ wA, w.before _ s = true := fun w h => hts w (List.mem_cons_of_mem _ h)
  have hown : s.vm.findClass RX = some m.cls := findClass_of_methodNamed B.named
  have hlocks := B.notSynchronized
  have hl := lv_entry ([.ref ax, .int (nI f), .int (nI o), .int (nI k), .int b]) (n := 6) (Nat.le_of_ble_eq_true rfl)
  rw [lg_entry_eq]
  generalize (lg_sl ([.ref ax, .int (nI f), .int (nI o), .int (nI k), .int b]) ++ List.replicate (6 - (lg_sl ([.ref ax, .int (nI f), .int (nI o), .int (nI k), .int b])).length) Slot.unset).toArray = ls at hl ⊢
  have hl : lv_has ls 6 [(0, .ref ax), (1, .int (nI f)), (2, .int (nI o)), (3, .int (nI k)), (4, .int b)] := hl
  refine lv_aload_n hx hb dX_operand_0 rfl (lv_at hl 0 rfl) ?_
  refine lv_iload_n hx hb dX_operand_1 rfl (lv_at hl 1 rfl) ?_
  refine va_csr (W.runV (As := [.int (nI f)]) (rest := []) ⟨hx, hb, hml, hown, hw⟩ (c_X_formAt l dC dI sa cR ax hfm hq fa f h hf hfa) (cwV 1 hw (gV kw_75 kw_77 kw_0 kw_14 kw_78) rfl rfl rfl (by decide +kernel) ⟨Nat.le_of_ble_eq_true rfl, Nat.le_of_ble_eq_true rfl⟩) (xo_preV (q0 := 0) (hK.sub (tys' := [(cR, .object "SliceCoder$Form")]) [0] rfl) (hP.sub (ws' := [(ax, .inr (1, [.ref hfm, .ref hq])), (hfm, .inl (cR, 8, .inr (.inr (.inr (.inr fa)))))]) [0, 1] rfl) hV hZ rfl rfl) rfl rfl hl.1 rfl (lv_room (Nat.le_of_ble_eq_true rfl)) dX_operand_2 ⟨Nat.zero_le _, Nat.zero_le _⟩) (fun v2 e2 => ?_)
  obtain rfl : h = v2 := (e2).symm
  refine lv_astore hx hb dX_operand_5 hl (by decide) rfl (fun ls hl => ?_)
  have hl : lv_has ls 6 [(5, .ref h), (0, .ref ax), (1, .int (nI f)), (2, .int (nI o)), (3, .int (nI k)), (4, .int b)] := hl
  refine lv_iload_n hx hb dX_operand_7 rfl (lv_at hl 3 rfl) ?_
  refine va_csv (W.runS (As := [.int (nI o)]) (rest := []) ⟨hx, hb, hml, hown, hw⟩ (c_X_checkOperandIndex l o ho) (cwS 1 hw (gS kw_160 kw_161 kw_14 kw_162) rfl rfl rfl (by decide +kernel) ⟨Nat.le_of_ble_eq_true rfl, Nat.le_of_ble_eq_true rfl⟩) preEq rfl rfl hl.1 rfl (lv_room (Nat.le_of_ble_eq_true rfl)) dX_operand_8 ⟨Nat.zero_le _, Nat.zero_le _⟩) (fun _ => ?_)
  refine lv_iload_n hx hb dX_operand_11 rfl (lv_at hl 4 rfl) ?_
  refine va_csv (W.runS (As := [.int (nI k)]) (rest := []) ⟨hx, hb, hml, hown, hw⟩ (c_X_checkBitCount l k hk) (cwS 1 hw (gS kw_164 kw_165 kw_14 kw_166) rfl rfl rfl (by decide +kernel) ⟨Nat.le_of_ble_eq_true rfl, Nat.le_of_ble_eq_true rfl⟩) preEq rfl rfl hl.1 rfl (lv_room (Nat.le_of_ble_eq_true rfl)) dX_operand_12 ⟨Nat.zero_le _, Nat.zero_le _⟩) (fun _ => ?_)
  refine lv_aload hx hb dX_operand_15 (lv_at hl 0 rfl) ?_
  refine lv_iload_n hx hb dX_operand_17 rfl (lv_at hl 3 rfl) ?_
  refine vp_callSi (W.runV (As := [.int (nI o)]) (rest := []) ⟨hx, hb, hml, hown, hw⟩ (c_F_hasOperand l dC dI cI cZ h pw ps po pk n wd sg ow co it w sb hF (nI o)) (cwV 1 hw (gV kw_168 kw_169 kw_170 kw_15 kw_171) rfl rfl rfl (by decide +kernel) ⟨Nat.le_of_ble_eq_true rfl, Nat.le_of_ble_eq_true rfl⟩) (ro_preV (q0 := 0) (hK.sub (tys' := [(cI, .int), (cZ, .boolean)]) [1, 2] rfl) (hP.sub (ws' := [(h, .inr (0, [.ref pw, .ref ps, .ref po, .ref pk, .int (nI n)])), (pw, .inl (cI, 6, .inl wd)), (ps, .inl (cZ, 6, .inl sg)), (po, .inl (cI, 64, .inl ow)), (pk, .inl (cI, 64, .inl co))]) [2, 3, 4, 5, 6] rfl) rfl rfl) rfl rfl hl.1 rfl (lv_room (Nat.le_of_ble_eq_true rfl)) dX_operand_18 ⟨Nat.zero_le _, Nat.zero_le _⟩) (fun v18 e18 => ?_)
  obtain rfl : v18 = nI 1 := e18.trans (by rw [hop_nI w ho, decide_eq_true h0]; rfl)
  refine lv_if_eq (tgt := 34) hx hb dX_operand_21 (by decide) (fun h21 => ?_) (fun h21 => ?_)
  · exfalso
    first | exact h21 (by decide +kernel) | exact absurd h21 (by decide +kernel)
  · exact tx_throwS (own := RX) (names := eUp) (ik := 38) hx hb hl0 B.named (hts _ List.mem_cons_self) hlocks hown (by decide +kernel) (by decide +kernel) (hw _ kw_172) (hw _ kw_21) (hV.2 3 _ rfl) (xE_at hw hV hZ og_IS on_IS) (Nat.le_refl _) (hl.1.trans hml.symm) dX_operand_24 dX_operand_27 dX_operand_28 dX_operand_30 dX_operand_33 (Nat.le_of_ble_eq_true rfl) (Nat.le_of_ble_eq_true rfl) (Nat.le_of_ble_eq_true rfl) (Nat.le_of_ble_eq_true rfl) (Nat.le_of_ble_eq_true rfl) (Nat.le_of_ble_eq_true rfl)

set_option maxHeartbeats 4000000 in
set_option maxRecDepth 100000 in
theorem t_X_fixed_n (l : Launch) (hl0 : l.stackTraces = false) (dC : Nat → ClassId) (dI : Nat → Nat → Nat) (sa : Nat → Nat) (cR : ClassId) (ax hfm hq : Nat) (fa : Nat → Option Nat) (cI cZ : ClassId) (h pw ps po pk n : Nat) (wd sg ow co : Nat → Int32) (it w : Nat → Nat) (sb : Nat → Bool) (hF : fR n it w sb wd sg ow co) (f : Nat) (hf : f < 8) (hfa : fa f = some h) (z : Int32) (v : Int64) (hb9 : isB z = false) : tx_Met l yX_fixed wX_fixed { frames := 7, cells := 1, slots := 6, locals := 102 } (xo_Pc sa (dC, dI) cls3 [(ax, .inr (1, [.ref hfm, .ref hq])), (hfm, .inl (cR, 8, .inr (.inr (.inr (.inr fa))))), (h, .inr (0, [.ref pw, .ref ps, .ref po, .ref pk, .int (nI n)])), (pw, .inl (cI, 6, .inl wd)), (ps, .inl (cZ, 6, .inl sg)), (po, .inl (cI, 64, .inl ow)), (pk, .inl (cI, 64, .inl co))] [(cR, .object "SliceCoder$Form"), (cI, .int), (cZ, .boolean)] [.ref ax, .int (nI f), .int z, .long v]) eIA 1 6 := by
  refine tx_ofW (cc := cX_fixed) (maxL := 6) (ret := (some .int)) (by decide) rfl ?_
  intro p e s m args below meth c s₁ B hml hv
  obtain ⟨rfl, hP, hK, hV, hZ⟩ := hv
  have hx := B.exec
  have hb := B.bytes
  have hr := B.returns
  have hts := atoms_spec (ws := wX_fixed) B.pre
  have hw : ∀ w ∈ wA, w.before _ s = true := fun w h => hts w (List.mem_cons_of_mem _ h)
  have hown : s.vm.findClass RX = some m.cls := findClass_of_methodNamed B.named
  have hlocks := B.notSynchronized
  have hl := lv_entry ([.ref ax, .int (nI f), .int z, .long v]) (n := 6) (Nat.le_of_ble_eq_true rfl)
  rw [lg_entry_eq]
  generalize (lg_sl ([.ref ax, .int (nI f), .int z, .long v]) ++ List.replicate (6 - (lg_sl ([.ref ax, .int (nI f), .int z, .long v])).length) Slot.unset).toArray = ls at hl ⊢
  have hl : lv_has ls 6 [(0, .ref ax), (1, .int (nI f)), (2, .int z), (3, .long v)] := hl
  refine lv_aload_n hx hb dX_fixed_0 rfl (lv_at hl 0 rfl) ?_
  refine lv_iload_n hx hb dX_fixed_1 rfl (lv_at hl 1 rfl) ?_
  refine va_csr (W.runV (As := [.int (nI f)]) (rest := []) ⟨hx, hb, hml, hown, hw⟩ (c_X_formAt l dC dI sa cR ax hfm hq fa f h hf hfa) (cwV 1 hw (gV kw_75 kw_77 kw_0 kw_14 kw_78) rfl rfl rfl (by decide +kernel) ⟨Nat.le_of_ble_eq_true rfl, Nat.le_of_ble_eq_true rfl⟩) (xo_preV (q0 := 0) (hK.sub (tys' := [(cR, .object "SliceCoder$Form")]) [0] rfl) (hP.sub (ws' := [(ax, .inr (1, [.ref hfm, .ref hq])), (hfm, .inl (cR, 8, .inr (.inr (.inr (.inr fa)))))]) [0, 1] rfl) hV hZ rfl rfl) rfl rfl hl.1 rfl (lv_room (Nat.le_of_ble_eq_true rfl)) dX_fixed_2 ⟨Nat.zero_le _, Nat.zero_le _⟩) (fun v2 e2 => ?_)
  obtain rfl : h = v2 := (e2).symm
  refine lv_astore hx hb dX_fixed_5 hl (by decide) rfl (fun ls hl => ?_)
  have hl : lv_has ls 6 [(5, .ref h), (0, .ref ax), (1, .int (nI f)), (2, .int z), (3, .long v)] := hl
  refine lv_iload_n hx hb dX_fixed_7 rfl (lv_at hl 3 rfl) ?_
  refine tx_callS (As := [.int z]) (rest := []) (st0 := [.int z]) ⟨hx, hb, hml, hown, hw⟩ (t_X_checkBitCount l hl0 dC dI sa z hb9) (cwS 1 hw (gS kw_164 kw_165 kw_14 kw_166) rfl rfl rfl (by decide +kernel) ⟨Nat.le_of_ble_eq_true rfl, Nat.le_of_ble_eq_true rfl⟩) (xo_preS (hK.sub (tys' := []) [] rfl) (hP.sub (ws' := []) [] rfl) hV hZ) rfl hl.1 rfl (lv_room (Nat.le_of_ble_eq_true rfl)) dX_fixed_8 ⟨Nat.le_of_ble_eq_true rfl, Nat.le_of_ble_eq_true rfl⟩ (fun q9 ce H1 k1 k2 k3 k4 k5 => ?_)
  exact tx_out B.named (hts _ List.mem_cons_self) hlocks k1 k2 k3 (Nat.le_of_ble_eq_true rfl) (Nat.le_of_ble_eq_true rfl)

set_option maxHeartbeats 4000000 in
set_option maxRecDepth 100000 in
theorem t_X_fixed_r (l : Launch) (hl0 : l.stackTraces = false) (dC : Nat → ClassId) (dI : Nat → Nat → Nat) (sa : Nat → Nat) (cR : ClassId) (ax hfm hq : Nat) (fa : Nat → Option Nat) (cI cZ : ClassId) (h pw ps po pk n : Nat) (wd sg ow co : Nat → Int32) (it w : Nat → Nat) (sb : Nat → Bool) (hF : fR n it w sb wd sg ow co) (f : Nat) (hf : f < 8) (hfa : fa f = some h) (cnt : Nat) (v : Int64) (hc : 1 ≤ cnt ∧ cnt ≤ 64) (hr9 : 64 < n + cnt) : tx_Met l yX_fixed wX_fixed { frames := 7, cells := 1, slots := 6, locals := 103 } (xo_Pc sa (dC, dI) cls3 [(ax, .inr (1, [.ref hfm, .ref hq])), (hfm, .inl (cR, 8, .inr (.inr (.inr (.inr fa))))), (h, .inr (0, [.ref pw, .ref ps, .ref po, .ref pk, .int (nI n)])), (pw, .inl (cI, 6, .inl wd)), (ps, .inl (cZ, 6, .inl sg)), (po, .inl (cI, 64, .inl ow)), (pk, .inl (cI, 64, .inl co))] [(cR, .object "SliceCoder$Form"), (cI, .int), (cZ, .boolean)] [.ref ax, .int (nI f), .int (nI cnt), .long v]) eIX 1 6 := by
  refine tx_ofW (cc := cX_fixed) (maxL := 6) (ret := (some .int)) (by decide) rfl ?_
  intro p e s m args below meth c s₁ B hml hv
  obtain ⟨rfl, hP, hK, hV, hZ⟩ := hv
  have hx := B.exec
  have hb := B.bytes
  have hr := B.returns
  have hts := atoms_spec (ws := wX_fixed) B.pre
  have hw : ∀ w ∈ wA, w.before _ s = true := fun w h => hts w (List.mem_cons_of_mem _ h)
  have hown : s.vm.findClass RX = some m.cls := findClass_of_methodNamed B.named
  have hlocks := B.notSynchronized
  have hl := lv_entry ([.ref ax, .int (nI f), .int (nI cnt), .long v]) (n := 6) (Nat.le_of_ble_eq_true rfl)
  rw [lg_entry_eq]
  generalize (lg_sl ([.ref ax, .int (nI f), .int (nI cnt), .long v]) ++ List.replicate (6 - (lg_sl ([.ref ax, .int (nI f), .int (nI cnt), .long v])).length) Slot.unset).toArray = ls at hl ⊢
  have hl : lv_has ls 6 [(0, .ref ax), (1, .int (nI f)), (2, .int (nI cnt)), (3, .long v)] := hl
  refine lv_aload_n hx hb dX_fixed_0 rfl (lv_at hl 0 rfl) ?_
  refine lv_iload_n hx hb dX_fixed_1 rfl (lv_at hl 1 rfl) ?_
  refine va_csr (W.runV (As := [.int (nI f)]) (rest := []) ⟨hx, hb, hml, hown, hw⟩ (c_X_formAt l dC dI sa cR ax hfm hq fa f h hf hfa) (cwV 1 hw (gV kw_75 kw_77 kw_0 kw_14 kw_78) rfl rfl rfl (by decide +kernel) ⟨Nat.le_of_ble_eq_true rfl, Nat.le_of_ble_eq_true rfl⟩) (xo_preV (q0 := 0) (hK.sub (tys' := [(cR, .object "SliceCoder$Form")]) [0] rfl) (hP.sub (ws' := [(ax, .inr (1, [.ref hfm, .ref hq])), (hfm, .inl (cR, 8, .inr (.inr (.inr (.inr fa)))))]) [0, 1] rfl) hV hZ rfl rfl) rfl rfl hl.1 rfl (lv_room (Nat.le_of_ble_eq_true rfl)) dX_fixed_2 ⟨Nat.zero_le _, Nat.zero_le _⟩) (fun v2 e2 => ?_)
  obtain rfl : h = v2 := (e2).symm
  refine lv_astore hx hb dX_fixed_5 hl (by decide) rfl (fun ls hl => ?_)
  have hl : lv_has ls 6 [(5, .ref h), (0, .ref ax), (1, .int (nI f)), (2, .int (nI cnt)), (3, .long v)] := hl
  refine lv_iload_n hx hb dX_fixed_7 rfl (lv_at hl 3 rfl) ?_
  refine va_csv (W.runS (As := [.int (nI cnt)]) (rest := []) ⟨hx, hb, hml, hown, hw⟩ (c_X_checkBitCount l cnt hc) (cwS 1 hw (gS kw_164 kw_165 kw_14 kw_166) rfl rfl rfl (by decide +kernel) ⟨Nat.le_of_ble_eq_true rfl, Nat.le_of_ble_eq_true rfl⟩) preEq rfl rfl hl.1 rfl (lv_room (Nat.le_of_ble_eq_true rfl)) dX_fixed_8 ⟨Nat.zero_le _, Nat.zero_le _⟩) (fun _ => ?_)
  refine lv_aload hx hb dX_fixed_11 (lv_at hl 0 rfl) ?_
  refine lv_iload_n hx hb dX_fixed_13 rfl (lv_at hl 3 rfl) ?_
  refine tx_callS (As := [.ref h, .int (nI cnt)]) (rest := []) (st0 := [.int (nI cnt), .ref h]) ⟨hx, hb, hml, hown, hw⟩ (t_X_checkRoom l hl0 dC dI sa cI cZ h pw ps po pk n wd sg ow co it w sb hF cnt hr9 hc.2) (cwS 2 hw (gS kw_200 kw_201 kw_14 kw_202) rfl rfl rfl (by decide +kernel) ⟨Nat.le_of_ble_eq_true rfl, Nat.le_of_ble_eq_true rfl⟩) (xo_preS (hK.sub (tys' := [(cI, .int), (cZ, .boolean)]) [1, 2] rfl) (hP.sub (ws' := [(h, .inr (0, [.ref pw, .ref ps, .ref po, .ref pk, .int (nI n)])), (pw, .inl (cI, 6, .inl wd)), (ps, .inl (cZ, 6, .inl sg)), (po, .inl (cI, 64, .inl ow)), (pk, .inl (cI, 64, .inl co))]) [2, 3, 4, 5, 6] rfl) hV hZ) rfl hl.1 rfl (lv_room (Nat.le_of_ble_eq_true rfl)) dX_fixed_14 ⟨Nat.le_of_ble_eq_true rfl, Nat.le_of_ble_eq_true rfl⟩ (fun q9 ce H1 k1 k2 k3 k4 k5 => ?_)
  exact tx_out B.named (hts _ List.mem_cons_self) hlocks k1 k2 k3 (Nat.le_of_ble_eq_true rfl) (Nat.le_of_ble_eq_true rfl)

set_option maxHeartbeats 4000000 in
set_option maxRecDepth 100000 in
theorem t_X_slice_l (l : Launch) (hl0 : l.stackTraces = false) (dC : Nat → ClassId) (dI : Nat → Nat → Nat) (sa : Nat → Nat) (cR : ClassId) (ax hfm hq : Nat) (fa : Nat → Option Nat) (cI cZ : ClassId) (h pw ps po pk n : Nat) (wd sg ow co : Nat → Int32) (it w : Nat → Nat) (sb : Nat → Bool) (hF : fR n it w sb wd sg ow co) (f : Nat) (hf : f < 8) (hfa : fa f = some h) (o : Nat) (ho : o < 6) (hw1 : 0 < w o) (zh zl : Int32) (hb9 : ¬ zl ≤ zh) : tx_Met l yX_slice wX_slice { frames := 6, cells := 1, slots := 6, locals := 82 } (xo_Pc sa (dC, dI) cls3 [(ax, .inr (1, [.ref hfm, .ref hq])), (hfm, .inl (cR, 8, .inr (.inr (.inr (.inr fa))))), (h, .inr (0, [.ref pw, .ref ps, .ref po, .ref pk, .int (nI n)])), (pw, .inl (cI, 6, .inl wd)), (ps, .inl (cZ, 6, .inl sg)), (po, .inl (cI, 64, .inl ow)), (pk, .inl (cI, 64, .inl co))] [(cR, .object "SliceCoder$Form"), (cI, .int), (cZ, .boolean)] [.ref ax, .int (nI f), .int (nI o), .int zh, .int zl]) eIA 1 6 := by
  refine tx_ofW (cc := cX_slice) (maxL := 6) (ret := (some .int)) (by decide) rfl ?_
  intro p e s m args below meth c s₁ B hml hv
  obtain ⟨rfl, hP, hK, hV, hZ⟩ := hv
  have hx := B.exec
  have hb := B.bytes
  have hr := B.returns
  have hts := atoms_spec (ws := wX_slice) B.pre
  have hw : ∀ w ∈ wA, w.before _ s = true := fun w h => hts w (List.mem_cons_of_mem _ h)
  have hown : s.vm.findClass RX = some m.cls := findClass_of_methodNamed B.named
  have hlocks := B.notSynchronized
  have hl := lv_entry ([.ref ax, .int (nI f), .int (nI o), .int zh, .int zl]) (n := 6) (Nat.le_of_ble_eq_true rfl)
  rw [lg_entry_eq]
  generalize (lg_sl ([.ref ax, .int (nI f), .int (nI o), .int zh, .int zl]) ++ List.replicate (6 - (lg_sl ([.ref ax, .int (nI f), .int (nI o), .int zh, .int zl])).length) Slot.unset).toArray = ls at hl ⊢
  have hl : lv_has ls 6 [(0, .ref ax), (1, .int (nI f)), (2, .int (nI o)), (3, .int zh), (4, .int zl)] := hl
  refine lv_aload_n hx hb dX_slice_0 rfl (lv_at hl 0 rfl) ?_
  refine lv_iload_n hx hb dX_slice_1 rfl (lv_at hl 1 rfl) ?_
  refine lv_iload_n hx hb dX_slice_2 rfl (lv_at hl 2 rfl) ?_
  refine va_csr (W.runV (As := [.int (nI f), .int (nI o)]) (rest := []) ⟨hx, hb, hml, hown, hw⟩ (c_X_formWith l dC dI sa cR ax hfm hq fa cI cZ h pw ps po pk n wd sg ow co it w sb hF f hf hfa o ho hw1) (cwV 2 hw (gV kw_237 kw_239 kw_3 kw_14 kw_240) rfl rfl rfl (by decide +kernel) ⟨Nat.le_of_ble_eq_true rfl, Nat.le_of_ble_eq_true rfl⟩) (xo_preV (q0 := 0) hK hP hV hZ rfl rfl) rfl rfl hl.1 rfl (lv_room (Nat.le_of_ble_eq_true rfl)) dX_slice_3 ⟨Nat.zero_le _, Nat.zero_le _⟩) (fun v3 e3 => ?_)
  obtain rfl : h = v3 := (e3).symm
  refine lv_astore hx hb dX_slice_6 hl (by decide) rfl (fun ls hl => ?_)
  have hl : lv_has ls 6 [(5, .ref h), (0, .ref ax), (1, .int (nI f)), (2, .int (nI o)), (3, .int zh), (4, .int zl)] := hl
  refine lv_iload_n hx hb dX_slice_8 rfl (lv_at hl 4 rfl) ?_
  refine lv_iload hx hb dX_slice_9 (lv_at hl 5 rfl) ?_
  refine lv_icmp_ge (tgt := 24) hx hb dX_slice_11 (by decide) (fun h11 => ?_) (fun h11 => ?_)
  · exfalso
    exact hb9 h11
  · exact tx_throwS (own := RX) (names := eUp) (ik := 65) hx hb hl0 B.named (hts _ List.mem_cons_self) hlocks hown (by decide +kernel) (by decide +kernel) (hw _ kw_79) (hw _ kw_20) (hV.2 6 _ rfl) (xE_at hw hV hZ og_IA on_IA) (Nat.le_refl _) (hl.1.trans hml.symm) dX_slice_14 dX_slice_17 dX_slice_18 dX_slice_20 dX_slice_23 (Nat.le_of_ble_eq_true rfl) (Nat.le_of_ble_eq_true rfl) (Nat.le_of_ble_eq_true rfl) (Nat.le_of_ble_eq_true rfl) (Nat.le_of_ble_eq_true rfl) (Nat.le_of_ble_eq_true rfl)

set_option maxHeartbeats 4000000 in
set_option maxRecDepth 100000 in
theorem t_X_slice_b (l : Launch) (hl0 : l.stackTraces = false) (dC : Nat → ClassId) (dI : Nat → Nat → Nat) (sa : Nat → Nat) (cR : ClassId) (ax hfm hq : Nat) (fa : Nat → Option Nat) (cI cZ : ClassId) (h pw ps po pk n : Nat) (wd sg ow co : Nat → Int32) (it w : Nat → Nat) (sb : Nat → Bool) (hF : fR n it w sb wd sg ow co) (f : Nat) (hf : f < 8) (hfa : fa f = some h) (o : Nat) (ho : o < 6) (hw1 : 0 < w o) (zh zl : Int32) (hle : zl ≤ zh) (hb9 : zl < 0 ∨ nI (w o) ≤ zh) : tx_Met l yX_slice wX_slice { frames := 6, cells := 1, slots := 6, locals := 82 } (xo_Pc sa (dC, dI) cls3 [(ax, .inr (1, [.ref hfm, .ref hq])), (hfm, .inl (cR, 8, .inr (.inr (.inr (.inr fa))))), (h, .inr (0, [.ref pw, .ref ps, .ref po, .ref pk, .int (nI n)])), (pw, .inl (cI, 6, .inl wd)), (ps, .inl (cZ, 6, .inl sg)), (po, .inl (cI, 64, .inl ow)), (pk, .inl (cI, 64, .inl co))] [(cR, .object "SliceCoder$Form"), (cI, .int), (cZ, .boolean)] [.ref ax, .int (nI f), .int (nI o), .int zh, .int zl]) eIX 1 6 := by
  refine tx_ofW (cc := cX_slice) (maxL := 6) (ret := (some .int)) (by decide) rfl ?_
  intro p e s m args below meth c s₁ B hml hv
  obtain ⟨rfl, hP, hK, hV, hZ⟩ := hv
  have hx := B.exec
  have hb := B.bytes
  have hr := B.returns
  have hts := atoms_spec (ws := wX_slice) B.pre
  have hw : ∀ w ∈ wA, w.before _ s = true := fun w h => hts w (List.mem_cons_of_mem _ h)
  have hown : s.vm.findClass RX = some m.cls := findClass_of_methodNamed B.named
  have hlocks := B.notSynchronized
  have hl := lv_entry ([.ref ax, .int (nI f), .int (nI o), .int zh, .int zl]) (n := 6) (Nat.le_of_ble_eq_true rfl)
  rw [lg_entry_eq]
  generalize (lg_sl ([.ref ax, .int (nI f), .int (nI o), .int zh, .int zl]) ++ List.replicate (6 - (lg_sl ([.ref ax, .int (nI f), .int (nI o), .int zh, .int zl])).length) Slot.unset).toArray = ls at hl ⊢
  have hl : lv_has ls 6 [(0, .ref ax), (1, .int (nI f)), (2, .int (nI o)), (3, .int zh), (4, .int zl)] := hl
  have hN_widths : ∀ A9, (Cond.fieldLinkNest "SliceCoder" 70 "SliceCoder$Form" "widths" "[I" "SliceCoder").before A9 s = true := fun A9 => va_Nw.use (by rfl) (hV.1 _ (by decide +kernel))
  have hN_length : ∀ A9, (Cond.fieldLinkNest "SliceCoder" 57 "SliceCoder$Form" "length" "I" "SliceCoder").before A9 s = true := fun A9 => va_Nw.use (by rfl) (hV.1 _ (by decide +kernel))
  have hn : n ≤ 64 := hF.1.1
  have hwd := hF.2.1
  have hsg := hF.2.2.1
  have hoc := hF.2.2.2
  have hit := cw_it hF.1
  have hw64 := hF.1.2.1
  refine lv_aload_n hx hb dX_slice_0 rfl (lv_at hl 0 rfl) ?_
  refine lv_iload_n hx hb dX_slice_1 rfl (lv_at hl 1 rfl) ?_
  refine lv_iload_n hx hb dX_slice_2 rfl (lv_at hl 2 rfl) ?_
  refine va_csr (W.runV (As := [.int (nI f), .int (nI o)]) (rest := []) ⟨hx, hb, hml, hown, hw⟩ (c_X_formWith l dC dI sa cR ax hfm hq fa cI cZ h pw ps po pk n wd sg ow co it w sb hF f hf hfa o ho hw1) (cwV 2 hw (gV kw_237 kw_239 kw_3 kw_14 kw_240) rfl rfl rfl (by decide +kernel) ⟨Nat.le_of_ble_eq_true rfl, Nat.le_of_ble_eq_true rfl⟩) (xo_preV (q0 := 0) hK hP hV hZ rfl rfl) rfl rfl hl.1 rfl (lv_room (Nat.le_of_ble_eq_true rfl)) dX_slice_3 ⟨Nat.zero_le _, Nat.zero_le _⟩) (fun v3 e3 => ?_)
  obtain rfl : h = v3 := (e3).symm
  refine lv_astore hx hb dX_slice_6 hl (by decide) rfl (fun ls hl => ?_)
  have hl : lv_has ls 6 [(5, .ref h), (0, .ref ax), (1, .int (nI f)), (2, .int (nI o)), (3, .int zh), (4, .int zl)] := hl
  refine lv_iload_n hx hb dX_slice_8 rfl (lv_at hl 4 rfl) ?_
  refine lv_iload hx hb dX_slice_9 (lv_at hl 5 rfl) ?_
  refine lv_icmp_ge (tgt := 24) hx hb dX_slice_11 (by decide) (fun h11 => ?_) (fun h11 => ?_)
  · refine lv_iload hx hb dX_slice_24 (lv_at hl 5 rfl) ?_
    refine lv_if_lt (tgt := 40) hx hb dX_slice_26 (by decide) (fun h26 => ?_) (fun h26 => ?_)
    · exact tx_throwS (own := RX) (names := eUp) (ik := 74) hx hb hl0 B.named (hts _ List.mem_cons_self) hlocks hown (by decide +kernel) (by decide +kernel) (hw _ kw_203) (hw _ kw_22) (hV.2 7 _ rfl) (xE_at hw hV hZ og_IX on_IX) (Nat.le_refl _) (hl.1.trans hml.symm) dX_slice_40 dX_slice_43 dX_slice_44 dX_slice_46 dX_slice_49 (Nat.le_of_ble_eq_true rfl) (Nat.le_of_ble_eq_true rfl) (Nat.le_of_ble_eq_true rfl) (Nat.le_of_ble_eq_true rfl) (Nat.le_of_ble_eq_true rfl) (Nat.le_of_ble_eq_true rfl)
    · refine lv_iload_n hx hb dX_slice_29 rfl (lv_at hl 4 rfl) ?_
      refine lv_aload hx hb dX_slice_30 (lv_at hl 0 rfl) ?_
      refine va_getN (D := (dC, dI)) (ci := 0) (v := .ref pw) (C := RF) (T := TF) (N := 5) hx hb hw inF hown hK hP 2 rfl rfl 0 (by decide) (hN_widths _) (fun _ h9 => h9) rfl dX_slice_32 ?_
      refine lv_iload_n hx hb dX_slice_35 rfl (lv_at hl 3 rfl) ?_
      refine va_iald hx hb hK hP 3 1 rfl rfl (vp_in_nI (by omega) (by decide)) dX_slice_36 ?_
      refine lv_topi (fun v36 e36 => ?_)
      rw [nI_clamp (by omega)] at e36
      obtain rfl : v36 = nI (w o) := e36.trans (hwd o (by omega))
      refine lv_icmp_lt (tgt := 50) hx hb dX_slice_37 (by decide) (fun h37 => ?_) (fun h37 => ?_)
      · exfalso
        exact hb9.elim h26 (fun q => absurd h37 (Int32.not_lt.mpr q))
      · exact tx_throwS (own := RX) (names := eUp) (ik := 74) hx hb hl0 B.named (hts _ List.mem_cons_self) hlocks hown (by decide +kernel) (by decide +kernel) (hw _ kw_203) (hw _ kw_22) (hV.2 7 _ rfl) (xE_at hw hV hZ og_IX on_IX) (Nat.le_refl _) (hl.1.trans hml.symm) dX_slice_40 dX_slice_43 dX_slice_44 dX_slice_46 dX_slice_49 (Nat.le_of_ble_eq_true rfl) (Nat.le_of_ble_eq_true rfl) (Nat.le_of_ble_eq_true rfl) (Nat.le_of_ble_eq_true rfl) (Nat.le_of_ble_eq_true rfl) (Nat.le_of_ble_eq_true rfl)
  · exfalso
    exact h11 hle

set_option maxHeartbeats 4000000 in
set_option maxRecDepth 100000 in
theorem t_X_slice_r (l : Launch) (hl0 : l.stackTraces = false) (dC : Nat → ClassId) (dI : Nat → Nat → Nat) (sa : Nat → Nat) (cR : ClassId) (ax hfm hq : Nat) (fa : Nat → Option Nat) (cI cZ : ClassId) (h pw ps po pk n : Nat) (wd sg ow co : Nat → Int32) (it w : Nat → Nat) (sb : Nat → Bool) (hF : fR n it w sb wd sg ow co) (f : Nat) (hf : f < 8) (hfa : fa f = some h) (o : Nat) (ho : o < 6) (hw1 : 0 < w o) (hi lo : Nat) (hh : hi < w o) (hlo : lo ≤ hi) (hr9 : 64 < n + (hi + 1 - lo)) : tx_Met l yX_slice wX_slice { frames := 7, cells := 1, slots := 6, locals := 103 } (xo_Pc sa (dC, dI) cls3 [(ax, .inr (1, [.ref hfm, .ref hq])), (hfm, .inl (cR, 8, .inr (.inr (.inr (.inr fa))))), (h, .inr (0, [.ref pw, .ref ps, .ref po, .ref pk, .int (nI n)])), (pw, .inl (cI, 6, .inl wd)), (ps, .inl (cZ, 6, .inl sg)), (po, .inl (cI, 64, .inl ow)), (pk, .inl (cI, 64, .inl co))] [(cR, .object "SliceCoder$Form"), (cI, .int), (cZ, .boolean)] [.ref ax, .int (nI f), .int (nI o), .int (nI hi), .int (nI lo)]) eIX 1 6 := by
  refine tx_ofW (cc := cX_slice) (maxL := 6) (ret := (some .int)) (by decide) rfl ?_
  intro p e s m args below meth c s₁ B hml hv
  obtain ⟨rfl, hP, hK, hV, hZ⟩ := hv
  have hx := B.exec
  have hb := B.bytes
  have hr := B.returns
  have hts := atoms_spec (ws := wX_slice) B.pre
  have hw : ∀ w ∈ wA, w.before _ s = true := fun w h => hts w (List.mem_cons_of_mem _ h)
  have hown : s.vm.findClass RX = some m.cls := findClass_of_methodNamed B.named
  have hlocks := B.notSynchronized
  have hl := lv_entry ([.ref ax, .int (nI f), .int (nI o), .int (nI hi), .int (nI lo)]) (n := 6) (Nat.le_of_ble_eq_true rfl)
  rw [lg_entry_eq]
  generalize (lg_sl ([.ref ax, .int (nI f), .int (nI o), .int (nI hi), .int (nI lo)]) ++ List.replicate (6 - (lg_sl ([.ref ax, .int (nI f), .int (nI o), .int (nI hi), .int (nI lo)])).length) Slot.unset).toArray = ls at hl ⊢
  have hl : lv_has ls 6 [(0, .ref ax), (1, .int (nI f)), (2, .int (nI o)), (3, .int (nI hi)), (4, .int (nI lo))] := hl
  have hN_widths : ∀ A9, (Cond.fieldLinkNest "SliceCoder" 70 "SliceCoder$Form" "widths" "[I" "SliceCoder").before A9 s = true := fun A9 => va_Nw.use (by rfl) (hV.1 _ (by decide +kernel))
  have hN_length : ∀ A9, (Cond.fieldLinkNest "SliceCoder" 57 "SliceCoder$Form" "length" "I" "SliceCoder").before A9 s = true := fun A9 => va_Nw.use (by rfl) (hV.1 _ (by decide +kernel))
  have hn : n ≤ 64 := hF.1.1
  have hwd := hF.2.1
  have hsg := hF.2.2.1
  have hoc := hF.2.2.2
  have hit := cw_it hF.1
  have hw64 := hF.1.2.1
  have hwo := hw64 o ho
  refine lv_aload_n hx hb dX_slice_0 rfl (lv_at hl 0 rfl) ?_
  refine lv_iload_n hx hb dX_slice_1 rfl (lv_at hl 1 rfl) ?_
  refine lv_iload_n hx hb dX_slice_2 rfl (lv_at hl 2 rfl) ?_
  refine va_csr (W.runV (As := [.int (nI f), .int (nI o)]) (rest := []) ⟨hx, hb, hml, hown, hw⟩ (c_X_formWith l dC dI sa cR ax hfm hq fa cI cZ h pw ps po pk n wd sg ow co it w sb hF f hf hfa o ho hw1) (cwV 2 hw (gV kw_237 kw_239 kw_3 kw_14 kw_240) rfl rfl rfl (by decide +kernel) ⟨Nat.le_of_ble_eq_true rfl, Nat.le_of_ble_eq_true rfl⟩) (xo_preV (q0 := 0) hK hP hV hZ rfl rfl) rfl rfl hl.1 rfl (lv_room (Nat.le_of_ble_eq_true rfl)) dX_slice_3 ⟨Nat.zero_le _, Nat.zero_le _⟩) (fun v3 e3 => ?_)
  obtain rfl : h = v3 := (e3).symm
  refine lv_astore hx hb dX_slice_6 hl (by decide) rfl (fun ls hl => ?_)
  have hl : lv_has ls 6 [(5, .ref h), (0, .ref ax), (1, .int (nI f)), (2, .int (nI o)), (3, .int (nI hi)), (4, .int (nI lo))] := hl
  refine lv_iload_n hx hb dX_slice_8 rfl (lv_at hl 4 rfl) ?_
  refine lv_iload hx hb dX_slice_9 (lv_at hl 5 rfl) ?_
  refine lv_icmp_ge (tgt := 24) hx hb dX_slice_11 (by decide) (fun h11 => ?_) (fun h11 => ?_)
  · refine lv_iload hx hb dX_slice_24 (lv_at hl 5 rfl) ?_
    refine lv_if_lt (tgt := 40) hx hb dX_slice_26 (by decide) (fun h26 => ?_) (fun h26 => ?_)
    · exfalso
      exact nI_lt0 (by omega) h26
    · refine lv_iload_n hx hb dX_slice_29 rfl (lv_at hl 4 rfl) ?_
      refine lv_aload hx hb dX_slice_30 (lv_at hl 0 rfl) ?_
      refine va_getN (D := (dC, dI)) (ci := 0) (v := .ref pw) (C := RF) (T := TF) (N := 5) hx hb hw inF hown hK hP 2 rfl rfl 0 (by decide) (hN_widths _) (fun _ h9 => h9) rfl dX_slice_32 ?_
      refine lv_iload_n hx hb dX_slice_35 rfl (lv_at hl 3 rfl) ?_
      refine va_iald hx hb hK hP 3 1 rfl rfl (vp_in_nI (by omega) (by decide)) dX_slice_36 ?_
      refine lv_topi (fun v36 e36 => ?_)
      rw [nI_clamp (by omega)] at e36
      obtain rfl : v36 = nI (w o) := e36.trans (hwd o (by omega))
      refine lv_icmp_lt (tgt := 50) hx hb dX_slice_37 (by decide) (fun h37 => ?_) (fun h37 => ?_)
      · refine lv_aload hx hb dX_slice_50 (lv_at hl 0 rfl) ?_
        refine lv_iload_n hx hb dX_slice_52 rfl (lv_at hl 4 rfl) ?_
        refine lv_iload hx hb dX_slice_53 (lv_at hl 5 rfl) ?_
        refine lv_isub hx hb dX_slice_55 ?_
        refine lv_topi (fun v55 e55 => ?_)
        obtain rfl : v55 = nI (hi - lo) := e55.trans (pk_sub (by omega))
        refine lv_iconst (v := nI 1) hx hb dX_slice_56 (by decide +kernel) ?_
        refine lv_iadd hx hb dX_slice_57 ?_
        refine lv_topi (fun v57 e57 => ?_)
        obtain rfl : v57 = nI (hi - lo + 1) := e57.trans (nI_add _ _)
        refine tx_callS (As := [.ref h, .int (nI (hi - lo + 1))]) (rest := []) (st0 := [.int (nI (hi - lo + 1)), .ref h]) ⟨hx, hb, hml, hown, hw⟩ (t_X_checkRoom l hl0 dC dI sa cI cZ h pw ps po pk n wd sg ow co it w sb hF (hi - lo + 1) (by omega) (by omega)) (cwS 2 hw (gS kw_200 kw_201 kw_14 kw_202) rfl rfl rfl (by decide +kernel) ⟨Nat.le_of_ble_eq_true rfl, Nat.le_of_ble_eq_true rfl⟩) (xo_preS (hK.sub (tys' := [(cI, .int), (cZ, .boolean)]) [1, 2] rfl) (hP.sub (ws' := [(h, .inr (0, [.ref pw, .ref ps, .ref po, .ref pk, .int (nI n)])), (pw, .inl (cI, 6, .inl wd)), (ps, .inl (cZ, 6, .inl sg)), (po, .inl (cI, 64, .inl ow)), (pk, .inl (cI, 64, .inl co))]) [2, 3, 4, 5, 6] rfl) hV hZ) rfl hl.1 rfl (lv_room (Nat.le_of_ble_eq_true rfl)) dX_slice_58 ⟨Nat.le_of_ble_eq_true rfl, Nat.le_of_ble_eq_true rfl⟩ (fun q9 ce H1 k1 k2 k3 k4 k5 => ?_)
        exact tx_out B.named (hts _ List.mem_cons_self) hlocks k1 k2 k3 (Nat.le_of_ble_eq_true rfl) (Nat.le_of_ble_eq_true rfl)
      · exfalso
        exact h37 (nI_lt hh (by omega))
  · exfalso
    exact h11 (nI_le hlo (by omega))

set_option maxHeartbeats 4000000 in
set_option maxRecDepth 100000 in
theorem t_X_slice_h (l : Launch) (hl0 : l.stackTraces = false) (dC : Nat → ClassId) (dI : Nat → Nat → Nat) (sa : Nat → Nat) (cR : ClassId) (ax hfm hq : Nat) (fa : Nat → Option Nat) (cI cZ : ClassId) (h pw ps po pk n : Nat) (wd sg ow co : Nat → Int32) (it w : Nat → Nat) (sb : Nat → Bool) (hF : fR n it w sb wd sg ow co) (f : Nat) (hf : f < 8) (hfa : fa f = some h) (o : Nat) (ho : o < 6) (hw1 : 0 < w o) (hi lo : Nat) (hh : hi < w o) (hlo : lo ≤ hi) (hr9 : n + (hi + 1 - lo) ≤ 64) (hno : hany it n o hi lo = true) : tx_Met l yX_slice wX_slice { frames := 6, cells := 1, slots := 6, locals := 82 } (xo_Pc sa (dC, dI) cls3 [(ax, .inr (1, [.ref hfm, .ref hq])), (hfm, .inl (cR, 8, .inr (.inr (.inr (.inr fa))))), (h, .inr (0, [.ref pw, .ref ps, .ref po, .ref pk, .int (nI n)])), (pw, .inl (cI, 6, .inl wd)), (ps, .inl (cZ, 6, .inl sg)), (po, .inl (cI, 64, .inl ow)), (pk, .inl (cI, 64, .inl co))] [(cR, .object "SliceCoder$Form"), (cI, .int), (cZ, .boolean)] [.ref ax, .int (nI f), .int (nI o), .int (nI hi), .int (nI lo)]) eIS 1 6 := by
  refine tx_ofW (cc := cX_slice) (maxL := 6) (ret := (some .int)) (by decide) rfl ?_
  intro p e s m args below meth c s₁ B hml hv
  obtain ⟨rfl, hP, hK, hV, hZ⟩ := hv
  have hx := B.exec
  have hb := B.bytes
  have hr := B.returns
  have hts := atoms_spec (ws := wX_slice) B.pre
  have hw : ∀ w ∈ wA, w.before _ s = true := fun w h => hts w (List.mem_cons_of_mem _ h)
  have hown : s.vm.findClass RX = some m.cls := findClass_of_methodNamed B.named
  have hlocks := B.notSynchronized
  have hl := lv_entry ([.ref ax, .int (nI f), .int (nI o), .int (nI hi), .int (nI lo)]) (n := 6) (Nat.le_of_ble_eq_true rfl)
  rw [lg_entry_eq]
  generalize (lg_sl ([.ref ax, .int (nI f), .int (nI o), .int (nI hi), .int (nI lo)]) ++ List.replicate (6 - (lg_sl ([.ref ax, .int (nI f), .int (nI o), .int (nI hi), .int (nI lo)])).length) Slot.unset).toArray = ls at hl ⊢
  have hl : lv_has ls 6 [(0, .ref ax), (1, .int (nI f)), (2, .int (nI o)), (3, .int (nI hi)), (4, .int (nI lo))] := hl
  have hN_widths : ∀ A9, (Cond.fieldLinkNest "SliceCoder" 70 "SliceCoder$Form" "widths" "[I" "SliceCoder").before A9 s = true := fun A9 => va_Nw.use (by rfl) (hV.1 _ (by decide +kernel))
  have hN_length : ∀ A9, (Cond.fieldLinkNest "SliceCoder" 57 "SliceCoder$Form" "length" "I" "SliceCoder").before A9 s = true := fun A9 => va_Nw.use (by rfl) (hV.1 _ (by decide +kernel))
  have hn : n ≤ 64 := hF.1.1
  have hwd := hF.2.1
  have hsg := hF.2.2.1
  have hoc := hF.2.2.2
  have hit := cw_it hF.1
  have hw64 := hF.1.2.1
  have hwo := hw64 o ho
  refine lv_aload_n hx hb dX_slice_0 rfl (lv_at hl 0 rfl) ?_
  refine lv_iload_n hx hb dX_slice_1 rfl (lv_at hl 1 rfl) ?_
  refine lv_iload_n hx hb dX_slice_2 rfl (lv_at hl 2 rfl) ?_
  refine va_csr (W.runV (As := [.int (nI f), .int (nI o)]) (rest := []) ⟨hx, hb, hml, hown, hw⟩ (c_X_formWith l dC dI sa cR ax hfm hq fa cI cZ h pw ps po pk n wd sg ow co it w sb hF f hf hfa o ho hw1) (cwV 2 hw (gV kw_237 kw_239 kw_3 kw_14 kw_240) rfl rfl rfl (by decide +kernel) ⟨Nat.le_of_ble_eq_true rfl, Nat.le_of_ble_eq_true rfl⟩) (xo_preV (q0 := 0) hK hP hV hZ rfl rfl) rfl rfl hl.1 rfl (lv_room (Nat.le_of_ble_eq_true rfl)) dX_slice_3 ⟨Nat.zero_le _, Nat.zero_le _⟩) (fun v3 e3 => ?_)
  obtain rfl : h = v3 := (e3).symm
  refine lv_astore hx hb dX_slice_6 hl (by decide) rfl (fun ls hl => ?_)
  have hl : lv_has ls 6 [(5, .ref h), (0, .ref ax), (1, .int (nI f)), (2, .int (nI o)), (3, .int (nI hi)), (4, .int (nI lo))] := hl
  refine lv_iload_n hx hb dX_slice_8 rfl (lv_at hl 4 rfl) ?_
  refine lv_iload hx hb dX_slice_9 (lv_at hl 5 rfl) ?_
  refine lv_icmp_ge (tgt := 24) hx hb dX_slice_11 (by decide) (fun h11 => ?_) (fun h11 => ?_)
  · refine lv_iload hx hb dX_slice_24 (lv_at hl 5 rfl) ?_
    refine lv_if_lt (tgt := 40) hx hb dX_slice_26 (by decide) (fun h26 => ?_) (fun h26 => ?_)
    · exfalso
      exact nI_lt0 (by omega) h26
    · refine lv_iload_n hx hb dX_slice_29 rfl (lv_at hl 4 rfl) ?_
      refine lv_aload hx hb dX_slice_30 (lv_at hl 0 rfl) ?_
      refine va_getN (D := (dC, dI)) (ci := 0) (v := .ref pw) (C := RF) (T := TF) (N := 5) hx hb hw inF hown hK hP 2 rfl rfl 0 (by decide) (hN_widths _) (fun _ h9 => h9) rfl dX_slice_32 ?_
      refine lv_iload_n hx hb dX_slice_35 rfl (lv_at hl 3 rfl) ?_
      refine va_iald hx hb hK hP 3 1 rfl rfl (vp_in_nI (by omega) (by decide)) dX_slice_36 ?_
      refine lv_topi (fun v36 e36 => ?_)
      rw [nI_clamp (by omega)] at e36
      obtain rfl : v36 = nI (w o) := e36.trans (hwd o (by omega))
      refine lv_icmp_lt (tgt := 50) hx hb dX_slice_37 (by decide) (fun h37 => ?_) (fun h37 => ?_)
      · refine lv_aload hx hb dX_slice_50 (lv_at hl 0 rfl) ?_
        refine lv_iload_n hx hb dX_slice_52 rfl (lv_at hl 4 rfl) ?_
        refine lv_iload hx hb dX_slice_53 (lv_at hl 5 rfl) ?_
        refine lv_isub hx hb dX_slice_55 ?_
        refine lv_topi (fun v55 e55 => ?_)
        obtain rfl : v55 = nI (hi - lo) := e55.trans (pk_sub (by omega))
        refine lv_iconst (v := nI 1) hx hb dX_slice_56 (by decide +kernel) ?_
        refine lv_iadd hx hb dX_slice_57 ?_
        refine lv_topi (fun v57 e57 => ?_)
        obtain rfl : v57 = nI (hi - lo + 1) := e57.trans (nI_add _ _)
        refine va_csv (W.runS (As := [.ref h, .int (nI (hi - lo + 1))]) (rest := []) ⟨hx, hb, hml, hown, hw⟩ (c_X_checkRoom l dC dI sa cI cZ h pw ps po pk n wd sg ow co it w sb hF (hi - lo + 1) (by omega)) (cwS 2 hw (gS kw_200 kw_201 kw_14 kw_202) rfl rfl rfl (by decide +kernel) ⟨Nat.le_of_ble_eq_true rfl, Nat.le_of_ble_eq_true rfl⟩) (xo_preS (hK.sub (tys' := [(cI, .int), (cZ, .boolean)]) [1, 2] rfl) (hP.sub (ws' := [(h, .inr (0, [.ref pw, .ref ps, .ref po, .ref pk, .int (nI n)])), (pw, .inl (cI, 6, .inl wd)), (ps, .inl (cZ, 6, .inl sg)), (po, .inl (cI, 64, .inl ow)), (pk, .inl (cI, 64, .inl co))]) [2, 3, 4, 5, 6] rfl) hV hZ) rfl rfl hl.1 rfl (lv_room (Nat.le_of_ble_eq_true rfl)) dX_slice_58 ⟨Nat.zero_le _, Nat.zero_le _⟩) (fun _ => ?_)
        refine lv_aload hx hb dX_slice_61 (lv_at hl 0 rfl) ?_
        refine lv_iload_n hx hb dX_slice_63 rfl (lv_at hl 3 rfl) ?_
        refine lv_iload_n hx hb dX_slice_64 rfl (lv_at hl 4 rfl) ?_
        refine lv_iload hx hb dX_slice_65 (lv_at hl 5 rfl) ?_
        refine vp_callSi (W.runV (As := [.int (nI o), .int (nI hi), .int (nI lo)]) (rest := []) ⟨hx, hb, hml, hown, hw⟩ (c_F_holdsAny l dC dI cI cZ h pw ps po pk n wd sg ow co it w sb hF o hi lo ho (by omega) hlo) (cwV 3 hw (gV kw_244 kw_245 kw_246 kw_15 kw_247) rfl rfl rfl (by decide +kernel) ⟨Nat.le_of_ble_eq_true rfl, Nat.le_of_ble_eq_true rfl⟩) (ro_preV (q0 := 0) (hK.sub (tys' := [(cI, .int), (cZ, .boolean)]) [1, 2] rfl) (hP.sub (ws' := [(h, .inr (0, [.ref pw, .ref ps, .ref po, .ref pk, .int (nI n)])), (pw, .inl (cI, 6, .inl wd)), (ps, .inl (cZ, 6, .inl sg)), (po, .inl (cI, 64, .inl ow)), (pk, .inl (cI, 64, .inl co))]) [2, 3, 4, 5, 6] rfl) rfl rfl) rfl rfl hl.1 rfl (lv_room (Nat.le_of_ble_eq_true rfl)) dX_slice_67 ⟨Nat.zero_le _, Nat.zero_le _⟩) (fun v67 e67 => ?_)
        obtain rfl : v67 = nI 1 := e67.trans (by rw [show (!(allb (fun j => !(hcd it o hi lo j)) n)) = true from hno]; rfl)
        refine lv_if_eq (tgt := 83) hx hb dX_slice_70 (by decide) (fun h70 => ?_) (fun h70 => ?_)
        · exfalso
          first | exact h70 (by decide +kernel) | exact absurd h70 (by decide +kernel)
        · exact tx_throwS (own := RX) (names := eUp) (ik := 38) hx hb hl0 B.named (hts _ List.mem_cons_self) hlocks hown (by decide +kernel) (by decide +kernel) (hw _ kw_172) (hw _ kw_21) (hV.2 8 _ rfl) (xE_at hw hV hZ og_IS on_IS) (Nat.le_refl _) (hl.1.trans hml.symm) dX_slice_73 dX_slice_76 dX_slice_77 dX_slice_79 dX_slice_82 (Nat.le_of_ble_eq_true rfl) (Nat.le_of_ble_eq_true rfl) (Nat.le_of_ble_eq_true rfl) (Nat.le_of_ble_eq_true rfl) (Nat.le_of_ble_eq_true rfl) (Nat.le_of_ble_eq_true rfl)
      · exfalso
        exact h37 (nI_lt hh (by omega))
  · exfalso
    exact h11 (nI_le hlo (by omega))

set_option maxHeartbeats 4000000 in
set_option maxRecDepth 100000 in
theorem t_X_number_o (l : Launch) (hl0 : l.stackTraces = false) (dC : Nat → ClassId) (dI : Nat → Nat → Nat) (sa : Nat → Nat) (ax hfm hq : Nat) (x : Int32) (v : Int64) (hb9 : isO x = false) : tx_Met l yX_number wX_number { frames := 7, cells := 1, slots := 6, locals := 102 } (xo_Pc sa (dC, dI) cls3 [(ax, .inr (1, [.ref hfm, .ref hq]))] [] [.ref ax, .int x, .long v]) eIA 1 6 := by
  refine tx_ofW (cc := cX_number) (maxL := 4) (ret := none) (by decide) rfl ?_
  intro p e s m args below meth c s₁ B hml hv
  obtain ⟨rfl, hP, hK, hV, hZ⟩ := hv
  have hx := B.exec
  have hb := B.bytes
  have hr := B.returns
  have hts := atoms_spec (ws := wX_number) B.pre
  have hw : ∀ w ∈ wA, w.before _ s = true := fun w h => hts w (List.mem_cons_of_mem _ h)
  have hown : s.vm.findClass RX = some m.cls := findClass_of_methodNamed B.named
  have hlocks := B.notSynchronized
  have hl := lv_entry ([.ref ax, .int x, .long v]) (n := 4) (Nat.le_of_ble_eq_true rfl)
  rw [lg_entry_eq]
  generalize (lg_sl ([.ref ax, .int x, .long v]) ++ List.replicate (4 - (lg_sl ([.ref ax, .int x, .long v])).length) Slot.unset).toArray = ls at hl ⊢
  have hl : lv_has ls 4 [(0, .ref ax), (1, .int x), (2, .long v)] := hl
  refine lv_iload_n hx hb dX_number_0 rfl (lv_at hl 1 rfl) ?_
  refine tx_callS (As := [.int x]) (rest := []) (st0 := [.int x]) ⟨hx, hb, hml, hown, hw⟩ (t_X_checkOperandIndex l hl0 dC dI sa x hb9) (cwS 1 hw (gS kw_160 kw_161 kw_14 kw_162) rfl rfl rfl (by decide +kernel) ⟨Nat.le_of_ble_eq_true rfl, Nat.le_of_ble_eq_true rfl⟩) (xo_preS hK (hP.sub (ws' := []) [] rfl) hV hZ) rfl hl.1 rfl (lv_room (Nat.le_of_ble_eq_true rfl)) dX_number_1 ⟨Nat.le_of_ble_eq_true rfl, Nat.le_of_ble_eq_true rfl⟩ (fun q9 ce H1 k1 k2 k3 k4 k5 => ?_)
  exact tx_out B.named (hts _ List.mem_cons_self) hlocks k1 k2 k3 (Nat.le_of_ble_eq_true rfl) (Nat.le_of_ble_eq_true rfl)

set_option maxHeartbeats 4000000 in
set_option maxRecDepth 100000 in
theorem t_X_encode_w (l : Launch) (hl0 : l.stackTraces = false) (dC : Nat → ClassId) (dI : Nat → Nat → Nat) (sa : Nat → Nat) (cR : ClassId) (ax hfm hq : Nat) (fa : Nat → Option Nat) (cI cZ : ClassId) (h pw ps po pk n : Nat) (wd sg ow co : Nat → Int32) (it w : Nat → Nat) (sb : Nat → Bool) (hF : fR n it w sb wd sg ow co) (f : Nat) (hf : f < 8) (hfa : fa f = some h) (hwh : ¬ cw_lft it n w 6 = 0) : tx_Met l yX_encode wX_encode { frames := 7, cells := 1, slots := 6, locals := 102 } (xo_Pc sa (dC, dI) cls3 [(ax, .inr (1, [.ref hfm, .ref hq])), (hfm, .inl (cR, 8, .inr (.inr (.inr (.inr fa))))), (h, .inr (0, [.ref pw, .ref ps, .ref po, .ref pk, .int (nI n)])), (pw, .inl (cI, 6, .inl wd)), (ps, .inl (cZ, 6, .inl sg)), (po, .inl (cI, 64, .inl ow)), (pk, .inl (cI, 64, .inl co))] [(cR, .object "SliceCoder$Form"), (cI, .int), (cZ, .boolean)] [.ref ax, .int (nI f)]) eIS 1 6 := by
  refine tx_ofW (cc := cX_encode) (maxL := 3) (ret := (some .long)) (by decide) rfl ?_
  intro p e s m args below meth c s₁ B hml hv
  obtain ⟨rfl, hP, hK, hV, hZ⟩ := hv
  have hx := B.exec
  have hb := B.bytes
  have hr := B.returns
  have hts := atoms_spec (ws := wX_encode) B.pre
  have hw : ∀ w ∈ wA, w.before _ s = true := fun w h => hts w (List.mem_cons_of_mem _ h)
  have hown : s.vm.findClass RX = some m.cls := findClass_of_methodNamed B.named
  have hlocks := B.notSynchronized
  have hl := lv_entry ([.ref ax, .int (nI f)]) (n := 3) (Nat.le_of_ble_eq_true rfl)
  rw [lg_entry_eq]
  generalize (lg_sl ([.ref ax, .int (nI f)]) ++ List.replicate (3 - (lg_sl ([.ref ax, .int (nI f)])).length) Slot.unset).toArray = ls at hl ⊢
  have hl : lv_has ls 3 [(0, .ref ax), (1, .int (nI f))] := hl
  refine lv_aload_n hx hb dX_encode_0 rfl (lv_at hl 0 rfl) ?_
  refine lv_iload_n hx hb dX_encode_1 rfl (lv_at hl 1 rfl) ?_
  refine va_csr (W.runV (As := [.int (nI f)]) (rest := []) ⟨hx, hb, hml, hown, hw⟩ (c_X_formAt l dC dI sa cR ax hfm hq fa f h hf hfa) (cwV 1 hw (gV kw_75 kw_77 kw_0 kw_14 kw_78) rfl rfl rfl (by decide +kernel) ⟨Nat.le_of_ble_eq_true rfl, Nat.le_of_ble_eq_true rfl⟩) (xo_preV (q0 := 0) (hK.sub (tys' := [(cR, .object "SliceCoder$Form")]) [0] rfl) (hP.sub (ws' := [(ax, .inr (1, [.ref hfm, .ref hq])), (hfm, .inl (cR, 8, .inr (.inr (.inr (.inr fa)))))]) [0, 1] rfl) hV hZ rfl rfl) rfl rfl hl.1 rfl (lv_room (Nat.le_of_ble_eq_true rfl)) dX_encode_2 ⟨Nat.zero_le _, Nat.zero_le _⟩) (fun v2 e2 => ?_)
  obtain rfl : h = v2 := (e2).symm
  refine lv_astore_n hx hb dX_encode_5 rfl hl (by decide) rfl (fun ls hl => ?_)
  have hl : lv_has ls 3 [(2, .ref h), (0, .ref ax), (1, .int (nI f))] := hl
  refine lv_aload_n hx hb dX_encode_6 rfl (lv_at hl 0 rfl) ?_
  refine tx_callS (As := [.ref h]) (rest := []) (st0 := [.ref h]) ⟨hx, hb, hml, hown, hw⟩ (t_X_checkWhole l hl0 dC dI sa cI cZ h pw ps po pk n wd sg ow co it w sb hF hwh) (cwS 1 hw (gS kw_299 kw_300 kw_14 kw_301) rfl rfl rfl (by decide +kernel) ⟨Nat.le_of_ble_eq_true rfl, Nat.le_of_ble_eq_true rfl⟩) (xo_preS (hK.sub (tys' := [(cI, .int), (cZ, .boolean)]) [1, 2] rfl) (hP.sub (ws' := [(h, .inr (0, [.ref pw, .ref ps, .ref po, .ref pk, .int (nI n)])), (pw, .inl (cI, 6, .inl wd)), (ps, .inl (cZ, 6, .inl sg)), (po, .inl (cI, 64, .inl ow)), (pk, .inl (cI, 64, .inl co))]) [2, 3, 4, 5, 6] rfl) hV hZ) rfl hl.1 rfl (lv_room (Nat.le_of_ble_eq_true rfl)) dX_encode_7 ⟨Nat.le_of_ble_eq_true rfl, Nat.le_of_ble_eq_true rfl⟩ (fun q9 ce H1 k1 k2 k3 k4 k5 => ?_)
  exact tx_out B.named (hts _ List.mem_cons_self) hlocks k1 k2 k3 (Nat.le_of_ble_eq_true rfl) (Nat.le_of_ble_eq_true rfl)

set_option maxHeartbeats 4000000 in
set_option maxRecDepth 100000 in
theorem t_X_encode_n (l : Launch) (hl0 : l.stackTraces = false) (dC : Nat → ClassId) (dI : Nat → Nat → Nat) (sa : Nat → Nat) (cR : ClassId) (ax hfm hq : Nat) (fa : Nat → Option Nat) (cI cZ : ClassId) (h pw ps po pk n : Nat) (wd sg ow co : Nat → Int32) (it w : Nat → Nat) (sb : Nat → Bool) (hF : fR n it w sb wd sg ow co) (cJ : ClassId) (nu : Nat → Int64) (f : Nat) (hf : f < 8) (hfa : fa f = some h) (hwh : cw_lft it n w 6 = 0) (hft : afit w sb nu = false) : tx_Met l yX_encode wX_encode { frames := 6, cells := 1, slots := 6, locals := 84 } (xo_Pc sa (dC, dI) cls3 [(ax, .inr (1, [.ref hfm, .ref hq])), (hfm, .inl (cR, 8, .inr (.inr (.inr (.inr fa))))), (h, .inr (0, [.ref pw, .ref ps, .ref po, .ref pk, .int (nI n)])), (pw, .inl (cI, 6, .inl wd)), (ps, .inl (cZ, 6, .inl sg)), (po, .inl (cI, 64, .inl ow)), (pk, .inl (cI, 64, .inl co)), (hq, .inl (cJ, 6, .inr (.inl nu)))] [(cR, .object "SliceCoder$Form"), (cI, .int), (cZ, .boolean), (cJ, .long)] [.ref ax, .int (nI f)]) eAR 1 6 := by
  refine tx_ofW (cc := cX_encode) (maxL := 3) (ret := (some .long)) (by decide) rfl ?_
  intro p e s m args below meth c s₁ B hml hv
  obtain ⟨rfl, hP, hK, hV, hZ⟩ := hv
  have hx := B.exec
  have hb := B.bytes
  have hr := B.returns
  have hts := atoms_spec (ws := wX_encode) B.pre
  have hw : ∀ w ∈ wA, w.before _ s = true := fun w h => hts w (List.mem_cons_of_mem _ h)
  have hown : s.vm.findClass RX = some m.cls := findClass_of_methodNamed B.named
  have hlocks := B.notSynchronized
  have hl := lv_entry ([.ref ax, .int (nI f)]) (n := 3) (Nat.le_of_ble_eq_true rfl)
  rw [lg_entry_eq]
  generalize (lg_sl ([.ref ax, .int (nI f)]) ++ List.replicate (3 - (lg_sl ([.ref ax, .int (nI f)])).length) Slot.unset).toArray = ls at hl ⊢
  have hl : lv_has ls 3 [(0, .ref ax), (1, .int (nI f))] := hl
  refine lv_aload_n hx hb dX_encode_0 rfl (lv_at hl 0 rfl) ?_
  refine lv_iload_n hx hb dX_encode_1 rfl (lv_at hl 1 rfl) ?_
  refine va_csr (W.runV (As := [.int (nI f)]) (rest := []) ⟨hx, hb, hml, hown, hw⟩ (c_X_formAt l dC dI sa cR ax hfm hq fa f h hf hfa) (cwV 1 hw (gV kw_75 kw_77 kw_0 kw_14 kw_78) rfl rfl rfl (by decide +kernel) ⟨Nat.le_of_ble_eq_true rfl, Nat.le_of_ble_eq_true rfl⟩) (xo_preV (q0 := 0) (hK.sub (tys' := [(cR, .object "SliceCoder$Form")]) [0] rfl) (hP.sub (ws' := [(ax, .inr (1, [.ref hfm, .ref hq])), (hfm, .inl (cR, 8, .inr (.inr (.inr (.inr fa)))))]) [0, 1] rfl) hV hZ rfl rfl) rfl rfl hl.1 rfl (lv_room (Nat.le_of_ble_eq_true rfl)) dX_encode_2 ⟨Nat.zero_le _, Nat.zero_le _⟩) (fun v2 e2 => ?_)
  obtain rfl : h = v2 := (e2).symm
  refine lv_astore_n hx hb dX_encode_5 rfl hl (by decide) rfl (fun ls hl => ?_)
  have hl : lv_has ls 3 [(2, .ref h), (0, .ref ax), (1, .int (nI f))] := hl
  refine lv_aload_n hx hb dX_encode_6 rfl (lv_at hl 0 rfl) ?_
  refine va_csv (W.runS (As := [.ref h]) (rest := []) ⟨hx, hb, hml, hown, hw⟩ (c_X_checkWhole l dC dI sa cI cZ h pw ps po pk n wd sg ow co it w sb hF hwh) (cwS 1 hw (gS kw_299 kw_300 kw_14 kw_301) rfl rfl rfl (by decide +kernel) ⟨Nat.le_of_ble_eq_true rfl, Nat.le_of_ble_eq_true rfl⟩) (xo_preS (hK.sub (tys' := [(cI, .int), (cZ, .boolean)]) [1, 2] rfl) (hP.sub (ws' := [(h, .inr (0, [.ref pw, .ref ps, .ref po, .ref pk, .int (nI n)])), (pw, .inl (cI, 6, .inl wd)), (ps, .inl (cZ, 6, .inl sg)), (po, .inl (cI, 64, .inl ow)), (pk, .inl (cI, 64, .inl co))]) [2, 3, 4, 5, 6] rfl) hV hZ) rfl rfl hl.1 rfl (lv_room (Nat.le_of_ble_eq_true rfl)) dX_encode_7 ⟨Nat.zero_le _, Nat.zero_le _⟩) (fun _ => ?_)
  refine lv_aload_n hx hb dX_encode_10 rfl (lv_at hl 0 rfl) ?_
  refine lv_aload_n hx hb dX_encode_11 rfl (lv_at hl 1 rfl) ?_
  refine va_get (D := (dC, dI)) (ci := 1) (v := .ref hq) (C := RX) (T := TX) (N := 2) hx hb hw inX hown hK hP 0 rfl rfl 1 (by decide) (hw _ kw_60) (fun _ h9 => h9) rfl dX_encode_12 ?_
  refine vp_callSi (W.runV (As := [.ref hq]) (rest := []) ⟨hx, hb, hml, hown, hw⟩ (c_F_canBeAll l dC dI cI cZ h pw ps po pk n wd sg ow co it w sb hF cJ hq nu) (cwV 1 hw (gV kw_303 kw_304 kw_305 kw_15 kw_306) rfl rfl rfl (by decide +kernel) ⟨Nat.le_of_ble_eq_true rfl, Nat.le_of_ble_eq_true rfl⟩) (ro_preV (q0 := 0) (hK.sub (tys' := [(cI, .int), (cZ, .boolean), (cJ, .long)]) [1, 2, 3] rfl) (hP.sub (ws' := [(h, .inr (0, [.ref pw, .ref ps, .ref po, .ref pk, .int (nI n)])), (pw, .inl (cI, 6, .inl wd)), (ps, .inl (cZ, 6, .inl sg)), (po, .inl (cI, 64, .inl ow)), (pk, .inl (cI, 64, .inl co)), (hq, .inl (cJ, 6, .inr (.inl nu)))]) [2, 3, 4, 5, 6, 7] rfl) rfl rfl) rfl rfl hl.1 rfl (lv_room (Nat.le_of_ble_eq_true rfl)) dX_encode_15 ⟨Nat.zero_le _, Nat.zero_le _⟩) (fun v15 e15 => ?_)
  obtain rfl : v15 = nI 0 := e15.trans (by rw [show allb (fun o => decide (w o = 0) || fitB (w o) (sb o) (nu o)) 6 = false from hft]; rfl)
  refine lv_if_ne (tgt := 31) hx hb dX_encode_18 (by decide) (fun h18 => ?_) (fun h18 => ?_)
  · exfalso
    first | exact h18 (by decide +kernel) | exact absurd h18 (by decide +kernel)
  · exact tx_throwS (own := RX) (names := eUp) (ik := 105) hx hb hl0 B.named (hts _ List.mem_cons_self) hlocks hown (by decide +kernel) (by decide +kernel) (hw _ kw_308) (hw _ kw_23) (hV.2 10 _ rfl) (xE_at hw hV hZ og_AR on_AR) (Nat.le_refl _) (hl.1.trans hml.symm) dX_encode_21 dX_encode_24 dX_encode_25 dX_encode_27 dX_encode_30 (Nat.le_of_ble_eq_true rfl) (Nat.le_of_ble_eq_true rfl) (Nat.le_of_ble_eq_true rfl) (Nat.le_of_ble_eq_true rfl) (Nat.le_of_ble_eq_true rfl) (Nat.le_of_ble_eq_true rfl)

set_option maxHeartbeats 4000000 in
set_option maxRecDepth 100000 in
theorem t_X_decode_w (l : Launch) (hl0 : l.stackTraces = false) (dC : Nat → ClassId) (dI : Nat → Nat → Nat) (sa : Nat → Nat) (cR : ClassId) (ax hfm hq : Nat) (fa : Nat → Option Nat) (cI cZ : ClassId) (h pw ps po pk n : Nat) (wd sg ow co : Nat → Int32) (it w : Nat → Nat) (sb : Nat → Bool) (hF : fR n it w sb wd sg ow co) (f : Nat) (hf : f < 8) (hfa : fa f = some h) (o : Nat) (ho : o < 6) (hw1 : 0 < w o) (wo : Int64) (hwh : ¬ cw_lft it n w 6 = 0) : tx_Met l yX_decode wX_decode { frames := 7, cells := 1, slots := 6, locals := 102 } (xo_Pc sa (dC, dI) cls3 [(ax, .inr (1, [.ref hfm, .ref hq])), (hfm, .inl (cR, 8, .inr (.inr (.inr (.inr fa))))), (h, .inr (0, [.ref pw, .ref ps, .ref po, .ref pk, .int (nI n)])), (pw, .inl (cI, 6, .inl wd)), (ps, .inl (cZ, 6, .inl sg)), (po, .inl (cI, 64, .inl ow)), (pk, .inl (cI, 64, .inl co))] [(cR, .object "SliceCoder$Form"), (cI, .int), (cZ, .boolean)] [.ref ax, .int (nI f), .int (nI o), .long wo]) eIS 1 6 := by
  refine tx_ofW (cc := cX_decode) (maxL := 6) (ret := (some .long)) (by decide) rfl ?_
  intro p e s m args below meth c s₁ B hml hv
  obtain ⟨rfl, hP, hK, hV, hZ⟩ := hv
  have hx := B.exec
  have hb := B.bytes
  have hr := B.returns
  have hts := atoms_spec (ws := wX_decode) B.pre
  have hw : ∀ w ∈ wA, w.before _ s = true := fun w h => hts w (List.mem_cons_of_mem _ h)
  have hown : s.vm.findClass RX = some m.cls := findClass_of_methodNamed B.named
  have hlocks := B.notSynchronized
  have hl := lv_entry ([.ref ax, .int (nI f), .int (nI o), .long wo]) (n := 6) (Nat.le_of_ble_eq_true rfl)
  rw [lg_entry_eq]
  generalize (lg_sl ([.ref ax, .int (nI f), .int (nI o), .long wo]) ++ List.replicate (6 - (lg_sl ([.ref ax, .int (nI f), .int (nI o), .long wo])).length) Slot.unset).toArray = ls at hl ⊢
  have hl : lv_has ls 6 [(0, .ref ax), (1, .int (nI f)), (2, .int (nI o)), (3, .long wo)] := hl
  refine lv_aload_n hx hb dX_decode_0 rfl (lv_at hl 0 rfl) ?_
  refine lv_iload_n hx hb dX_decode_1 rfl (lv_at hl 1 rfl) ?_
  refine lv_iload_n hx hb dX_decode_2 rfl (lv_at hl 2 rfl) ?_
  refine va_csr (W.runV (As := [.int (nI f), .int (nI o)]) (rest := []) ⟨hx, hb, hml, hown, hw⟩ (c_X_formWith l dC dI sa cR ax hfm hq fa cI cZ h pw ps po pk n wd sg ow co it w sb hF f hf hfa o ho hw1) (cwV 2 hw (gV kw_237 kw_239 kw_3 kw_14 kw_240) rfl rfl rfl (by decide +kernel) ⟨Nat.le_of_ble_eq_true rfl, Nat.le_of_ble_eq_true rfl⟩) (xo_preV (q0 := 0) hK hP hV hZ rfl rfl) rfl rfl hl.1 rfl (lv_room (Nat.le_of_ble_eq_true rfl)) dX_decode_3 ⟨Nat.zero_le _, Nat.zero_le _⟩) (fun v3 e3 => ?_)
  obtain rfl : h = v3 := (e3).symm
  refine lv_astore hx hb dX_decode_6 hl (by decide) rfl (fun ls hl => ?_)
  have hl : lv_has ls 6 [(5, .ref h), (0, .ref ax), (1, .int (nI f)), (2, .int (nI o)), (3, .long wo)] := hl
  refine lv_aload hx hb dX_decode_8 (lv_at hl 0 rfl) ?_
  refine tx_callS (As := [.ref h]) (rest := []) (st0 := [.ref h]) ⟨hx, hb, hml, hown, hw⟩ (t_X_checkWhole l hl0 dC dI sa cI cZ h pw ps po pk n wd sg ow co it w sb hF hwh) (cwS 1 hw (gS kw_299 kw_300 kw_14 kw_301) rfl rfl rfl (by decide +kernel) ⟨Nat.le_of_ble_eq_true rfl, Nat.le_of_ble_eq_true rfl⟩) (xo_preS (hK.sub (tys' := [(cI, .int), (cZ, .boolean)]) [1, 2] rfl) (hP.sub (ws' := [(h, .inr (0, [.ref pw, .ref ps, .ref po, .ref pk, .int (nI n)])), (pw, .inl (cI, 6, .inl wd)), (ps, .inl (cZ, 6, .inl sg)), (po, .inl (cI, 64, .inl ow)), (pk, .inl (cI, 64, .inl co))]) [2, 3, 4, 5, 6] rfl) hV hZ) rfl hl.1 rfl (lv_room (Nat.le_of_ble_eq_true rfl)) dX_decode_10 ⟨Nat.le_of_ble_eq_true rfl, Nat.le_of_ble_eq_true rfl⟩ (fun q9 ce H1 k1 k2 k3 k4 k5 => ?_)
  exact tx_out B.named (hts _ List.mem_cons_self) hlocks k1 k2 k3 (Nat.le_of_ble_eq_true rfl) (Nat.le_of_ble_eq_true rfl)

set_option maxHeartbeats 4000000 in
set_option maxRecDepth 100000 in
theorem t_X_decode_m (l : Launch) (hl0 : l.stackTraces = false) (dC : Nat → ClassId) (dI : Nat → Nat → Nat) (sa : Nat → Nat) (cR : ClassId) (ax hfm hq : Nat) (fa : Nat → Option Nat) (cI cZ : ClassId) (h pw ps po pk n : Nat) (wd sg ow co : Nat → Int32) (it w : Nat → Nat) (sb : Nat → Bool) (hF : fR n it w sb wd sg ow co) (f : Nat) (hf : f < 8) (hfa : fa f = some h) (o : Nat) (ho : o < 6) (hw1 : 0 < w o) (wo : Int64) (hwh : cw_lft it n w 6 = 0) (hmt : isof it n wo = false) : tx_Met l yX_decode wX_decode { frames := 6, cells := 1, slots := 6, locals := 84 } (xo_Pc sa (dC, dI) cls3 [(ax, .inr (1, [.ref hfm, .ref hq])), (hfm, .inl (cR, 8, .inr (.inr (.inr (.inr fa))))), (h, .inr (0, [.ref pw, .ref ps, .ref po, .ref pk, .int (nI n)])), (pw, .inl (cI, 6, .inl wd)), (ps, .inl (cZ, 6, .inl sg)), (po, .inl (cI, 64, .inl ow)), (pk, .inl (cI, 64, .inl co))] [(cR, .object "SliceCoder$Form"), (cI, .int), (cZ, .boolean)] [.ref ax, .int (nI f), .int (nI o), .long wo]) eAR 1 6 := by
  refine tx_ofW (cc := cX_decode) (maxL := 6) (ret := (some .long)) (by decide) rfl ?_
  intro p e s m args below meth c s₁ B hml hv
  obtain ⟨rfl, hP, hK, hV, hZ⟩ := hv
  have hx := B.exec
  have hb := B.bytes
  have hr := B.returns
  have hts := atoms_spec (ws := wX_decode) B.pre
  have hw : ∀ w ∈ wA, w.before _ s = true := fun w h => hts w (List.mem_cons_of_mem _ h)
  have hown : s.vm.findClass RX = some m.cls := findClass_of_methodNamed B.named
  have hlocks := B.notSynchronized
  have hl := lv_entry ([.ref ax, .int (nI f), .int (nI o), .long wo]) (n := 6) (Nat.le_of_ble_eq_true rfl)
  rw [lg_entry_eq]
  generalize (lg_sl ([.ref ax, .int (nI f), .int (nI o), .long wo]) ++ List.replicate (6 - (lg_sl ([.ref ax, .int (nI f), .int (nI o), .long wo])).length) Slot.unset).toArray = ls at hl ⊢
  have hl : lv_has ls 6 [(0, .ref ax), (1, .int (nI f)), (2, .int (nI o)), (3, .long wo)] := hl
  refine lv_aload_n hx hb dX_decode_0 rfl (lv_at hl 0 rfl) ?_
  refine lv_iload_n hx hb dX_decode_1 rfl (lv_at hl 1 rfl) ?_
  refine lv_iload_n hx hb dX_decode_2 rfl (lv_at hl 2 rfl) ?_
  refine va_csr (W.runV (As := [.int (nI f), .int (nI o)]) (rest := []) ⟨hx, hb, hml, hown, hw⟩ (c_X_formWith l dC dI sa cR ax hfm hq fa cI cZ h pw ps po pk n wd sg ow co it w sb hF f hf hfa o ho hw1) (cwV 2 hw (gV kw_237 kw_239 kw_3 kw_14 kw_240) rfl rfl rfl (by decide +kernel) ⟨Nat.le_of_ble_eq_true rfl, Nat.le_of_ble_eq_true rfl⟩) (xo_preV (q0 := 0) hK hP hV hZ rfl rfl) rfl rfl hl.1 rfl (lv_room (Nat.le_of_ble_eq_true rfl)) dX_decode_3 ⟨Nat.zero_le _, Nat.zero_le _⟩) (fun v3 e3 => ?_)
  obtain rfl : h = v3 := (e3).symm
  refine lv_astore hx hb dX_decode_6 hl (by decide) rfl (fun ls hl => ?_)
  have hl : lv_has ls 6 [(5, .ref h), (0, .ref ax), (1, .int (nI f)), (2, .int (nI o)), (3, .long wo)] := hl
  refine lv_aload hx hb dX_decode_8 (lv_at hl 0 rfl) ?_
  refine va_csv (W.runS (As := [.ref h]) (rest := []) ⟨hx, hb, hml, hown, hw⟩ (c_X_checkWhole l dC dI sa cI cZ h pw ps po pk n wd sg ow co it w sb hF hwh) (cwS 1 hw (gS kw_299 kw_300 kw_14 kw_301) rfl rfl rfl (by decide +kernel) ⟨Nat.le_of_ble_eq_true rfl, Nat.le_of_ble_eq_true rfl⟩) (xo_preS (hK.sub (tys' := [(cI, .int), (cZ, .boolean)]) [1, 2] rfl) (hP.sub (ws' := [(h, .inr (0, [.ref pw, .ref ps, .ref po, .ref pk, .int (nI n)])), (pw, .inl (cI, 6, .inl wd)), (ps, .inl (cZ, 6, .inl sg)), (po, .inl (cI, 64, .inl ow)), (pk, .inl (cI, 64, .inl co))]) [2, 3, 4, 5, 6] rfl) hV hZ) rfl rfl hl.1 rfl (lv_room (Nat.le_of_ble_eq_true rfl)) dX_decode_10 ⟨Nat.zero_le _, Nat.zero_le _⟩) (fun _ => ?_)
  refine lv_aload hx hb dX_decode_13 (lv_at hl 0 rfl) ?_
  refine lv_lload_n hx hb dX_decode_15 rfl (lv_at hl 4 rfl) ?_
  refine vp_callSi (W.runV (As := [.long wo]) (rest := []) ⟨hx, hb, hml, hown, hw⟩ (c_F_matches l dC dI cI cZ h pw ps po pk n wd sg ow co it w sb hF wo) (cwV 1 hw (gV kw_335 kw_336 kw_337 kw_15 kw_338) rfl rfl rfl (by decide +kernel) ⟨Nat.le_of_ble_eq_true rfl, Nat.le_of_ble_eq_true rfl⟩) (ro_preV (q0 := 0) (hK.sub (tys' := [(cI, .int), (cZ, .boolean)]) [1, 2] rfl) (hP.sub (ws' := [(h, .inr (0, [.ref pw, .ref ps, .ref po, .ref pk, .int (nI n)])), (pw, .inl (cI, 6, .inl wd)), (ps, .inl (cZ, 6, .inl sg)), (po, .inl (cI, 64, .inl ow)), (pk, .inl (cI, 64, .inl co))]) [2, 3, 4, 5, 6] rfl) rfl rfl) rfl rfl hl.1 rfl (lv_room (Nat.le_of_ble_eq_true rfl)) dX_decode_16 ⟨Nat.zero_le _, Nat.zero_le _⟩) (fun v16 e16 => ?_)
  obtain rfl : v16 = nI 0 := e16.trans (by rw [show allb (fun j => alw it n j (bq wo j)) 64 = false from hmt]; rfl)
  refine lv_if_ne (tgt := 32) hx hb dX_decode_19 (by decide) (fun h19 => ?_) (fun h19 => ?_)
  · exfalso
    first | exact h19 (by decide +kernel) | exact absurd h19 (by decide +kernel)
  · exact tx_throwS (own := RX) (names := eUp) (ik := 105) hx hb hl0 B.named (hts _ List.mem_cons_self) hlocks hown (by decide +kernel) (by decide +kernel) (hw _ kw_308) (hw _ kw_23) (hV.2 11 _ rfl) (xE_at hw hV hZ og_AR on_AR) (Nat.le_refl _) (hl.1.trans hml.symm) dX_decode_22 dX_decode_25 dX_decode_26 dX_decode_28 dX_decode_31 (Nat.le_of_ble_eq_true rfl) (Nat.le_of_ble_eq_true rfl) (Nat.le_of_ble_eq_true rfl) (Nat.le_of_ble_eq_true rfl) (Nat.le_of_ble_eq_true rfl) (Nat.le_of_ble_eq_true rfl)

set_option maxHeartbeats 4000000 in
set_option maxRecDepth 100000 in
theorem t_X_meet_g (l : Launch) (hl0 : l.stackTraces = false) (dC : Nat → ClassId) (dI : Nat → Nat → Nat) (sa : Nat → Nat) (cR : ClassId) (ax hfm hq : Nat) (fa : Nat → Option Nat) (cI cZ : ClassId) (h pw ps po pk n : Nat) (wd sg ow co : Nat → Int32) (it w : Nat → Nat) (sb : Nat → Bool) (hF : fR n it w sb wd sg ow co) (f : Nat) (hf : f < 8) (hfa : fa f = some h) (y : Int32) (hb9 : isF y = false) : tx_Met l yX_meet wX_meet { frames := 7, cells := 1, slots := 6, locals := 103 } (xo_Pc sa (dC, dI) cls3 [(ax, .inr (1, [.ref hfm, .ref hq])), (hfm, .inl (cR, 8, .inr (.inr (.inr (.inr fa))))), (h, .inr (0, [.ref pw, .ref ps, .ref po, .ref pk, .int (nI n)])), (pw, .inl (cI, 6, .inl wd)), (ps, .inl (cZ, 6, .inl sg)), (po, .inl (cI, 64, .inl ow)), (pk, .inl (cI, 64, .inl co))] [(cR, .object "SliceCoder$Form"), (cI, .int), (cZ, .boolean)] [.ref ax, .int (nI f), .int y]) eIA 1 6 := by
  refine tx_ofW (cc := cX_meet) (maxL := 3) (ret := (some .boolean)) (by decide) rfl ?_
  intro p e s m args below meth c s₁ B hml hv
  obtain ⟨rfl, hP, hK, hV, hZ⟩ := hv
  have hx := B.exec
  have hb := B.bytes
  have hr := B.returns
  have hts := atoms_spec (ws := wX_meet) B.pre
  have hw : ∀ w ∈ wA, w.before _ s = true := fun w h => hts w (List.mem_cons_of_mem _ h)
  have hown : s.vm.findClass RX = some m.cls := findClass_of_methodNamed B.named
  have hlocks := B.notSynchronized
  have hl := lv_entry ([.ref ax, .int (nI f), .int y]) (n := 3) (Nat.le_of_ble_eq_true rfl)
  rw [lg_entry_eq]
  generalize (lg_sl ([.ref ax, .int (nI f), .int y]) ++ List.replicate (3 - (lg_sl ([.ref ax, .int (nI f), .int y])).length) Slot.unset).toArray = ls at hl ⊢
  have hl : lv_has ls 3 [(0, .ref ax), (1, .int (nI f)), (2, .int y)] := hl
  refine lv_aload_n hx hb dX_meet_0 rfl (lv_at hl 0 rfl) ?_
  refine lv_iload_n hx hb dX_meet_1 rfl (lv_at hl 1 rfl) ?_
  refine va_csr (W.runV (As := [.int (nI f)]) (rest := []) ⟨hx, hb, hml, hown, hw⟩ (c_X_formAt l dC dI sa cR ax hfm hq fa f h hf hfa) (cwV 1 hw (gV kw_75 kw_77 kw_0 kw_14 kw_78) rfl rfl rfl (by decide +kernel) ⟨Nat.le_of_ble_eq_true rfl, Nat.le_of_ble_eq_true rfl⟩) (xo_preV (q0 := 0) (hK.sub (tys' := [(cR, .object "SliceCoder$Form")]) [0] rfl) (hP.sub (ws' := [(ax, .inr (1, [.ref hfm, .ref hq])), (hfm, .inl (cR, 8, .inr (.inr (.inr (.inr fa)))))]) [0, 1] rfl) hV hZ rfl rfl) rfl rfl hl.1 rfl (lv_room (Nat.le_of_ble_eq_true rfl)) dX_meet_2 ⟨Nat.zero_le _, Nat.zero_le _⟩) (fun v2 e2 => ?_)
  obtain rfl : h = v2 := (e2).symm
  refine lv_aload_n hx hb dX_meet_5 rfl (lv_at hl 0 rfl) ?_
  refine lv_iload_n hx hb dX_meet_6 rfl (lv_at hl 2 rfl) ?_
  refine tx_callV (As := [.int y]) (rest := [.ref h]) (st0 := [.int y, .ref ax, .ref h]) ⟨hx, hb, hml, hown, hw⟩ (t_X_formAt l hl0 dC dI sa ax hfm hq y hb9) (cwV 1 hw (gV kw_75 kw_77 kw_0 kw_14 kw_78) rfl rfl rfl (by decide +kernel) ⟨Nat.le_of_ble_eq_true rfl, Nat.le_of_ble_eq_true rfl⟩) (xo_preV (q0 := 0) (hK.sub (tys' := []) [] rfl) (hP.sub (ws' := [(ax, .inr (1, [.ref hfm, .ref hq]))]) [0] rfl) hV hZ rfl rfl) rfl hl.1 rfl (lv_room (Nat.le_of_ble_eq_true rfl)) dX_meet_7 ⟨Nat.le_of_ble_eq_true rfl, Nat.le_of_ble_eq_true rfl⟩ (fun q9 ce H1 k1 k2 k3 k4 k5 => ?_)
  exact tx_out B.named (hts _ List.mem_cons_self) hlocks k1 k2 k3 (Nat.le_of_ble_eq_true rfl) (Nat.le_of_ble_eq_true rfl)

set_option maxHeartbeats 4000000 in
set_option maxRecDepth 100000 in
theorem t_X_count_w (l : Launch) (hl0 : l.stackTraces = false) (dC : Nat → ClassId) (dI : Nat → Nat → Nat) (sa : Nat → Nat) (cR : ClassId) (ax hfm hq : Nat) (fa : Nat → Option Nat) (cI cZ : ClassId) (h pw ps po pk n : Nat) (wd sg ow co : Nat → Int32) (it w : Nat → Nat) (sb : Nat → Bool) (hF : fR n it w sb wd sg ow co) (f : Nat) (hf : f < 8) (hfa : fa f = some h) (y : Int32) (hb9 : isW y = false) : tx_Met l yX_count wX_count { frames := 6, cells := 1, slots := 6, locals := 82 } (xo_Pc sa (dC, dI) cls3 [(ax, .inr (1, [.ref hfm, .ref hq])), (hfm, .inl (cR, 8, .inr (.inr (.inr (.inr fa))))), (h, .inr (0, [.ref pw, .ref ps, .ref po, .ref pk, .int (nI n)])), (pw, .inl (cI, 6, .inl wd)), (ps, .inl (cZ, 6, .inl sg)), (po, .inl (cI, 64, .inl ow)), (pk, .inl (cI, 64, .inl co))] [(cR, .object "SliceCoder$Form"), (cI, .int), (cZ, .boolean)] [.ref ax, .int (nI f), .int y]) eIA 1 6 := by
  refine tx_ofW (cc := cX_count) (maxL := 4) (ret := (some .int)) (by decide) rfl ?_
  intro p e s m args below meth c s₁ B hml hv
  obtain ⟨rfl, hP, hK, hV, hZ⟩ := hv
  have hx := B.exec
  have hb := B.bytes
  have hr := B.returns
  have hts := atoms_spec (ws := wX_count) B.pre
  have hw : ∀ w ∈ wA, w.before _ s = true := fun w h => hts w (List.mem_cons_of_mem _ h)
  have hown : s.vm.findClass RX = some m.cls := findClass_of_methodNamed B.named
  have hlocks := B.notSynchronized
  have hl := lv_entry ([.ref ax, .int (nI f), .int y]) (n := 4) (Nat.le_of_ble_eq_true rfl)
  rw [lg_entry_eq]
  generalize (lg_sl ([.ref ax, .int (nI f), .int y]) ++ List.replicate (4 - (lg_sl ([.ref ax, .int (nI f), .int y])).length) Slot.unset).toArray = ls at hl ⊢
  have hl : lv_has ls 4 [(0, .ref ax), (1, .int (nI f)), (2, .int y)] := hl
  refine lv_aload_n hx hb dX_count_0 rfl (lv_at hl 0 rfl) ?_
  refine lv_iload_n hx hb dX_count_1 rfl (lv_at hl 1 rfl) ?_
  refine va_csr (W.runV (As := [.int (nI f)]) (rest := []) ⟨hx, hb, hml, hown, hw⟩ (c_X_formAt l dC dI sa cR ax hfm hq fa f h hf hfa) (cwV 1 hw (gV kw_75 kw_77 kw_0 kw_14 kw_78) rfl rfl rfl (by decide +kernel) ⟨Nat.le_of_ble_eq_true rfl, Nat.le_of_ble_eq_true rfl⟩) (xo_preV (q0 := 0) (hK.sub (tys' := [(cR, .object "SliceCoder$Form")]) [0] rfl) (hP.sub (ws' := [(ax, .inr (1, [.ref hfm, .ref hq])), (hfm, .inl (cR, 8, .inr (.inr (.inr (.inr fa)))))]) [0, 1] rfl) hV hZ rfl rfl) rfl rfl hl.1 rfl (lv_room (Nat.le_of_ble_eq_true rfl)) dX_count_2 ⟨Nat.zero_le _, Nat.zero_le _⟩) (fun v2 e2 => ?_)
  obtain rfl : h = v2 := (e2).symm
  refine lv_astore_n hx hb dX_count_5 rfl hl (by decide) rfl (fun ls hl => ?_)
  have hl : lv_has ls 4 [(3, .ref h), (0, .ref ax), (1, .int (nI f)), (2, .int y)] := hl
  refine lv_iload_n hx hb dX_count_6 rfl (lv_at hl 3 rfl) ?_
  refine lv_tableOut (tgt := 56) hx hb dX_count_7 (isW_out hb9) (by decide) ?_
  exact tx_throwS (own := RX) (names := eUp) (ik := 65) hx hb hl0 B.named (hts _ List.mem_cons_self) hlocks hown (by decide +kernel) (by decide +kernel) (hw _ kw_79) (hw _ kw_20) (hV.2 12 _ rfl) (xE_at hw hV hZ og_IA on_IA) (Nat.le_refl _) (hl.1.trans hml.symm) dX_count_56 dX_count_59 dX_count_60 dX_count_62 dX_count_65 (Nat.le_of_ble_eq_true rfl) (Nat.le_of_ble_eq_true rfl) (Nat.le_of_ble_eq_true rfl) (Nat.le_of_ble_eq_true rfl) (Nat.le_of_ble_eq_true rfl) (Nat.le_of_ble_eq_true rfl)
