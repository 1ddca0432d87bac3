abbrev wL (cR cI cZ cJ : ClassId) (ax hfm hq hu : Nat) (ha pw ps po pk ns : Nat → Nat) (wd sg ow co : Nat → Nat → Int32) (nu ou : Nat → Int64) : va_W :=
  [(ax, .inr (1, [.ref hfm, .ref hq])), (hfm, .inl (cR, 8, .inr (.inr (.inr (.inr (fun i => some (ha i))))))), (hq, .inl (cJ, 6, .inr (.inl nu))), (hu, .inl (cJ, 1, .inr (.inl ou)))] ++ fl (fc cI cZ ha pw ps po pk ns wd sg ow co) 8
abbrev tL (cR cI cZ cJ : ClassId) : List (ClassId × FieldType) := [(cR, .object "SliceCoder$Form"), (cI, .int), (cZ, .boolean), (cJ, .long)]
def LQ (dC : Nat → ClassId) (dI : Nat → Nat → Nat) (A : Nat → Prop) (cR cI cZ cJ : ClassId) (ax hfm hq hu : Nat) (ha pw ps po pk : Nat → Nat) (cd : Nat) (post : Int64 → Prop) (ns : Nat → Nat) (its wss : Nat → Nat → Nat) (sbs : Nat → Nat → Bool) (nu : Nat → Int64) : Array Value → State → Outcome → State → Prop :=
  va_Qi (fun (r : Int32) (_ : Unit) => r = nI cd) (fun _ t => ∃ (wd sg ow co : Nat → Nat → Int32) (ou : Nat → Int64), xR ns its wss sbs wd sg ow co ∧ (cd = 0 → post (ou 0)) ∧ va_P (dC, dI) cls3 (wL cR cI cZ cJ ax hfm hq hu ha pw ps po pk ns wd sg ow co nu ou) t.heap ∧ va_K (dC, dI) cls3 (tL cR cI cZ cJ) t ∧ va_D A (wL cR cI cZ cJ ax hfm hq hu ha pw ps po pk ns wd sg ow co nu ou)) A
theorem b_tt {b : Bool} (h : ¬ b = false) : b = true := by cases b <;> simp_all
theorem thr_hop {wss : Nat → Nat → Nat} {f : Nat} (hf : f < 8) (y : Int32) : thr wss (nI f) y = hop (wss f) y := by
  unfold thr hop; rw [isF_nI hf, fi_nI (by omega)]; rfl
theorem thr_nf {wss : Nat → Nat → Nat} {x y : Int32} (h : isF x = false) : thr wss x y = false := by unfold thr; rw [h]; rfl
theorem wx_num {D : va_G} {cl : List vw_C} {H H1 : Heap} {A : Nat → Prop} {R : va_W} {b0 b1 b2 b3 b0' b2' : Nat × va_E} (hP : va_P D cl ([b0, b1, b2, b3] ++ R) H) (hD : va_D A ([b0, b1, b2, b3] ++ R)) (hk : ∀ q : Nat, q < H.size → ¬ va_A [b0, b2] H.size q → H1[q]? = H[q]?)
    (hP1 : va_P D cl [b0', b2'] H1) (e0 : b0'.1 = b0.1) (e2 : b2'.1 = b2.1) : va_P D cl ([b0', b1, b2', b3] ++ R) H1 ∧ va_D A ([b0', b1, b2', b3] ++ R) := by
  have out : ∀ (k : Nat) (q : Nat × va_E), ([b0, b1, b2, b3] ++ R)[k]? = some q → k ≠ 0 → k ≠ 2 → va_at D cl q H1 := by
    intro k q hq h0 h2
    have hat := hP k q hq
    refine hat.kept (hk _ hat.lt (fun z => ?_))
    rcases z with ⟨j, e, hj⟩ | z
    · match j, hj with
      | 0, hj => exact h0 (hD.1 k 0 q (q.1, e) hq hj rfl)
      | 1, hj => exact h2 (hD.1 k 2 q (q.1, e) hq hj rfl)
    · have := hat.lt
      omega
  constructor
  · intro k q hq
    match k, hq with
    | 0, hq => exact hP1 0 q hq
    | 1, hq => exact out 1 q hq (by omega) (by omega)
    | 2, hq => exact hP1 1 q hq
    | 3, hq => exact out 3 q hq (by omega) (by omega)
    | k + 4, hq => exact out (k + 4) q hq (by omega) (by omega)
  · refine D_congr hD ?_
    simp [e0, e2]
set_option maxHeartbeats 4000000 in
set_option maxRecDepth 100000 in
theorem h_clear (l : Launch) (hl0 : l.stackTraces = false) (dC : Nat → ClassId) (dI : Nat → Nat → Nat) (sz : Nat) (sa : Nat → Nat) (cR cI cZ cJ : ClassId) (ax hfm hq hu : Nat) (ha pw ps po pk ns : Nat → Nat) (its wss : Nat → Nat → Nat) (sbs : Nat → Nat → Bool) (wd sg ow co : Nat → Nat → Int32) (nu ou : Nat → Int64) (hX : xR ns its wss sbs wd sg ow co) (x : Int32) : Met l yL_clear wL_clear { frames := 8, cells := 1, slots := 6, locals := 124 } (xl_Pc sa (dC, dI) cls3 (wL cR cI cZ cJ ax hfm hq hu ha pw ps po pk ns wd sg ow co nu ou) (tL cR cI cZ cJ) sz [.ref ax, .int x]) (LQ dC dI (va_A (wL cR cI cZ cJ ax hfm hq hu ha pw ps po pk ns wd sg ow co nu ou) sz) cR cI cZ cJ ax hfm hq hu ha pw ps po pk (cdClear x) (fun z => True) (stp (cdClear x) (va_up ns (fi x) 0) ns) its (stp (cdClear x) (va_up wss (fi x) (fun _ => 0)) wss) sbs nu) 1 6 (va_A (wL cR cI cZ cJ ax hfm hq hu ha pw ps po pk ns wd sg ow co nu ou) sz) := by
  refine va_MetW (cc := cL_clear) (maxL := 3) (ret := some .int) (by decide) rfl ?_
  intro p e s m args below meth c s₁ B hml hv
  obtain ⟨rfl, hsz, hP, hK, hD0, hV, hZ, hN⟩ := hv
  have hx := B.exec
  have hb := B.bytes
  have hr := B.returns
  have hts := atoms_spec (ws := wL_clear) B.pre
  have hw : ∀ w ∈ wA, w.before _ s = true := fun w h => hts w (List.mem_cons_of_mem _ h)
  have hown : s.vm.findClass RL = some m.cls := findClass_of_methodNamed B.named
  have hlocks := B.notSynchronized
  have htab := tx_table B (hts _ List.mem_cons_self)
  subst hsz
  have hD := hD0.self (sz := s.heap.size)
  generalize hAe : va_A (wL cR cI cZ cJ ax hfm hq hu ha pw ps po pk ns wd sg ow co nu ou) s.heap.size = A at hD ⊢
  have hA : ∀ q : Nat, s.heap.size ≤ q → A q := fun q h => by rw [← hAe]; exact Or.inr h
  have hS : va_S A s.heap s.heap [] := va_S.rf
  have hl := lv_entry ([.ref ax, .int x]) (n := 3) (Nat.le_of_ble_eq_true rfl)
  rw [lg_entry_eq]
  generalize (lg_sl ([.ref ax, .int x]) ++ List.replicate (3 - (lg_sl ([.ref ax, .int x])).length) Slot.unset).toArray = ls at hl ⊢
  have hl : lv_has ls 3 [(0, .ref ax), (1, .int x)] := hl
  refine lv_aload_n hx hb dL_clear_0 rfl (lv_at hl 0 rfl) ?_
  refine lv_iload_n hx hb dL_clear_1 rfl (lv_at hl 1 rfl) ?_
  by_cases hb9 : isF x = false
  · have hcd : (cdClear x) = 1 := by unfold cdClear; rw [hb9]; rfl
    rw [hcd]
    have hP0 : va_P (dC, dI) cls3 [(ax, .inr (1, [.ref hfm, .ref hq]))] s.heap := (wx_B hP).sub [0] rfl
    refine tx_callV (As := [.int x]) (rest := []) (st0 := [.int x, .ref ax]) ⟨hx, hb, hml, hown, hw⟩ (t_X_clear_f l hl0 dC dI sa ax hfm hq x hb9) (cwV 1 hw (gV kw_71 kw_72 kw_73 kw_14 kw_74) rfl rfl rfl (by decide +kernel) ⟨Nat.le_of_ble_eq_true rfl, Nat.le_of_ble_eq_true rfl⟩) (xo_preV (q0 := 0) (hK.sub (tys' := []) [] rfl) hP0 hV hZ rfl rfl) rfl hl.1 rfl (lv_room (Nat.le_of_ble_eq_true rfl)) dL_clear_2 ⟨Nat.le_of_ble_eq_true rfl, Nat.le_of_ble_eq_true rfl⟩ (fun q9 ce H1 k1 k2 k3 k4 k5 => ?_)
    have hP := P_grow hP k5
    have hS := S_grow hS k4 k5
    refine tx_catch hown [] (⟨0, 5, 8, 13⟩ : ExceptionTableEntry) [] htab (fun z hz => nomatch hz) rfl (by decide) (hw _ kw_70) (va_Nw.use (by rfl) (hV.1 _ (by decide +kernel))) k1 k2 k3 ?_
    refine lv_astore_n hx hb dL_clear_8 rfl hl (by decide) rfl (fun ls hl => ?_)
    have hl : lv_has ls 3 [(2, .ref q9), (0, .ref ax), (1, .int x)] := hl
    refine lv_iconst (v := nI 1) hx hb dL_clear_9 (by decide +kernel) ?_
    exact W.iret (v := nI 1) hx hb hr (fun t ht hW => ⟨⟨_, (), rfl, rfl, _, _, _, _, _, hX, fun h => absurd h (by decide), by rw [ht]; exact hP, va_K.moved hW.alike hK, hD⟩, hS.F ht⟩) hS.2.2 dL_clear_10
  · obtain ⟨f, hf, rfl⟩ := isF_of (b_tt hb9)
    have hff : fi (nI f) = f := fi_nI (by omega)
    have hcd : cdClear (nI f) = 0 := by unfold cdClear; rw [isF_nI hf]; rfl
    rw [hcd, hff]
    have hP2 : va_P (dC, dI) cls3 [(ax, .inr (1, [.ref hfm, .ref hq])), (hfm, .inl (cR, 8, .inr (.inr (.inr (.inr (fun i => some (ha i))))))), (ha f, .inr (0, [.ref (pw f), .ref (ps f), .ref (po f), .ref (pk f), .int (nI (ns f))])), (pw f, .inl (cI, 6, .inl (wd f))), (ps f, .inl (cZ, 6, .inl (sg f))), (po f, .inl (cI, 64, .inl (ow f))), (pk f, .inl (cI, 64, .inl (co f)))] s.heap := ((wx_B hP).sub [0, 1] rfl).app (wx_F (fc_len _ _ _ _ _ _ _ _ _ _ _ _) hf hP)
    have hD2 : va_D A [(ax, .inr (1, [.ref hfm, .ref hq])), (hfm, .inl (cR, 8, .inr (.inr (.inr (.inr (fun i => some (ha i))))))), (ha f, .inr (0, [.ref (pw f), .ref (ps f), .ref (po f), .ref (pk f), .int (nI (ns f))])), (pw f, .inl (cI, 6, .inl (wd f))), (ps f, .inl (cZ, 6, .inl (sg f))), (po f, .inl (cI, 64, .inl (ow f))), (pk f, .inl (cI, 64, .inl (co f)))] := wx_D2 (fc_len _ _ _ _ _ _ _ _ _ _ _ _) hf hD
    have hFc : ∀ q, va_A [(ax, .inr (1, [.ref hfm, .ref hq])), (hfm, .inl (cR, 8, .inr (.inr (.inr (.inr (fun i => some (ha i))))))), (ha f, .inr (0, [.ref (pw f), .ref (ps f), .ref (po f), .ref (pk f), .int (nI (ns f))])), (pw f, .inl (cI, 6, .inl (wd f))), (ps f, .inl (cZ, 6, .inl (sg f))), (po f, .inl (cI, 64, .inl (ow f))), (pk f, .inl (cI, 64, .inl (co f)))] s.heap.size q → A q := fun q h => h.elim (fun ⟨k, e, h⟩ => hD2.2 k (q, e) h) (hA q)
    refine va_callv (va_runV (As := [.int (nI f)]) (rest := []) ⟨hx, hb, hml, hown, hw⟩ (c_X_clear l dC dI _ sa cR ax hfm hq (fun i => some (ha i)) cI cZ (ha f) (pw f) (ps f) (po f) (pk f) (ns f) (wd f) (sg f) (ow f) (co f) (its f) (wss f) (sbs f) (hX f hf) f hf rfl) (cwV 1 hw (gV kw_71 kw_72 kw_73 kw_14 kw_74) rfl rfl rfl (by decide +kernel) ⟨Nat.le_of_ble_eq_true rfl, Nat.le_of_ble_eq_true rfl⟩) (xw_preV (q0 := 0) (hK.sub (tys' := [(cR, .object "SliceCoder$Form"), (cI, .int), (cZ, .boolean)]) [0, 1, 2] rfl) hP2 hD2 hV hZ rfl rfl) rfl rfl hl.1 rfl (lv_room (Nat.le_of_ble_eq_true rfl)) dL_clear_2 ⟨Nat.zero_le _, Nat.zero_le _⟩) hS (fun q _ h => hFc q h) hFc (fun u t H1 locs ht hvm e2 hB hz1 hk1 hS => ?_)
    obtain ⟨wd', hR9, hP1, hK1, hD1⟩ := hB
    rw [ht] at hP1
    obtain ⟨hP, hD⟩ := wx_join (F' := [(ha f, .inr (0, [.ref (pw f), .ref (ps f), .ref (po f), .ref (pk f), .int (nI (0))])), (pw f, .inl (cI, 6, .inl (wd'))), (ps f, .inl (cZ, 6, .inl (sg f))), (po f, .inl (cI, 64, .inl (ow f))), (pk f, .inl (cI, 64, .inl (co f)))]) (fc_len _ _ _ _ _ _ _ _ _ _ _ _) hf hP hD hk1 hP1 rfl
    rw [fc_up] at hP hD
    have hX2 := xR_up (f := f) hX hR9
    rw [va_up_id its f, va_up_id sbs f] at hX2
    refine lv_goto (tgt := 11) hx hb dL_clear_5 (by decide) ?_
    refine lv_iconst (v := nI 0) hx hb dL_clear_11 (by decide +kernel) ?_
    refine W.widen (Nat.zero_le 1) (Nat.zero_le 6) ?_
    exact W.iret (v := nI 0) hx hb hr (fun t ht hW => ⟨⟨_, (), rfl, rfl, _, _, _, _, _, hX2, fun _ => trivial, by rw [ht]; exact hP, va_K.moved hW.alike hK, hD⟩, hS.F ht⟩) hS.2.2 dL_clear_12

set_option maxHeartbeats 4000000 in
set_option maxRecDepth 100000 in
theorem h_operand (l : Launch) (hl0 : l.stackTraces = false) (dC : Nat → ClassId) (dI : Nat → Nat → Nat) (sz : Nat) (sa : Nat → Nat) (cR cI cZ cJ : ClassId) (ax hfm hq hu : Nat) (ha pw ps po pk ns : Nat → Nat) (its wss : Nat → Nat → Nat) (sbs : Nat → Nat → Bool) (wd sg ow co : Nat → Nat → Int32) (nu ou : Nat → Int64) (hX : xR ns its wss sbs wd sg ow co) (x y z : Int32) (b : Bool) : Met l yL_operand wL_operand { frames := 8, cells := 1, slots := 6, locals := 128 } (xl_Pc sa (dC, dI) cls3 (wL cR cI cZ cJ ax hfm hq hu ha pw ps po pk ns wd sg ow co nu ou) (tL cR cI cZ cJ) sz [.ref ax, .int x, .int y, .int z, .int (nI b.toNat)]) (LQ dC dI (va_A (wL cR cI cZ cJ ax hfm hq hu ha pw ps po pk ns wd sg ow co nu ou) sz) cR cI cZ cJ ax hfm hq hu ha pw ps po pk (cdOper wss x y z) (fun z => True) ns its (stp (cdOper wss x y z) (va_up wss (fi x) (va_up (wss (fi x)) (fi y) (fi z))) wss) (stp (cdOper wss x y z) (va_up sbs (fi x) (va_up (sbs (fi x)) (fi y) b)) sbs) nu) 1 6 (va_A (wL cR cI cZ cJ ax hfm hq hu ha pw ps po pk ns wd sg ow co nu ou) sz) := by
  refine va_MetW (cc := cL_operand) (maxL := 6) (ret := some .int) (by decide) rfl ?_
  intro p e s m args below meth c s₁ B hml hv
  obtain ⟨rfl, hsz, hP, hK, hD0, hV, hZ, hN⟩ := hv
  have hx := B.exec
  have hb := B.bytes
  have hr := B.returns
  have hts := atoms_spec (ws := wL_operand) B.pre
  have hw : ∀ w ∈ wA, w.before _ s = true := fun w h => hts w (List.mem_cons_of_mem _ h)
  have hown : s.vm.findClass RL = some m.cls := findClass_of_methodNamed B.named
  have hlocks := B.notSynchronized
  have htab := tx_table B (hts _ List.mem_cons_self)
  subst hsz
  have hD := hD0.self (sz := s.heap.size)
  generalize hAe : va_A (wL cR cI cZ cJ ax hfm hq hu ha pw ps po pk ns wd sg ow co nu ou) s.heap.size = A at hD ⊢
  have hA : ∀ q : Nat, s.heap.size ≤ q → A q := fun q h => by rw [← hAe]; exact Or.inr h
  have hS : va_S A s.heap s.heap [] := va_S.rf
  have hl := lv_entry ([.ref ax, .int x, .int y, .int z, .int (nI b.toNat)]) (n := 6) (Nat.le_of_ble_eq_true rfl)
  rw [lg_entry_eq]
  generalize (lg_sl ([.ref ax, .int x, .int y, .int z, .int (nI b.toNat)]) ++ List.replicate (6 - (lg_sl ([.ref ax, .int x, .int y, .int z, .int (nI b.toNat)])).length) Slot.unset).toArray = ls at hl ⊢
  have hl : lv_has ls 6 [(0, .ref ax), (1, .int x), (2, .int y), (3, .int z), (4, .int (nI b.toNat))] := hl
  refine lv_aload_n hx hb dL_operand_0 rfl (lv_at hl 0 rfl) ?_
  refine lv_iload_n hx hb dL_operand_1 rfl (lv_at hl 1 rfl) ?_
  refine lv_iload_n hx hb dL_operand_2 rfl (lv_at hl 2 rfl) ?_
  refine lv_iload_n hx hb dL_operand_3 rfl (lv_at hl 3 rfl) ?_
  refine lv_iload hx hb dL_operand_4 (lv_at hl 4 rfl) ?_
  by_cases hb9 : isF x = false
  · have hcd : (cdOper wss x y z) = 1 := by unfold cdOper; rw [hb9]; rfl
    rw [hcd]
    have hP0 : va_P (dC, dI) cls3 [(ax, .inr (1, [.ref hfm, .ref hq]))] s.heap := (wx_B hP).sub [0] rfl
    refine tx_callV (As := [.int x, .int y, .int z, .int (nI b.toNat)]) (rest := []) (st0 := [.int (nI b.toNat), .int z, .int y, .int x, .ref ax]) ⟨hx, hb, hml, hown, hw⟩ (t_X_operand_f l hl0 dC dI sa ax hfm hq x y z (nI b.toNat) hb9) (cwV 4 hw (gV kw_156 kw_157 kw_158 kw_14 kw_159) rfl rfl rfl (by decide +kernel) ⟨Nat.le_of_ble_eq_true rfl, Nat.le_of_ble_eq_true rfl⟩) (xo_preV (q0 := 0) (hK.sub (tys' := []) [] rfl) hP0 hV hZ rfl rfl) rfl hl.1 rfl (lv_room (Nat.le_of_ble_eq_true rfl)) dL_operand_6 ⟨Nat.le_of_ble_eq_true rfl, Nat.le_of_ble_eq_true rfl⟩ (fun q9 ce H1 k1 k2 k3 k4 k5 => ?_)
    have hP := P_grow hP k5
    have hS := S_grow hS k4 k5
    refine tx_catch hown [] (⟨0, 9, 12, 13⟩ : ExceptionTableEntry) [(⟨0, 9, 16, 19⟩ : ExceptionTableEntry)] htab (fun z hz => nomatch hz) rfl (by decide) (hw _ kw_70) (va_Nw.use (by rfl) (hV.1 _ (by decide +kernel))) k1 k2 k3 ?_
    refine lv_astore hx hb dL_operand_12 hl (by decide) rfl (fun ls hl => ?_)
    have hl : lv_has ls 6 [(5, .ref q9), (0, .ref ax), (1, .int x), (2, .int y), (3, .int z), (4, .int (nI b.toNat))] := hl
    refine lv_iconst (v := nI 1) hx hb dL_operand_14 (by decide +kernel) ?_
    exact W.iret (v := nI 1) hx hb hr (fun t ht hW => ⟨⟨_, (), rfl, rfl, _, _, _, _, _, hX, fun h => absurd h (by decide), by rw [ht]; exact hP, va_K.moved hW.alike hK, hD⟩, hS.F ht⟩) hS.2.2 dL_operand_15
  · obtain ⟨f, hf, rfl⟩ := isF_of (b_tt hb9)
    have hff : fi (nI f) = f := fi_nI (by omega)
    by_cases hb9 : isO y = false
    · have hcd : cdOper wss (nI f) y z = 1 := by unfold cdOper; rw [isF_nI hf, hb9]; rfl
      rw [hcd]
      have hP2 : va_P (dC, dI) cls3 [(ax, .inr (1, [.ref hfm, .ref hq])), (hfm, .inl (cR, 8, .inr (.inr (.inr (.inr (fun i => some (ha i))))))), (ha f, .inr (0, [.ref (pw f), .ref (ps f), .ref (po f), .ref (pk f), .int (nI (ns f))])), (pw f, .inl (cI, 6, .inl (wd f))), (ps f, .inl (cZ, 6, .inl (sg f))), (po f, .inl (cI, 64, .inl (ow f))), (pk f, .inl (cI, 64, .inl (co f)))] s.heap := ((wx_B hP).sub [0, 1] rfl).app (wx_F (fc_len _ _ _ _ _ _ _ _ _ _ _ _) hf hP)
      refine tx_callV (As := [.int (nI f), .int y, .int z, .int (nI b.toNat)]) (rest := []) (st0 := [.int (nI b.toNat), .int z, .int y, .int (nI f), .ref ax]) ⟨hx, hb, hml, hown, hw⟩ (t_X_operand_o l hl0 dC dI sa cR ax hfm hq (fun i => some (ha i)) cI cZ (ha f) (pw f) (ps f) (po f) (pk f) (ns f) (wd f) (sg f) (ow f) (co f) (its f) (wss f) (sbs f) (hX f hf) f hf rfl y z (nI b.toNat) hb9) (cwV 4 hw (gV kw_156 kw_157 kw_158 kw_14 kw_159) rfl rfl rfl (by decide +kernel) ⟨Nat.le_of_ble_eq_true rfl, Nat.le_of_ble_eq_true rfl⟩) (xo_preV (q0 := 0) (hK.sub (tys' := [(cR, .object "SliceCoder$Form"), (cI, .int), (cZ, .boolean)]) [0, 1, 2] rfl) hP2 hV hZ rfl rfl) rfl hl.1 rfl (lv_room (Nat.le_of_ble_eq_true rfl)) dL_operand_6 ⟨Nat.le_of_ble_eq_true rfl, Nat.le_of_ble_eq_true rfl⟩ (fun q9 ce H1 k1 k2 k3 k4 k5 => ?_)
      have hP := P_grow hP k5
      have hS := S_grow hS k4 k5
      refine tx_catch hown [] (⟨0, 9, 12, 13⟩ : ExceptionTableEntry) [(⟨0, 9, 16, 19⟩ : ExceptionTableEntry)] htab (fun z hz => nomatch hz) rfl (by decide) (hw _ kw_70) (va_Nw.use (by rfl) (hV.1 _ (by decide +kernel))) k1 k2 k3 ?_
      refine lv_astore hx hb dL_operand_12 hl (by decide) rfl (fun ls hl => ?_)
      have hl : lv_has ls 6 [(5, .ref q9), (0, .ref ax), (1, .int (nI f)), (2, .int y), (3, .int z), (4, .int (nI b.toNat))] := hl
      refine lv_iconst (v := nI 1) hx hb dL_operand_14 (by decide +kernel) ?_
      exact W.iret (v := nI 1) hx hb hr (fun t ht hW => ⟨⟨_, (), rfl, rfl, _, _, _, _, _, hX, fun h => absurd h (by decide), by rw [ht]; exact hP, va_K.moved hW.alike hK, hD⟩, hS.F ht⟩) hS.2.2 dL_operand_15
    · obtain ⟨o, ho, rfl⟩ := isO_of (b_tt hb9)
      have hfo : fi (nI o) = o := fi_nI (by omega)
      by_cases hb9 : isB z = false
      · have hcd : cdOper wss (nI f) (nI o) z = 1 := by unfold cdOper; rw [isF_nI hf, isO_nI ho, hb9]; rfl
        rw [hcd]
        have hP2 : va_P (dC, dI) cls3 [(ax, .inr (1, [.ref hfm, .ref hq])), (hfm, .inl (cR, 8, .inr (.inr (.inr (.inr (fun i => some (ha i))))))), (ha f, .inr (0, [.ref (pw f), .ref (ps f), .ref (po f), .ref (pk f), .int (nI (ns f))])), (pw f, .inl (cI, 6, .inl (wd f))), (ps f, .inl (cZ, 6, .inl (sg f))), (po f, .inl (cI, 64, .inl (ow f))), (pk f, .inl (cI, 64, .inl (co f)))] s.heap := ((wx_B hP).sub [0, 1] rfl).app (wx_F (fc_len _ _ _ _ _ _ _ _ _ _ _ _) hf hP)
        refine tx_callV (As := [.int (nI f), .int (nI o), .int z, .int (nI b.toNat)]) (rest := []) (st0 := [.int (nI b.toNat), .int z, .int (nI o), .int (nI f), .ref ax]) ⟨hx, hb, hml, hown, hw⟩ (t_X_operand_n l hl0 dC dI sa cR ax hfm hq (fun i => some (ha i)) cI cZ (ha f) (pw f) (ps f) (po f) (pk f) (ns f) (wd f) (sg f) (ow f) (co f) (its f) (wss f) (sbs f) (hX f hf) f hf rfl o z (nI b.toNat) ho hb9) (cwV 4 hw (gV kw_156 kw_157 kw_158 kw_14 kw_159) rfl rfl rfl (by decide +kernel) ⟨Nat.le_of_ble_eq_true rfl, Nat.le_of_ble_eq_true rfl⟩) (xo_preV (q0 := 0) (hK.sub (tys' := [(cR, .object "SliceCoder$Form"), (cI, .int), (cZ, .boolean)]) [0, 1, 2] rfl) hP2 hV hZ rfl rfl) rfl hl.1 rfl (lv_room (Nat.le_of_ble_eq_true rfl)) dL_operand_6 ⟨Nat.le_of_ble_eq_true rfl, Nat.le_of_ble_eq_true rfl⟩ (fun q9 ce H1 k1 k2 k3 k4 k5 => ?_)
        have hP := P_grow hP k5
        have hS := S_grow hS k4 k5
        refine tx_catch hown [] (⟨0, 9, 12, 13⟩ : ExceptionTableEntry) [(⟨0, 9, 16, 19⟩ : ExceptionTableEntry)] htab (fun z hz => nomatch hz) rfl (by decide) (hw _ kw_70) (va_Nw.use (by rfl) (hV.1 _ (by decide +kernel))) k1 k2 k3 ?_
        refine lv_astore hx hb dL_operand_12 hl (by decide) rfl (fun ls hl => ?_)
        have hl : lv_has ls 6 [(5, .ref q9), (0, .ref ax), (1, .int (nI f)), (2, .int (nI o)), (3, .int z), (4, .int (nI b.toNat))] := hl
        refine lv_iconst (v := nI 1) hx hb dL_operand_14 (by decide +kernel) ?_
        exact W.iret (v := nI 1) hx hb hr (fun t ht hW => ⟨⟨_, (), rfl, rfl, _, _, _, _, _, hX, fun h => absurd h (by decide), by rw [ht]; exact hP, va_K.moved hW.alike hK, hD⟩, hS.F ht⟩) hS.2.2 dL_operand_15
      · have hkb := b_tt hb9
        obtain ⟨k, hk, rfl⟩ := isB_of hkb
        have hfk : fi (nI k) = k := fi_nI (by omega)
        by_cases h0 : 0 < wss f o
        · have hcd : cdOper wss (nI f) (nI o) (nI k) = 2 := by unfold cdOper; rw [isF_nI hf, isO_nI ho, hkb, hff, hfo]; exact if_pos h0
          rw [hcd]
          have hP2 : va_P (dC, dI) cls3 [(ax, .inr (1, [.ref hfm, .ref hq])), (hfm, .inl (cR, 8, .inr (.inr (.inr (.inr (fun i => some (ha i))))))), (ha f, .inr (0, [.ref (pw f), .ref (ps f), .ref (po f), .ref (pk f), .int (nI (ns f))])), (pw f, .inl (cI, 6, .inl (wd f))), (ps f, .inl (cZ, 6, .inl (sg f))), (po f, .inl (cI, 64, .inl (ow f))), (pk f, .inl (cI, 64, .inl (co f)))] s.heap := ((wx_B hP).sub [0, 1] rfl).app (wx_F (fc_len _ _ _ _ _ _ _ _ _ _ _ _) hf hP)
          refine tx_callV (As := [.int (nI f), .int (nI o), .int (nI k), .int (nI b.toNat)]) (rest := []) (st0 := [.int (nI b.toNat), .int (nI k), .int (nI o), .int (nI f), .ref ax]) ⟨hx, hb, hml, hown, hw⟩ (t_X_operand_s l hl0 dC dI sa cR ax hfm hq (fun i => some (ha i)) cI cZ (ha f) (pw f) (ps f) (po f) (pk f) (ns f) (wd f) (sg f) (ow f) (co f) (its f) (wss f) (sbs f) (hX f hf) f hf rfl o k (nI b.toNat) ho hk h0) (cwV 4 hw (gV kw_156 kw_157 kw_158 kw_14 kw_159) rfl rfl rfl (by decide +kernel) ⟨Nat.le_of_ble_eq_true rfl, Nat.le_of_ble_eq_true rfl⟩) (xo_preV (q0 := 0) (hK.sub (tys' := [(cR, .object "SliceCoder$Form"), (cI, .int), (cZ, .boolean)]) [0, 1, 2] rfl) hP2 hV hZ rfl rfl) rfl hl.1 rfl (lv_room (Nat.le_of_ble_eq_true rfl)) dL_operand_6 ⟨Nat.le_of_ble_eq_true rfl, Nat.le_of_ble_eq_true rfl⟩ (fun q9 ce H1 k1 k2 k3 k4 k5 => ?_)
          have hP := P_grow hP k5
          have hS := S_grow hS k4 k5
          refine tx_catch hown [(⟨0, 9, 12, 13⟩ : ExceptionTableEntry)] (⟨0, 9, 16, 19⟩ : ExceptionTableEntry) [] htab (fun z hz => by
              simp only [List.mem_cons, List.not_mem_nil, or_false] at hz
              rcases hz with rfl
              · exact ⟨rfl, by decide, _, (hw _ kw_70), hN.1⟩) rfl (by decide) (hw _ kw_155) (va_Nw.use (by rfl) (hV.1 _ (by decide +kernel))) k1 k2 k3 ?_
          refine lv_astore hx hb dL_operand_16 hl (by decide) rfl (fun ls hl => ?_)
          have hl : lv_has ls 6 [(5, .ref q9), (0, .ref ax), (1, .int (nI f)), (2, .int (nI o)), (3, .int (nI k)), (4, .int (nI b.toNat))] := hl
          refine lv_iconst (v := nI 2) hx hb dL_operand_18 (by decide +kernel) ?_
          exact W.iret (v := nI 2) hx hb hr (fun t ht hW => ⟨⟨_, (), rfl, rfl, _, _, _, _, _, hX, fun h => absurd h (by decide), by rw [ht]; exact hP, va_K.moved hW.alike hK, hD⟩, hS.F ht⟩) hS.2.2 dL_operand_19
        · have h0 : wss f o = 0 := by omega
          have hcd : cdOper wss (nI f) (nI o) (nI k) = 0 := by unfold cdOper; rw [isF_nI hf, isO_nI ho, hkb, hff, hfo]; exact if_neg (by omega)
          rw [hcd, hff, hfo, hfk]
          have hP2 : va_P (dC, dI) cls3 [(ax, .inr (1, [.ref hfm, .ref hq])), (hfm, .inl (cR, 8, .inr (.inr (.inr (.inr (fun i => some (ha i))))))), (ha f, .inr (0, [.ref (pw f), .ref (ps f), .ref (po f), .ref (pk f), .int (nI (ns f))])), (pw f, .inl (cI, 6, .inl (wd f))), (ps f, .inl (cZ, 6, .inl (sg f))), (po f, .inl (cI, 64, .inl (ow f))), (pk f, .inl (cI, 64, .inl (co f)))] s.heap := ((wx_B hP).sub [0, 1] rfl).app (wx_F (fc_len _ _ _ _ _ _ _ _ _ _ _ _) hf hP)
          have hD2 : va_D A [(ax, .inr (1, [.ref hfm, .ref hq])), (hfm, .inl (cR, 8, .inr (.inr (.inr (.inr (fun i => some (ha i))))))), (ha f, .inr (0, [.ref (pw f), .ref (ps f), .ref (po f), .ref (pk f), .int (nI (ns f))])), (pw f, .inl (cI, 6, .inl (wd f))), (ps f, .inl (cZ, 6, .inl (sg f))), (po f, .inl (cI, 64, .inl (ow f))), (pk f, .inl (cI, 64, .inl (co f)))] := wx_D2 (fc_len _ _ _ _ _ _ _ _ _ _ _ _) hf hD
          have hFc : ∀ q, va_A [(ax, .inr (1, [.ref hfm, .ref hq])), (hfm, .inl (cR, 8, .inr (.inr (.inr (.inr (fun i => some (ha i))))))), (ha f, .inr (0, [.ref (pw f), .ref (ps f), .ref (po f), .ref (pk f), .int (nI (ns f))])), (pw f, .inl (cI, 6, .inl (wd f))), (ps f, .inl (cZ, 6, .inl (sg f))), (po f, .inl (cI, 64, .inl (ow f))), (pk f, .inl (cI, 64, .inl (co f)))] s.heap.size q → A q := fun q h => h.elim (fun ⟨k, e, h⟩ => hD2.2 k (q, e) h) (hA q)
          refine va_callv (va_runV (As := [.int (nI f), .int (nI o), .int (nI k), .int (nI b.toNat)]) (rest := []) ⟨hx, hb, hml, hown, hw⟩ (c_X_operand l dC dI _ sa cR ax hfm hq (fun i => some (ha i)) cI cZ (ha f) (pw f) (ps f) (po f) (pk f) (ns f) (wd f) (sg f) (ow f) (co f) (its f) (wss f) (sbs f) (hX f hf) f hf rfl o k b ho hk h0) (cwV 4 hw (gV kw_156 kw_157 kw_158 kw_14 kw_159) rfl rfl rfl (by decide +kernel) ⟨Nat.le_of_ble_eq_true rfl, Nat.le_of_ble_eq_true rfl⟩) (xw_preV (q0 := 0) (hK.sub (tys' := [(cR, .object "SliceCoder$Form"), (cI, .int), (cZ, .boolean)]) [0, 1, 2] rfl) hP2 hD2 hV hZ rfl rfl) rfl rfl hl.1 rfl (lv_room (Nat.le_of_ble_eq_true rfl)) dL_operand_6 ⟨Nat.zero_le _, Nat.zero_le _⟩) hS (fun q _ h => hFc q h) hFc (fun u t H1 locs ht hvm e6 hB hz1 hk1 hS => ?_)
          obtain ⟨wd', sg', hR9, hP1, hK1, hD1⟩ := hB
          rw [ht] at hP1
          obtain ⟨hP, hD⟩ := wx_join (F' := [(ha f, .inr (0, [.ref (pw f), .ref (ps f), .ref (po f), .ref (pk f), .int (nI (ns f))])), (pw f, .inl (cI, 6, .inl (wd'))), (ps f, .inl (cZ, 6, .inl (sg'))), (po f, .inl (cI, 64, .inl (ow f))), (pk f, .inl (cI, 64, .inl (co f)))]) (fc_len _ _ _ _ _ _ _ _ _ _ _ _) hf hP hD hk1 hP1 rfl
          rw [fc_up] at hP hD
          have hX2 := xR_up (f := f) hX hR9
          rw [va_up_id its f, va_up_id ns f] at hX2
          rw [va_up_id ns f] at hP hD
          refine lv_goto (tgt := 20) hx hb dL_operand_9 (by decide) ?_
          refine lv_iconst (v := nI 0) hx hb dL_operand_20 (by decide +kernel) ?_
          refine W.widen (Nat.zero_le 1) (Nat.zero_le 6) ?_
          exact W.iret (v := nI 0) hx hb hr (fun t ht hW => ⟨⟨_, (), rfl, rfl, _, _, _, _, _, hX2, fun _ => trivial, by rw [ht]; exact hP, va_K.moved hW.alike hK, hD⟩, hS.F ht⟩) hS.2.2 dL_operand_21

set_option maxHeartbeats 4000000 in
set_option maxRecDepth 100000 in
theorem h_fixed (l : Launch) (hl0 : l.stackTraces = false) (dC : Nat → ClassId) (dI : Nat → Nat → Nat) (sz : Nat) (sa : Nat → Nat) (cR cI cZ cJ : ClassId) (ax hfm hq hu : Nat) (ha pw ps po pk ns : Nat → Nat) (its wss : Nat → Nat → Nat) (sbs : Nat → Nat → Bool) (wd sg ow co : Nat → Nat → Int32) (nu ou : Nat → Int64) (hX : xR ns its wss sbs wd sg ow co) (x z : Int32) (v : Int64) : Met l yL_fixed wL_fixed { frames := 8, cells := 1, slots := 6, locals := 128 } (xl_Pc sa (dC, dI) cls3 (wL cR cI cZ cJ ax hfm hq hu ha pw ps po pk ns wd sg ow co nu ou) (tL cR cI cZ cJ) sz [.ref ax, .int x, .int z, .long v, .ref hu]) (LQ dC dI (va_A (wL cR cI cZ cJ ax hfm hq hu ha pw ps po pk ns wd sg ow co nu ou) sz) cR cI cZ cJ ax hfm hq hu ha pw ps po pk (cdFixed ns x z) (fun r9 => r9 = (nI (ns (fi x) + fi z)).toInt64) (stp (cdFixed ns x z) (va_up ns (fi x) (ns (fi x) + fi z)) ns) (stp (cdFixed ns x z) (va_up its (fi x) (itF (its (fi x)) (ns (fi x)) (fi z) v)) its) wss sbs nu) 1 6 (va_A (wL cR cI cZ cJ ax hfm hq hu ha pw ps po pk ns wd sg ow co nu ou) sz) := by
  refine va_MetW (cc := cL_fixed) (maxL := 7) (ret := some .int) (by decide) rfl ?_
  intro p e s m args below meth c s₁ B hml hv
  obtain ⟨rfl, hsz, hP, hK, hD0, hV, hZ, hN⟩ := hv
  have hx := B.exec
  have hb := B.bytes
  have hr := B.returns
  have hts := atoms_spec (ws := wL_fixed) B.pre
  have hw : ∀ w ∈ wA, w.before _ s = true := fun w h => hts w (List.mem_cons_of_mem _ h)
  have hown : s.vm.findClass RL = some m.cls := findClass_of_methodNamed B.named
  have hlocks := B.notSynchronized
  have htab := tx_table B (hts _ List.mem_cons_self)
  subst hsz
  have hD := hD0.self (sz := s.heap.size)
  generalize hAe : va_A (wL cR cI cZ cJ ax hfm hq hu ha pw ps po pk ns wd sg ow co nu ou) s.heap.size = A at hD ⊢
  have hA : ∀ q : Nat, s.heap.size ≤ q → A q := fun q h => by rw [← hAe]; exact Or.inr h
  have hS : va_S A s.heap s.heap [] := va_S.rf
  have hl := lv_entry ([.ref ax, .int x, .int z, .long v, .ref hu]) (n := 7) (Nat.le_of_ble_eq_true rfl)
  rw [lg_entry_eq]
  generalize (lg_sl ([.ref ax, .int x, .int z, .long v, .ref hu]) ++ List.replicate (7 - (lg_sl ([.ref ax, .int x, .int z, .long v, .ref hu])).length) Slot.unset).toArray = ls at hl ⊢
  have hl : lv_has ls 7 [(0, .ref ax), (1, .int x), (2, .int z), (3, .long v), (5, .ref hu)] := hl
  refine lv_aload hx hb dL_fixed_0 (lv_at hl 4 rfl) ?_
  refine lv_iconst (v := nI 0) hx hb dL_fixed_2 (by decide +kernel) ?_
  refine lv_aload_n hx hb dL_fixed_3 rfl (lv_at hl 0 rfl) ?_
  refine lv_iload_n hx hb dL_fixed_4 rfl (lv_at hl 1 rfl) ?_
  refine lv_iload_n hx hb dL_fixed_5 rfl (lv_at hl 2 rfl) ?_
  refine lv_lload_n hx hb dL_fixed_6 rfl (lv_at hl 3 rfl) ?_
  by_cases hb9 : isF x = false
  · have hcd : (cdFixed ns x z) = 1 := by unfold cdFixed; rw [hb9]; rfl
    rw [hcd]
    have hP0 : va_P (dC, dI) cls3 [(ax, .inr (1, [.ref hfm, .ref hq]))] s.heap := (wx_B hP).sub [0] rfl
    refine tx_callV (As := [.int x, .int z, .long v]) (rest := [.int (nI 0), .ref hu]) (st0 := [.long v, .int z, .int x, .ref ax, .int (nI 0), .ref hu]) ⟨hx, hb, hml, hown, hw⟩ (t_X_fixed_f l hl0 dC dI sa ax hfm hq x z v hb9) (cwV 3 hw (gV kw_196 kw_197 kw_198 kw_14 kw_199) rfl rfl rfl (by decide +kernel) ⟨Nat.le_of_ble_eq_true rfl, Nat.le_of_ble_eq_true rfl⟩) (xo_preV (q0 := 0) (hK.sub (tys' := []) [] rfl) hP0 hV hZ rfl rfl) rfl hl.1 rfl (lv_room (Nat.le_of_ble_eq_true rfl)) dL_fixed_7 ⟨Nat.le_of_ble_eq_true rfl, Nat.le_of_ble_eq_true rfl⟩ (fun q9 ce H1 k1 k2 k3 k4 k5 => ?_)
    have hP := P_grow hP k5
    have hS := S_grow hS k4 k5
    refine tx_catch hown [] (⟨0, 12, 15, 13⟩ : ExceptionTableEntry) [(⟨0, 12, 19, 25⟩ : ExceptionTableEntry)] htab (fun z hz => nomatch hz) rfl (by decide) (hw _ kw_70) (va_Nw.use (by rfl) (hV.1 _ (by decide +kernel))) k1 k2 k3 ?_
    refine lv_astore hx hb dL_fixed_15 hl (by decide) rfl (fun ls hl => ?_)
    have hl : lv_has ls 7 [(6, .ref q9), (0, .ref ax), (1, .int x), (2, .int z), (3, .long v), (5, .ref hu)] := hl
    refine lv_iconst (v := nI 1) hx hb dL_fixed_17 (by decide +kernel) ?_
    exact W.iret (v := nI 1) hx hb hr (fun t ht hW => ⟨⟨_, (), rfl, rfl, _, _, _, _, _, hX, fun h => absurd h (by decide), by rw [ht]; exact hP, va_K.moved hW.alike hK, hD⟩, hS.F ht⟩) hS.2.2 dL_fixed_18
  · obtain ⟨f, hf, rfl⟩ := isF_of (b_tt hb9)
    have hff : fi (nI f) = f := fi_nI (by omega)
    by_cases hb9 : isB z = false
    · have hcd : cdFixed ns (nI f) z = 1 := by unfold cdFixed; rw [isF_nI hf, hb9]; rfl
      rw [hcd]
      have hP2 : va_P (dC, dI) cls3 [(ax, .inr (1, [.ref hfm, .ref hq])), (hfm, .inl (cR, 8, .inr (.inr (.inr (.inr (fun i => some (ha i))))))), (ha f, .inr (0, [.ref (pw f), .ref (ps f), .ref (po f), .ref (pk f), .int (nI (ns f))])), (pw f, .inl (cI, 6, .inl (wd f))), (ps f, .inl (cZ, 6, .inl (sg f))), (po f, .inl (cI, 64, .inl (ow f))), (pk f, .inl (cI, 64, .inl (co f)))] s.heap := ((wx_B hP).sub [0, 1] rfl).app (wx_F (fc_len _ _ _ _ _ _ _ _ _ _ _ _) hf hP)
      refine tx_callV (As := [.int (nI f), .int z, .long v]) (rest := [.int (nI 0), .ref hu]) (st0 := [.long v, .int z, .int (nI f), .ref ax, .int (nI 0), .ref hu]) ⟨hx, hb, hml, hown, hw⟩ (t_X_fixed_n l hl0 dC dI sa cR ax hfm hq (fun i => some (ha i)) cI cZ (ha f) (pw f) (ps f) (po f) (pk f) (ns f) (wd f) (sg f) (ow f) (co f) (its f) (wss f) (sbs f) (hX f hf) f hf rfl z v hb9) (cwV 3 hw (gV kw_196 kw_197 kw_198 kw_14 kw_199) rfl rfl rfl (by decide +kernel) ⟨Nat.le_of_ble_eq_true rfl, Nat.le_of_ble_eq_true rfl⟩) (xo_preV (q0 := 0) (hK.sub (tys' := [(cR, .object "SliceCoder$Form"), (cI, .int), (cZ, .boolean)]) [0, 1, 2] rfl) hP2 hV hZ rfl rfl) rfl hl.1 rfl (lv_room (Nat.le_of_ble_eq_true rfl)) dL_fixed_7 ⟨Nat.le_of_ble_eq_true rfl, Nat.le_of_ble_eq_true rfl⟩ (fun q9 ce H1 k1 k2 k3 k4 k5 => ?_)
      have hP := P_grow hP k5
      have hS := S_grow hS k4 k5
      refine tx_catch hown [] (⟨0, 12, 15, 13⟩ : ExceptionTableEntry) [(⟨0, 12, 19, 25⟩ : ExceptionTableEntry)] htab (fun z hz => nomatch hz) rfl (by decide) (hw _ kw_70) (va_Nw.use (by rfl) (hV.1 _ (by decide +kernel))) k1 k2 k3 ?_
      refine lv_astore hx hb dL_fixed_15 hl (by decide) rfl (fun ls hl => ?_)
      have hl : lv_has ls 7 [(6, .ref q9), (0, .ref ax), (1, .int (nI f)), (2, .int z), (3, .long v), (5, .ref hu)] := hl
      refine lv_iconst (v := nI 1) hx hb dL_fixed_17 (by decide +kernel) ?_
      exact W.iret (v := nI 1) hx hb hr (fun t ht hW => ⟨⟨_, (), rfl, rfl, _, _, _, _, _, hX, fun h => absurd h (by decide), by rw [ht]; exact hP, va_K.moved hW.alike hK, hD⟩, hS.F ht⟩) hS.2.2 dL_fixed_18
    · have hkb := b_tt hb9
      obtain ⟨k, hk, rfl⟩ := isB_of hkb
      have hfk : fi (nI k) = k := fi_nI (by omega)
      by_cases hr9 : 64 < ns f + k
      · have hcd : cdFixed ns (nI f) (nI k) = 2 := by unfold cdFixed; rw [isF_nI hf, hkb, hff, hfk]; exact if_pos hr9
        rw [hcd]
        have hP2 : va_P (dC, dI) cls3 [(ax, .inr (1, [.ref hfm, .ref hq])), (hfm, .inl (cR, 8, .inr (.inr (.inr (.inr (fun i => some (ha i))))))), (ha f, .inr (0, [.ref (pw f), .ref (ps f), .ref (po f), .ref (pk f), .int (nI (ns f))])), (pw f, .inl (cI, 6, .inl (wd f))), (ps f, .inl (cZ, 6, .inl (sg f))), (po f, .inl (cI, 64, .inl (ow f))), (pk f, .inl (cI, 64, .inl (co f)))] s.heap := ((wx_B hP).sub [0, 1] rfl).app (wx_F (fc_len _ _ _ _ _ _ _ _ _ _ _ _) hf hP)
        refine tx_callV (As := [.int (nI f), .int (nI k), .long v]) (rest := [.int (nI 0), .ref hu]) (st0 := [.long v, .int (nI k), .int (nI f), .ref ax, .int (nI 0), .ref hu]) ⟨hx, hb, hml, hown, hw⟩ (t_X_fixed_r l hl0 dC dI sa cR ax hfm hq (fun i => some (ha i)) cI cZ (ha f) (pw f) (ps f) (po f) (pk f) (ns f) (wd f) (sg f) (ow f) (co f) (its f) (wss f) (sbs f) (hX f hf) f hf rfl k v hk hr9) (cwV 3 hw (gV kw_196 kw_197 kw_198 kw_14 kw_199) rfl rfl rfl (by decide +kernel) ⟨Nat.le_of_ble_eq_true rfl, Nat.le_of_ble_eq_true rfl⟩) (xo_preV (q0 := 0) (hK.sub (tys' := [(cR, .object "SliceCoder$Form"), (cI, .int), (cZ, .boolean)]) [0, 1, 2] rfl) hP2 hV hZ rfl rfl) rfl hl.1 rfl (lv_room (Nat.le_of_ble_eq_true rfl)) dL_fixed_7 ⟨Nat.le_of_ble_eq_true rfl, Nat.le_of_ble_eq_true rfl⟩ (fun q9 ce H1 k1 k2 k3 k4 k5 => ?_)
        have hP := P_grow hP k5
        have hS := S_grow hS k4 k5
        refine tx_catch hown [(⟨0, 12, 15, 13⟩ : ExceptionTableEntry)] (⟨0, 12, 19, 25⟩ : ExceptionTableEntry) [] htab (fun z hz => by
            simp only [List.mem_cons, List.not_mem_nil, or_false] at hz
            rcases hz with rfl
            · exact ⟨rfl, by decide, _, (hw _ kw_70), hN.2.1⟩) rfl (by decide) (hw _ kw_195) (va_Nw.use (by rfl) (hV.1 _ (by decide +kernel))) k1 k2 k3 ?_
        refine lv_astore hx hb dL_fixed_19 hl (by decide) rfl (fun ls hl => ?_)
        have hl : lv_has ls 7 [(6, .ref q9), (0, .ref ax), (1, .int (nI f)), (2, .int (nI k)), (3, .long v), (5, .ref hu)] := hl
        refine lv_iconst (v := nI 2) hx hb dL_fixed_21 (by decide +kernel) ?_
        exact W.iret (v := nI 2) hx hb hr (fun t ht hW => ⟨⟨_, (), rfl, rfl, _, _, _, _, _, hX, fun h => absurd h (by decide), by rw [ht]; exact hP, va_K.moved hW.alike hK, hD⟩, hS.F ht⟩) hS.2.2 dL_fixed_22
      · have hcd : cdFixed ns (nI f) (nI k) = 0 := by unfold cdFixed; rw [isF_nI hf, hkb, hff, hfk]; exact if_neg hr9
        rw [hcd, hff, hfk]
        have hP2 : va_P (dC, dI) cls3 [(ax, .inr (1, [.ref hfm, .ref hq])), (hfm, .inl (cR, 8, .inr (.inr (.inr (.inr (fun i => some (ha i))))))), (ha f, .inr (0, [.ref (pw f), .ref (ps f), .ref (po f), .ref (pk f), .int (nI (ns f))])), (pw f, .inl (cI, 6, .inl (wd f))), (ps f, .inl (cZ, 6, .inl (sg f))), (po f, .inl (cI, 64, .inl (ow f))), (pk f, .inl (cI, 64, .inl (co f)))] s.heap := ((wx_B hP).sub [0, 1] rfl).app (wx_F (fc_len _ _ _ _ _ _ _ _ _ _ _ _) hf hP)
        have hD2 : va_D A [(ax, .inr (1, [.ref hfm, .ref hq])), (hfm, .inl (cR, 8, .inr (.inr (.inr (.inr (fun i => some (ha i))))))), (ha f, .inr (0, [.ref (pw f), .ref (ps f), .ref (po f), .ref (pk f), .int (nI (ns f))])), (pw f, .inl (cI, 6, .inl (wd f))), (ps f, .inl (cZ, 6, .inl (sg f))), (po f, .inl (cI, 64, .inl (ow f))), (pk f, .inl (cI, 64, .inl (co f)))] := wx_D2 (fc_len _ _ _ _ _ _ _ _ _ _ _ _) hf hD
        have hFc : ∀ q, va_A [(ax, .inr (1, [.ref hfm, .ref hq])), (hfm, .inl (cR, 8, .inr (.inr (.inr (.inr (fun i => some (ha i))))))), (ha f, .inr (0, [.ref (pw f), .ref (ps f), .ref (po f), .ref (pk f), .int (nI (ns f))])), (pw f, .inl (cI, 6, .inl (wd f))), (ps f, .inl (cZ, 6, .inl (sg f))), (po f, .inl (cI, 64, .inl (ow f))), (pk f, .inl (cI, 64, .inl (co f)))] s.heap.size q → A q := fun q h => h.elim (fun ⟨k, e, h⟩ => hD2.2 k (q, e) h) (hA q)
        refine va_calli (va_runV (As := [.int (nI f), .int (nI k), .long v]) (rest := [.int (nI 0), .ref hu]) ⟨hx, hb, hml, hown, hw⟩ (c_X_fixed l dC dI _ sa cR ax hfm hq (fun i => some (ha i)) cI cZ (ha f) (pw f) (ps f) (po f) (pk f) (ns f) (wd f) (sg f) (ow f) (co f) (its f) (wss f) (sbs f) (hX f hf) f hf rfl k v hk (by omega)) (cwV 3 hw (gV kw_196 kw_197 kw_198 kw_14 kw_199) rfl rfl rfl (by decide +kernel) ⟨Nat.le_of_ble_eq_true rfl, Nat.le_of_ble_eq_true rfl⟩) (xw_preV (q0 := 0) (hK.sub (tys' := [(cR, .object "SliceCoder$Form"), (cI, .int), (cZ, .boolean)]) [0, 1, 2] rfl) hP2 hD2 hV hZ rfl rfl) rfl rfl hl.1 rfl (lv_room (Nat.le_of_ble_eq_true rfl)) dL_fixed_7 ⟨Nat.zero_le _, Nat.zero_le _⟩) hS (fun q _ h => hFc q h) hFc (fun v7 u t H1 locs ht hvm e7 hB hz1 hk1 hS => ?_)
        obtain ⟨ow', co', hR9, hP1, hK1, hD1⟩ := hB
        rw [ht] at hP1
        obtain ⟨hP, hD⟩ := wx_join (F' := [(ha f, .inr (0, [.ref (pw f), .ref (ps f), .ref (po f), .ref (pk f), .int (nI (ns f + k))])), (pw f, .inl (cI, 6, .inl (wd f))), (ps f, .inl (cZ, 6, .inl (sg f))), (po f, .inl (cI, 64, .inl (ow'))), (pk f, .inl (cI, 64, .inl (co')))]) (fc_len _ _ _ _ _ _ _ _ _ _ _ _) hf hP hD hk1 hP1 rfl
        rw [fc_up] at hP hD
        have hX2 := xR_up (f := f) hX hR9
        rw [va_up_id wss f, va_up_id sbs f] at hX2
        obtain rfl : v7 = nI (ns f + k) := e7
        refine lv_i2l hx hb dL_fixed_10 rfl ?_
        refine lv_topl (fun v10 e10 => ?_)
        refine va_last hx hb hK hP hD hS 3 3 rfl rfl (vp_in_nI (by omega) (by decide)) dL_fixed_11 (fun H locs hP hD hS => ?_)
        rw [show (nI 0).toNatClampNeg = 0 from nI_clamp (by omega)] at hP hD
        have hP : va_P (dC, dI) cls3 (wL cR cI cZ cJ ax hfm hq hu ha pw ps po pk (va_up ns f (ns f + k)) (va_up wd f (wd f)) (va_up sg f (sg f)) (va_up ow f ow') (va_up co f co') nu (vp_updL ou 0 v10)) H := hP
        have hD : va_D A (wL cR cI cZ cJ ax hfm hq hu ha pw ps po pk (va_up ns f (ns f + k)) (va_up wd f (wd f)) (va_up sg f (sg f)) (va_up ow f ow') (va_up co f co') nu (vp_updL ou 0 v10)) := hD
        refine lv_goto (tgt := 23) hx hb dL_fixed_12 (by decide) ?_
        refine lv_iconst (v := nI 0) hx hb dL_fixed_23 (by decide +kernel) ?_
        refine W.widen (Nat.zero_le 1) (Nat.zero_le 6) ?_
        exact W.iret (v := nI 0) hx hb hr (fun t ht hW => ⟨⟨_, (), rfl, rfl, _, _, _, _, _, hX2, fun _ => e10, by rw [ht]; exact hP, va_K.moved hW.alike hK, hD⟩, hS.F ht⟩) hS.2.2 dL_fixed_24

set_option maxHeartbeats 4000000 in
set_option maxRecDepth 100000 in
theorem h_slice (l : Launch) (hl0 : l.stackTraces = false) (dC : Nat → ClassId) (dI : Nat → Nat → Nat) (sz : Nat) (sa : Nat → Nat) (cR cI cZ cJ : ClassId) (ax hfm hq hu : Nat) (ha pw ps po pk ns : Nat → Nat) (its wss : Nat → Nat → Nat) (sbs : Nat → Nat → Bool) (wd sg ow co : Nat → Nat → Int32) (nu ou : Nat → Int64) (hX : xR ns its wss sbs wd sg ow co) (x y zh zl : Int32) : Met l yL_slice wL_slice { frames := 9, cells := 1, slots := 6, locals := 151 } (xl_Pc sa (dC, dI) cls3 (wL cR cI cZ cJ ax hfm hq hu ha pw ps po pk ns wd sg ow co nu ou) (tL cR cI cZ cJ) sz [.ref ax, .int x, .int y, .int zh, .int zl, .ref hu]) (LQ dC dI (va_A (wL cR cI cZ cJ ax hfm hq hu ha pw ps po pk ns wd sg ow co nu ou) sz) cR cI cZ cJ ax hfm hq hu ha pw ps po pk (cdSlice ns its wss x y zh zl) (fun z => z = (nI (ns (fi x) + (fi zh + 1 - fi zl))).toInt64) (stp (cdSlice ns its wss x y zh zl) (va_up ns (fi x) (ns (fi x) + (fi zh + 1 - fi zl))) ns) (stp (cdSlice ns its wss x y zh zl) (va_up its (fi x) (itS (its (fi x)) (ns (fi x)) (fi y) (fi zh))) its) wss sbs nu) 1 6 (va_A (wL cR cI cZ cJ ax hfm hq hu ha pw ps po pk ns wd sg ow co nu ou) sz) := by
  refine va_MetW (cc := cL_slice) (maxL := 7) (ret := some .int) (by decide) rfl ?_
  intro p e s m args below meth c s₁ B hml hv
  obtain ⟨rfl, hsz, hP, hK, hD0, hV, hZ, hN⟩ := hv
  have hx := B.exec
  have hb := B.bytes
  have hr := B.returns
  have hts := atoms_spec (ws := wL_slice) B.pre
  have hw : ∀ w ∈ wA, w.before _ s = true := fun w h => hts w (List.mem_cons_of_mem _ h)
  have hown : s.vm.findClass RL = some m.cls := findClass_of_methodNamed B.named
  have hlocks := B.notSynchronized
  have htab := tx_table B (hts _ List.mem_cons_self)
  subst hsz
  have hD := hD0.self (sz := s.heap.size)
  generalize hAe : va_A (wL cR cI cZ cJ ax hfm hq hu ha pw ps po pk ns wd sg ow co nu ou) s.heap.size = A at hD ⊢
  have hA : ∀ q : Nat, s.heap.size ≤ q → A q := fun q h => by rw [← hAe]; exact Or.inr h
  have hS : va_S A s.heap s.heap [] := va_S.rf
  have hl := lv_entry ([.ref ax, .int x, .int y, .int zh, .int zl, .ref hu]) (n := 7) (Nat.le_of_ble_eq_true rfl)
  rw [lg_entry_eq]
  generalize (lg_sl ([.ref ax, .int x, .int y, .int zh, .int zl, .ref hu]) ++ List.replicate (7 - (lg_sl ([.ref ax, .int x, .int y, .int zh, .int zl, .ref hu])).length) Slot.unset).toArray = ls at hl ⊢
  have hl : lv_has ls 7 [(0, .ref ax), (1, .int x), (2, .int y), (3, .int zh), (4, .int zl), (5, .ref hu)] := hl
  refine lv_aload hx hb dL_slice_0 (lv_at hl 5 rfl) ?_
  refine lv_iconst (v := nI 0) hx hb dL_slice_2 (by decide +kernel) ?_
  refine lv_aload_n hx hb dL_slice_3 rfl (lv_at hl 0 rfl) ?_
  refine lv_iload_n hx hb dL_slice_4 rfl (lv_at hl 1 rfl) ?_
  refine lv_iload_n hx hb dL_slice_5 rfl (lv_at hl 2 rfl) ?_
  refine lv_iload_n hx hb dL_slice_6 rfl (lv_at hl 3 rfl) ?_
  refine lv_iload hx hb dL_slice_7 (lv_at hl 4 rfl) ?_
  by_cases hb9 : isF x = false
  · have hcd : (cdSlice ns its wss x y zh zl) = 1 := by unfold cdSlice; rw [thr_nf hb9]; exact if_neg (fun q => absurd q.1 (by decide))
    rw [hcd]
    have hP0 : va_P (dC, dI) cls3 [(ax, .inr (1, [.ref hfm, .ref hq]))] s.heap := (wx_B hP).sub [0] rfl
    refine tx_callV (As := [.int x, .int y, .int zh, .int zl]) (rest := [.int (nI 0), .ref hu]) (st0 := [.int zl, .int zh, .int y, .int x, .ref ax, .int (nI 0), .ref hu]) ⟨hx, hb, hml, hown, hw⟩ (t_X_slice_f l hl0 dC dI sa ax hfm hq x y zh zl hb9) (cwV 4 hw (gV kw_233 kw_234 kw_235 kw_14 kw_236) rfl rfl rfl (by decide +kernel) ⟨Nat.le_of_ble_eq_true rfl, Nat.le_of_ble_eq_true rfl⟩) (xo_preV (q0 := 0) (hK.sub (tys' := []) [] rfl) hP0 hV hZ rfl rfl) rfl hl.1 rfl (lv_room (Nat.le_of_ble_eq_true rfl)) dL_slice_9 ⟨Nat.le_of_ble_eq_true rfl, Nat.le_of_ble_eq_true rfl⟩ (fun q9 ce H1 k1 k2 k3 k4 k5 => ?_)
    have hP := P_grow hP k5
    have hS := S_grow hS k4 k5
    refine tx_catch hown [] (⟨0, 14, 17, 13⟩ : ExceptionTableEntry) [(⟨0, 14, 21, 25⟩ : ExceptionTableEntry), (⟨0, 14, 25, 19⟩ : ExceptionTableEntry)] htab (fun z hz => nomatch hz) rfl (by decide) (hw _ kw_70) (va_Nw.use (by rfl) (hV.1 _ (by decide +kernel))) k1 k2 k3 ?_
    refine lv_astore hx hb dL_slice_17 hl (by decide) rfl (fun ls hl => ?_)
    have hl : lv_has ls 7 [(6, .ref q9), (0, .ref ax), (1, .int x), (2, .int y), (3, .int zh), (4, .int zl), (5, .ref hu)] := hl
    refine lv_iconst (v := nI 1) hx hb dL_slice_19 (by decide +kernel) ?_
    exact W.iret (v := nI 1) hx hb hr (fun t ht hW => ⟨⟨_, (), rfl, rfl, _, _, _, _, _, hX, fun h => absurd h (by decide), by rw [ht]; exact hP, va_K.moved hW.alike hK, hD⟩, hS.F ht⟩) hS.2.2 dL_slice_20
  · obtain ⟨f, hf, rfl⟩ := isF_of (b_tt hb9)
    have hff : fi (nI f) = f := fi_nI (by omega)
    by_cases hb9 : hop (wss f) y = false
    · have hcd : cdSlice ns its wss (nI f) y zh zl = 1 := by unfold cdSlice; rw [thr_hop hf, hb9]; exact if_neg (fun q => absurd q.1 (by decide))
      rw [hcd]
      have hP2 : va_P (dC, dI) cls3 [(ax, .inr (1, [.ref hfm, .ref hq])), (hfm, .inl (cR, 8, .inr (.inr (.inr (.inr (fun i => some (ha i))))))), (ha f, .inr (0, [.ref (pw f), .ref (ps f), .ref (po f), .ref (pk f), .int (nI (ns f))])), (pw f, .inl (cI, 6, .inl (wd f))), (ps f, .inl (cZ, 6, .inl (sg f))), (po f, .inl (cI, 64, .inl (ow f))), (pk f, .inl (cI, 64, .inl (co f)))] s.heap := ((wx_B hP).sub [0, 1] rfl).app (wx_F (fc_len _ _ _ _ _ _ _ _ _ _ _ _) hf hP)
      refine tx_callV (As := [.int (nI f), .int y, .int zh, .int zl]) (rest := [.int (nI 0), .ref hu]) (st0 := [.int zl, .int zh, .int y, .int (nI f), .ref ax, .int (nI 0), .ref hu]) ⟨hx, hb, hml, hown, hw⟩ (t_X_slice_o l hl0 dC dI sa cR ax hfm hq (fun i => some (ha i)) cI cZ (ha f) (pw f) (ps f) (po f) (pk f) (ns f) (wd f) (sg f) (ow f) (co f) (its f) (wss f) (sbs f) (hX f hf) f hf rfl y zh zl hb9) (cwV 4 hw (gV kw_233 kw_234 kw_235 kw_14 kw_236) rfl rfl rfl (by decide +kernel) ⟨Nat.le_of_ble_eq_true rfl, Nat.le_of_ble_eq_true rfl⟩) (xo_preV (q0 := 0) (hK.sub (tys' := [(cR, .object "SliceCoder$Form"), (cI, .int), (cZ, .boolean)]) [0, 1, 2] rfl) hP2 hV hZ rfl rfl) rfl hl.1 rfl (lv_room (Nat.le_of_ble_eq_true rfl)) dL_slice_9 ⟨Nat.le_of_ble_eq_true rfl, Nat.le_of_ble_eq_true rfl⟩ (fun q9 ce H1 k1 k2 k3 k4 k5 => ?_)
      have hP := P_grow hP k5
      have hS := S_grow hS k4 k5
      refine tx_catch hown [] (⟨0, 14, 17, 13⟩ : ExceptionTableEntry) [(⟨0, 14, 21, 25⟩ : ExceptionTableEntry), (⟨0, 14, 25, 19⟩ : ExceptionTableEntry)] htab (fun z hz => nomatch hz) rfl (by decide) (hw _ kw_70) (va_Nw.use (by rfl) (hV.1 _ (by decide +kernel))) k1 k2 k3 ?_
      refine lv_astore hx hb dL_slice_17 hl (by decide) rfl (fun ls hl => ?_)
      have hl : lv_has ls 7 [(6, .ref q9), (0, .ref ax), (1, .int (nI f)), (2, .int y), (3, .int zh), (4, .int zl), (5, .ref hu)] := hl
      refine lv_iconst (v := nI 1) hx hb dL_slice_19 (by decide +kernel) ?_
      exact W.iret (v := nI 1) hx hb hr (fun t ht hW => ⟨⟨_, (), rfl, rfl, _, _, _, _, _, hX, fun h => absurd h (by decide), by rw [ht]; exact hP, va_K.moved hW.alike hK, hD⟩, hS.F ht⟩) hS.2.2 dL_slice_20
    · obtain ⟨o, ho, rfl, hw1⟩ := (hop_iff _ _).mp (b_tt hb9)
      have hfo : fi (nI o) = o := fi_nI (by omega)
      by_cases hle : zl ≤ zh
      · by_cases hb8 : zl < 0 ∨ nI (wss f o) ≤ zh
        · have hcd : cdSlice ns its wss (nI f) (nI o) zh zl = 2 := by unfold cdSlice; rw [if_pos ⟨thr_t hf ho hw1, hle⟩, if_pos (by rw [hff, hfo]; exact hb8)]
          rw [hcd]
          have hP2 : va_P (dC, dI) cls3 [(ax, .inr (1, [.ref hfm, .ref hq])), (hfm, .inl (cR, 8, .inr (.inr (.inr (.inr (fun i => some (ha i))))))), (ha f, .inr (0, [.ref (pw f), .ref (ps f), .ref (po f), .ref (pk f), .int (nI (ns f))])), (pw f, .inl (cI, 6, .inl (wd f))), (ps f, .inl (cZ, 6, .inl (sg f))), (po f, .inl (cI, 64, .inl (ow f))), (pk f, .inl (cI, 64, .inl (co f)))] s.heap := ((wx_B hP).sub [0, 1] rfl).app (wx_F (fc_len _ _ _ _ _ _ _ _ _ _ _ _) hf hP)
          refine tx_callV (As := [.int (nI f), .int (nI o), .int zh, .int zl]) (rest := [.int (nI 0), .ref hu]) (st0 := [.int zl, .int zh, .int (nI o), .int (nI f), .ref ax, .int (nI 0), .ref hu]) ⟨hx, hb, hml, hown, hw⟩ (t_X_slice_b l hl0 dC dI sa cR ax hfm hq (fun i => some (ha i)) cI cZ (ha f) (pw f) (ps f) (po f) (pk f) (ns f) (wd f) (sg f) (ow f) (co f) (its f) (wss f) (sbs f) (hX f hf) f hf rfl o ho hw1 zh zl hle hb8) (cwV 4 hw (gV kw_233 kw_234 kw_235 kw_14 kw_236) rfl rfl rfl (by decide +kernel) ⟨Nat.le_of_ble_eq_true rfl, Nat.le_of_ble_eq_true rfl⟩) (xo_preV (q0 := 0) (hK.sub (tys' := [(cR, .object "SliceCoder$Form"), (cI, .int), (cZ, .boolean)]) [0, 1, 2] rfl) hP2 hV hZ rfl rfl) rfl hl.1 rfl (lv_room (Nat.le_of_ble_eq_true rfl)) dL_slice_9 ⟨Nat.le_of_ble_eq_true rfl, Nat.le_of_ble_eq_true rfl⟩ (fun q9 ce H1 k1 k2 k3 k4 k5 => ?_)
          have hP := P_grow hP k5
          have hS := S_grow hS k4 k5
          refine tx_catch hown [(⟨0, 14, 17, 13⟩ : ExceptionTableEntry)] (⟨0, 14, 21, 25⟩ : ExceptionTableEntry) [(⟨0, 14, 25, 19⟩ : ExceptionTableEntry)] htab (fun z hz => by
              simp only [List.mem_cons, List.not_mem_nil, or_false] at hz
              rcases hz with rfl
              · exact ⟨rfl, by decide, _, (hw _ kw_70), hN.2.1⟩) rfl (by decide) (hw _ kw_195) (va_Nw.use (by rfl) (hV.1 _ (by decide +kernel))) k1 k2 k3 ?_
          refine lv_astore hx hb dL_slice_21 hl (by decide) rfl (fun ls hl => ?_)
          have hl : lv_has ls 7 [(6, .ref q9), (0, .ref ax), (1, .int (nI f)), (2, .int (nI o)), (3, .int zh), (4, .int zl), (5, .ref hu)] := hl
          refine lv_iconst (v := nI 2) hx hb dL_slice_23 (by decide +kernel) ?_
          exact W.iret (v := nI 2) hx hb hr (fun t ht hW => ⟨⟨_, (), rfl, rfl, _, _, _, _, _, hX, fun h => absurd h (by decide), by rw [ht]; exact hP, va_K.moved hW.alike hK, hD⟩, hS.F ht⟩) hS.2.2 dL_slice_24
        · obtain ⟨hi, lo, hh, hlo, rfl, rfl⟩ := sl_of ((hX f hf).1.2.1 o ho) (fun q => hb8 (Or.inl q)) hle (Int32.not_le.mp (fun q => hb8 (Or.inr q)))
          have hwo := (hX f hf).1.2.1 o ho
          have hfh : fi (nI hi) = hi := fi_nI (by omega)
          have hfl : fi (nI lo) = lo := fi_nI (by omega)
          by_cases hr9 : 64 < ns f + (hi + 1 - lo)
          · have hcd : cdSlice ns its wss (nI f) (nI o) (nI hi) (nI lo) = 2 := by unfold cdSlice; rw [if_pos ⟨thr_t hf ho hw1, hle⟩, if_neg (fun q9 => hb8 (by rw [hff, hfo] at q9; exact q9)), hff, hfo, hfh, hfl, if_pos hr9]
            rw [hcd]
            have hP2 : va_P (dC, dI) cls3 [(ax, .inr (1, [.ref hfm, .ref hq])), (hfm, .inl (cR, 8, .inr (.inr (.inr (.inr (fun i => some (ha i))))))), (ha f, .inr (0, [.ref (pw f), .ref (ps f), .ref (po f), .ref (pk f), .int (nI (ns f))])), (pw f, .inl (cI, 6, .inl (wd f))), (ps f, .inl (cZ, 6, .inl (sg f))), (po f, .inl (cI, 64, .inl (ow f))), (pk f, .inl (cI, 64, .inl (co f)))] s.heap := ((wx_B hP).sub [0, 1] rfl).app (wx_F (fc_len _ _ _ _ _ _ _ _ _ _ _ _) hf hP)
            refine tx_callV (As := [.int (nI f), .int (nI o), .int (nI hi), .int (nI lo)]) (rest := [.int (nI 0), .ref hu]) (st0 := [.int (nI lo), .int (nI hi), .int (nI o), .int (nI f), .ref ax, .int (nI 0), .ref hu]) ⟨hx, hb, hml, hown, hw⟩ (t_X_slice_r l hl0 dC dI sa cR ax hfm hq (fun i => some (ha i)) cI cZ (ha f) (pw f) (ps f) (po f) (pk f) (ns f) (wd f) (sg f) (ow f) (co f) (its f) (wss f) (sbs f) (hX f hf) f hf rfl o ho hw1 hi lo hh hlo hr9) (cwV 4 hw (gV kw_233 kw_234 kw_235 kw_14 kw_236) rfl rfl rfl (by decide +kernel) ⟨Nat.le_of_ble_eq_true rfl, Nat.le_of_ble_eq_true rfl⟩) (xo_preV (q0 := 0) (hK.sub (tys' := [(cR, .object "SliceCoder$Form"), (cI, .int), (cZ, .boolean)]) [0, 1, 2] rfl) hP2 hV hZ rfl rfl) rfl hl.1 rfl (lv_room (Nat.le_of_ble_eq_true rfl)) dL_slice_9 ⟨Nat.le_of_ble_eq_true rfl, Nat.le_of_ble_eq_true rfl⟩ (fun q9 ce H1 k1 k2 k3 k4 k5 => ?_)
            have hP := P_grow hP k5
            have hS := S_grow hS k4 k5
            refine tx_catch hown [(⟨0, 14, 17, 13⟩ : ExceptionTableEntry)] (⟨0, 14, 21, 25⟩ : ExceptionTableEntry) [(⟨0, 14, 25, 19⟩ : ExceptionTableEntry)] htab (fun z hz => by
                simp only [List.mem_cons, List.not_mem_nil, or_false] at hz
                rcases hz with rfl
                · exact ⟨rfl, by decide, _, (hw _ kw_70), hN.2.1⟩) rfl (by decide) (hw _ kw_195) (va_Nw.use (by rfl) (hV.1 _ (by decide +kernel))) k1 k2 k3 ?_
            refine lv_astore hx hb dL_slice_21 hl (by decide) rfl (fun ls hl => ?_)
            have hl : lv_has ls 7 [(6, .ref q9), (0, .ref ax), (1, .int (nI f)), (2, .int (nI o)), (3, .int (nI hi)), (4, .int (nI lo)), (5, .ref hu)] := hl
            refine lv_iconst (v := nI 2) hx hb dL_slice_23 (by decide +kernel) ?_
            exact W.iret (v := nI 2) hx hb hr (fun t ht hW => ⟨⟨_, (), rfl, rfl, _, _, _, _, _, hX, fun h => absurd h (by decide), by rw [ht]; exact hP, va_K.moved hW.alike hK, hD⟩, hS.F ht⟩) hS.2.2 dL_slice_24
          · by_cases hno : hany (its f) (ns f) o hi lo = true
            · have hcd : cdSlice ns its wss (nI f) (nI o) (nI hi) (nI lo) = 3 := by unfold cdSlice; rw [if_pos ⟨thr_t hf ho hw1, hle⟩, if_neg (fun q9 => hb8 (by rw [hff, hfo] at q9; exact q9)), hff, hfo, hfh, hfl, if_neg hr9, if_pos hno]
              rw [hcd]
              have hP2 : va_P (dC, dI) cls3 [(ax, .inr (1, [.ref hfm, .ref hq])), (hfm, .inl (cR, 8, .inr (.inr (.inr (.inr (fun i => some (ha i))))))), (ha f, .inr (0, [.ref (pw f), .ref (ps f), .ref (po f), .ref (pk f), .int (nI (ns f))])), (pw f, .inl (cI, 6, .inl (wd f))), (ps f, .inl (cZ, 6, .inl (sg f))), (po f, .inl (cI, 64, .inl (ow f))), (pk f, .inl (cI, 64, .inl (co f)))] s.heap := ((wx_B hP).sub [0, 1] rfl).app (wx_F (fc_len _ _ _ _ _ _ _ _ _ _ _ _) hf hP)
              refine tx_callV (As := [.int (nI f), .int (nI o), .int (nI hi), .int (nI lo)]) (rest := [.int (nI 0), .ref hu]) (st0 := [.int (nI lo), .int (nI hi), .int (nI o), .int (nI f), .ref ax, .int (nI 0), .ref hu]) ⟨hx, hb, hml, hown, hw⟩ (t_X_slice_h l hl0 dC dI sa cR ax hfm hq (fun i => some (ha i)) cI cZ (ha f) (pw f) (ps f) (po f) (pk f) (ns f) (wd f) (sg f) (ow f) (co f) (its f) (wss f) (sbs f) (hX f hf) f hf rfl o ho hw1 hi lo hh hlo (by omega) hno) (cwV 4 hw (gV kw_233 kw_234 kw_235 kw_14 kw_236) rfl rfl rfl (by decide +kernel) ⟨Nat.le_of_ble_eq_true rfl, Nat.le_of_ble_eq_true rfl⟩) (xo_preV (q0 := 0) (hK.sub (tys' := [(cR, .object "SliceCoder$Form"), (cI, .int), (cZ, .boolean)]) [0, 1, 2] rfl) hP2 hV hZ rfl rfl) rfl hl.1 rfl (lv_room (Nat.le_of_ble_eq_true rfl)) dL_slice_9 ⟨Nat.le_of_ble_eq_true rfl, Nat.le_of_ble_eq_true rfl⟩ (fun q9 ce H1 k1 k2 k3 k4 k5 => ?_)
              have hP := P_grow hP k5
              have hS := S_grow hS k4 k5
              refine tx_catch hown [(⟨0, 14, 17, 13⟩ : ExceptionTableEntry), (⟨0, 14, 21, 25⟩ : ExceptionTableEntry)] (⟨0, 14, 25, 19⟩ : ExceptionTableEntry) [] htab (fun z hz => by
                  simp only [List.mem_cons, List.not_mem_nil, or_false] at hz
                  rcases hz with rfl | rfl
                  · exact ⟨rfl, by decide, _, (hw _ kw_70), hN.1⟩
                  · exact ⟨rfl, by decide, _, (hw _ kw_195), hN.2.2.2.2⟩) rfl (by decide) (hw _ kw_155) (va_Nw.use (by rfl) (hV.1 _ (by decide +kernel))) k1 k2 k3 ?_
              refine lv_astore hx hb dL_slice_25 hl (by decide) rfl (fun ls hl => ?_)
              have hl : lv_has ls 7 [(6, .ref q9), (0, .ref ax), (1, .int (nI f)), (2, .int (nI o)), (3, .int (nI hi)), (4, .int (nI lo)), (5, .ref hu)] := hl
              refine lv_iconst (v := nI 3) hx hb dL_slice_27 (by decide +kernel) ?_
              exact W.iret (v := nI 3) hx hb hr (fun t ht hW => ⟨⟨_, (), rfl, rfl, _, _, _, _, _, hX, fun h => absurd h (by decide), by rw [ht]; exact hP, va_K.moved hW.alike hK, hD⟩, hS.F ht⟩) hS.2.2 dL_slice_28
            · have hcd : cdSlice ns its wss (nI f) (nI o) (nI hi) (nI lo) = 0 := by unfold cdSlice; rw [if_pos ⟨thr_t hf ho hw1, hle⟩, if_neg (fun q9 => hb8 (by rw [hff, hfo] at q9; exact q9)), hff, hfo, hfh, hfl, if_neg hr9, if_neg hno]
              rw [hcd, hff, hfo, hfh, hfl]
              have hP2 : va_P (dC, dI) cls3 [(ax, .inr (1, [.ref hfm, .ref hq])), (hfm, .inl (cR, 8, .inr (.inr (.inr (.inr (fun i => some (ha i))))))), (ha f, .inr (0, [.ref (pw f), .ref (ps f), .ref (po f), .ref (pk f), .int (nI (ns f))])), (pw f, .inl (cI, 6, .inl (wd f))), (ps f, .inl (cZ, 6, .inl (sg f))), (po f, .inl (cI, 64, .inl (ow f))), (pk f, .inl (cI, 64, .inl (co f)))] s.heap := ((wx_B hP).sub [0, 1] rfl).app (wx_F (fc_len _ _ _ _ _ _ _ _ _ _ _ _) hf hP)
              have hD2 : va_D A [(ax, .inr (1, [.ref hfm, .ref hq])), (hfm, .inl (cR, 8, .inr (.inr (.inr (.inr (fun i => some (ha i))))))), (ha f, .inr (0, [.ref (pw f), .ref (ps f), .ref (po f), .ref (pk f), .int (nI (ns f))])), (pw f, .inl (cI, 6, .inl (wd f))), (ps f, .inl (cZ, 6, .inl (sg f))), (po f, .inl (cI, 64, .inl (ow f))), (pk f, .inl (cI, 64, .inl (co f)))] := wx_D2 (fc_len _ _ _ _ _ _ _ _ _ _ _ _) hf hD
              have hFc : ∀ q, va_A [(ax, .inr (1, [.ref hfm, .ref hq])), (hfm, .inl (cR, 8, .inr (.inr (.inr (.inr (fun i => some (ha i))))))), (ha f, .inr (0, [.ref (pw f), .ref (ps f), .ref (po f), .ref (pk f), .int (nI (ns f))])), (pw f, .inl (cI, 6, .inl (wd f))), (ps f, .inl (cZ, 6, .inl (sg f))), (po f, .inl (cI, 64, .inl (ow f))), (pk f, .inl (cI, 64, .inl (co f)))] s.heap.size q → A q := fun q h => h.elim (fun ⟨k, e, h⟩ => hD2.2 k (q, e) h) (hA q)
              refine va_calli (va_runV (As := [.int (nI f), .int (nI o), .int (nI hi), .int (nI lo)]) (rest := [.int (nI 0), .ref hu]) ⟨hx, hb, hml, hown, hw⟩ (c_X_slice l dC dI _ sa cR ax hfm hq (fun i => some (ha i)) cI cZ (ha f) (pw f) (ps f) (po f) (pk f) (ns f) (wd f) (sg f) (ow f) (co f) (its f) (wss f) (sbs f) (hX f hf) f hf rfl o hi lo ho hh hlo (by omega) (by simpa using hno)) (cwV 4 hw (gV kw_233 kw_234 kw_235 kw_14 kw_236) rfl rfl rfl (by decide +kernel) ⟨Nat.le_of_ble_eq_true rfl, Nat.le_of_ble_eq_true rfl⟩) (xw_preV (q0 := 0) (hK.sub (tys' := [(cR, .object "SliceCoder$Form"), (cI, .int), (cZ, .boolean)]) [0, 1, 2] rfl) hP2 hD2 hV hZ rfl rfl) rfl rfl hl.1 rfl (lv_room (Nat.le_of_ble_eq_true rfl)) dL_slice_9 ⟨Nat.zero_le _, Nat.zero_le _⟩) hS (fun q _ h => hFc q h) hFc (fun v9 u t H1 locs ht hvm e9 hB hz1 hk1 hS => ?_)
              obtain ⟨ow', co', hR9, hP1, hK1, hD1⟩ := hB
              rw [ht] at hP1
              obtain ⟨hP, hD⟩ := wx_join (F' := [(ha f, .inr (0, [.ref (pw f), .ref (ps f), .ref (po f), .ref (pk f), .int (nI (ns f + (hi + 1 - lo)))])), (pw f, .inl (cI, 6, .inl (wd f))), (ps f, .inl (cZ, 6, .inl (sg f))), (po f, .inl (cI, 64, .inl (ow'))), (pk f, .inl (cI, 64, .inl (co')))]) (fc_len _ _ _ _ _ _ _ _ _ _ _ _) hf hP hD hk1 hP1 rfl
              rw [fc_up] at hP hD
              have hX2 := xR_up (f := f) hX hR9
              rw [va_up_id wss f, va_up_id sbs f] at hX2
              obtain rfl : v9 = nI (ns f + (hi + 1 - lo)) := e9
              refine lv_i2l hx hb dL_slice_12 rfl ?_
              refine lv_topl (fun v12 e12 => ?_)
              refine va_last hx hb hK hP hD hS 3 3 rfl rfl (vp_in_nI (by omega) (by decide)) dL_slice_13 (fun H locs hP hD hS => ?_)
              rw [show (nI 0).toNatClampNeg = 0 from nI_clamp (by omega)] at hP hD
              have hP : va_P (dC, dI) cls3 (wL cR cI cZ cJ ax hfm hq hu ha pw ps po pk (va_up ns f (ns f + (hi + 1 - lo))) (va_up wd f (wd f)) (va_up sg f (sg f)) (va_up ow f ow') (va_up co f co') nu (vp_updL ou 0 v12)) H := hP
              have hD : va_D A (wL cR cI cZ cJ ax hfm hq hu ha pw ps po pk (va_up ns f (ns f + (hi + 1 - lo))) (va_up wd f (wd f)) (va_up sg f (sg f)) (va_up ow f ow') (va_up co f co') nu (vp_updL ou 0 v12)) := hD
              refine lv_goto (tgt := 29) hx hb dL_slice_14 (by decide) ?_
              refine lv_iconst (v := nI 0) hx hb dL_slice_29 (by decide +kernel) ?_
              refine W.widen (Nat.zero_le 1) (Nat.zero_le 6) ?_
              exact W.iret (v := nI 0) hx hb hr (fun t ht hW => ⟨⟨_, (), rfl, rfl, _, _, _, _, _, hX2, fun _ => e12, by rw [ht]; exact hP, va_K.moved hW.alike hK, hD⟩, hS.F ht⟩) hS.2.2 dL_slice_30
      · have hcd : cdSlice ns its wss (nI f) (nI o) zh zl = 1 := by unfold cdSlice; exact if_neg (fun q => hle q.2)
        rw [hcd]
        have hP2 : va_P (dC, dI) cls3 [(ax, .inr (1, [.ref hfm, .ref hq])), (hfm, .inl (cR, 8, .inr (.inr (.inr (.inr (fun i => some (ha i))))))), (ha f, .inr (0, [.ref (pw f), .ref (ps f), .ref (po f), .ref (pk f), .int (nI (ns f))])), (pw f, .inl (cI, 6, .inl (wd f))), (ps f, .inl (cZ, 6, .inl (sg f))), (po f, .inl (cI, 64, .inl (ow f))), (pk f, .inl (cI, 64, .inl (co f)))] s.heap := ((wx_B hP).sub [0, 1] rfl).app (wx_F (fc_len _ _ _ _ _ _ _ _ _ _ _ _) hf hP)
        refine tx_callV (As := [.int (nI f), .int (nI o), .int zh, .int zl]) (rest := [.int (nI 0), .ref hu]) (st0 := [.int zl, .int zh, .int (nI o), .int (nI f), .ref ax, .int (nI 0), .ref hu]) ⟨hx, hb, hml, hown, hw⟩ (t_X_slice_l l hl0 dC dI sa cR ax hfm hq (fun i => some (ha i)) cI cZ (ha f) (pw f) (ps f) (po f) (pk f) (ns f) (wd f) (sg f) (ow f) (co f) (its f) (wss f) (sbs f) (hX f hf) f hf rfl o ho hw1 zh zl hle) (cwV 4 hw (gV kw_233 kw_234 kw_235 kw_14 kw_236) rfl rfl rfl (by decide +kernel) ⟨Nat.le_of_ble_eq_true rfl, Nat.le_of_ble_eq_true rfl⟩) (xo_preV (q0 := 0) (hK.sub (tys' := [(cR, .object "SliceCoder$Form"), (cI, .int), (cZ, .boolean)]) [0, 1, 2] rfl) hP2 hV hZ rfl rfl) rfl hl.1 rfl (lv_room (Nat.le_of_ble_eq_true rfl)) dL_slice_9 ⟨Nat.le_of_ble_eq_true rfl, Nat.le_of_ble_eq_true rfl⟩ (fun q9 ce H1 k1 k2 k3 k4 k5 => ?_)
        have hP := P_grow hP k5
        have hS := S_grow hS k4 k5
        refine tx_catch hown [] (⟨0, 14, 17, 13⟩ : ExceptionTableEntry) [(⟨0, 14, 21, 25⟩ : ExceptionTableEntry), (⟨0, 14, 25, 19⟩ : ExceptionTableEntry)] htab (fun z hz => nomatch hz) rfl (by decide) (hw _ kw_70) (va_Nw.use (by rfl) (hV.1 _ (by decide +kernel))) k1 k2 k3 ?_
        refine lv_astore hx hb dL_slice_17 hl (by decide) rfl (fun ls hl => ?_)
        have hl : lv_has ls 7 [(6, .ref q9), (0, .ref ax), (1, .int (nI f)), (2, .int (nI o)), (3, .int zh), (4, .int zl), (5, .ref hu)] := hl
        refine lv_iconst (v := nI 1) hx hb dL_slice_19 (by decide +kernel) ?_
        exact W.iret (v := nI 1) hx hb hr (fun t ht hW => ⟨⟨_, (), rfl, rfl, _, _, _, _, _, hX, fun h => absurd h (by decide), by rw [ht]; exact hP, va_K.moved hW.alike hK, hD⟩, hS.F ht⟩) hS.2.2 dL_slice_20

set_option maxHeartbeats 4000000 in
set_option maxRecDepth 100000 in
theorem h_whole (l : Launch) (hl0 : l.stackTraces = false) (dC : Nat → ClassId) (dI : Nat → Nat → Nat) (sz : Nat) (sa : Nat → Nat) (cR cI cZ cJ : ClassId) (ax hfm hq hu : Nat) (ha pw ps po pk ns : Nat → Nat) (its wss : Nat → Nat → Nat) (sbs : Nat → Nat → Bool) (wd sg ow co : Nat → Nat → Int32) (nu ou : Nat → Int64) (hX : xR ns its wss sbs wd sg ow co) (x : Int32) : Met l yL_whole wL_whole { frames := 8, cells := 1, slots := 6, locals := 124 } (xl_Pc sa (dC, dI) cls3 (wL cR cI cZ cJ ax hfm hq hu ha pw ps po pk ns wd sg ow co nu ou) (tL cR cI cZ cJ) sz [.ref ax, .int x, .ref hu]) (LQ dC dI (va_A (wL cR cI cZ cJ ax hfm hq hu ha pw ps po pk ns wd sg ow co nu ou) sz) cR cI cZ cJ ax hfm hq hu ha pw ps po pk (cdClear x) (fun z => z = lN (decide (cw_lft (its (fi x)) (ns (fi x)) (wss (fi x)) 6 = 0)).toNat) ns its wss sbs nu) 1 6 (va_A (wL cR cI cZ cJ ax hfm hq hu ha pw ps po pk ns wd sg ow co nu ou) sz) := by
  refine va_MetW (cc := cL_whole) (maxL := 4) (ret := some .int) (by decide) rfl ?_
  intro p e s m args below meth c s₁ B hml hv
  obtain ⟨rfl, hsz, hP, hK, hD0, hV, hZ, hN⟩ := hv
  have hx := B.exec
  have hb := B.bytes
  have hr := B.returns
  have hts := atoms_spec (ws := wL_whole) B.pre
  have hw : ∀ w ∈ wA, w.before _ s = true := fun w h => hts w (List.mem_cons_of_mem _ h)
  have hown : s.vm.findClass RL = some m.cls := findClass_of_methodNamed B.named
  have hlocks := B.notSynchronized
  have htab := tx_table B (hts _ List.mem_cons_self)
  subst hsz
  have hD := hD0.self (sz := s.heap.size)
  generalize hAe : va_A (wL cR cI cZ cJ ax hfm hq hu ha pw ps po pk ns wd sg ow co nu ou) s.heap.size = A at hD ⊢
  have hA : ∀ q : Nat, s.heap.size ≤ q → A q := fun q h => by rw [← hAe]; exact Or.inr h
  have hS : va_S A s.heap s.heap [] := va_S.rf
  have hl := lv_entry ([.ref ax, .int x, .ref hu]) (n := 4) (Nat.le_of_ble_eq_true rfl)
  rw [lg_entry_eq]
  generalize (lg_sl ([.ref ax, .int x, .ref hu]) ++ List.replicate (4 - (lg_sl ([.ref ax, .int x, .ref hu])).length) Slot.unset).toArray = ls at hl ⊢
  have hl : lv_has ls 4 [(0, .ref ax), (1, .int x), (2, .ref hu)] := hl
  refine lv_aload_n hx hb dL_whole_0 rfl (lv_at hl 2 rfl) ?_
  refine lv_iconst (v := nI 0) hx hb dL_whole_1 (by decide +kernel) ?_
  refine lv_aload_n hx hb dL_whole_2 rfl (lv_at hl 0 rfl) ?_
  refine lv_iload_n hx hb dL_whole_3 rfl (lv_at hl 1 rfl) ?_
  by_cases hb9 : isF x = false
  · have hcd : (cdClear x) = 1 := by unfold cdClear; rw [hb9]; rfl
    rw [hcd]
    have hP0 : va_P (dC, dI) cls3 [(ax, .inr (1, [.ref hfm, .ref hq]))] s.heap := (wx_B hP).sub [0] rfl
    refine tx_callV (As := [.int x]) (rest := [.int (nI 0), .ref hu]) (st0 := [.int x, .ref ax, .int (nI 0), .ref hu]) ⟨hx, hb, hml, hown, hw⟩ (t_X_whole_f l hl0 dC dI sa ax hfm hq x hb9) (cwV 1 hw (gV kw_256 kw_257 kw_258 kw_14 kw_259) rfl rfl rfl (by decide +kernel) ⟨Nat.le_of_ble_eq_true rfl, Nat.le_of_ble_eq_true rfl⟩) (xo_preV (q0 := 0) (hK.sub (tys' := []) [] rfl) hP0 hV hZ rfl rfl) rfl hl.1 rfl (lv_room (Nat.le_of_ble_eq_true rfl)) dL_whole_4 ⟨Nat.le_of_ble_eq_true rfl, Nat.le_of_ble_eq_true rfl⟩ (fun q9 ce H1 k1 k2 k3 k4 k5 => ?_)
    have hP := P_grow hP k5
    have hS := S_grow hS k4 k5
    refine tx_catch hown [] (⟨0, 16, 19, 13⟩ : ExceptionTableEntry) [] htab (fun z hz => nomatch hz) rfl (by decide) (hw _ kw_70) (va_Nw.use (by rfl) (hV.1 _ (by decide +kernel))) k1 k2 k3 ?_
    refine lv_astore_n hx hb dL_whole_19 rfl hl (by decide) rfl (fun ls hl => ?_)
    have hl : lv_has ls 4 [(3, .ref q9), (0, .ref ax), (1, .int x), (2, .ref hu)] := hl
    refine lv_iconst (v := nI 1) hx hb dL_whole_20 (by decide +kernel) ?_
    exact W.iret (v := nI 1) hx hb hr (fun t ht hW => ⟨⟨_, (), rfl, rfl, _, _, _, _, _, hX, fun h => absurd h (by decide), by rw [ht]; exact hP, va_K.moved hW.alike hK, hD⟩, hS.F ht⟩) hS.2.2 dL_whole_21
  · obtain ⟨f, hf, rfl⟩ := isF_of (b_tt hb9)
    have hff : fi (nI f) = f := fi_nI (by omega)
    have hcd : cdClear (nI f) = 0 := by unfold cdClear; rw [isF_nI hf]; rfl
    rw [hcd, hff]
    have hP2 : va_P (dC, dI) cls3 [(ax, .inr (1, [.ref hfm, .ref hq])), (hfm, .inl (cR, 8, .inr (.inr (.inr (.inr (fun i => some (ha i))))))), (ha f, .inr (0, [.ref (pw f), .ref (ps f), .ref (po f), .ref (pk f), .int (nI (ns f))])), (pw f, .inl (cI, 6, .inl (wd f))), (ps f, .inl (cZ, 6, .inl (sg f))), (po f, .inl (cI, 64, .inl (ow f))), (pk f, .inl (cI, 64, .inl (co f)))] s.heap := ((wx_B hP).sub [0, 1] rfl).app (wx_F (fc_len _ _ _ _ _ _ _ _ _ _ _ _) hf hP)
    refine vp_callSi (W.runV (As := [.int (nI f)]) (rest := [.int (nI 0), .ref hu]) ⟨hx, hb, hml, hown, hw⟩ (c_X_whole l dC dI sa cR ax hfm hq (fun i => some (ha i)) cI cZ (ha f) (pw f) (ps f) (po f) (pk f) (ns f) (wd f) (sg f) (ow f) (co f) (its f) (wss f) (sbs f) (hX f hf) f hf rfl) (cwV 1 hw (gV kw_256 kw_257 kw_258 kw_14 kw_259) rfl rfl rfl (by decide +kernel) ⟨Nat.le_of_ble_eq_true rfl, Nat.le_of_ble_eq_true rfl⟩) (xo_preV (q0 := 0) (hK.sub (tys' := [(cR, .object "SliceCoder$Form"), (cI, .int), (cZ, .boolean)]) [0, 1, 2] rfl) hP2 hV hZ rfl rfl) rfl rfl hl.1 rfl (lv_room (Nat.le_of_ble_eq_true rfl)) dL_whole_4 ⟨Nat.zero_le _, Nat.zero_le _⟩) (fun v4 e4 => ?_)
    obtain rfl : v4 = nI (decide (cw_lft (its f) (ns f) (wss f) 6 = 0)).toNat := e4
    refine lv_if_eq (tgt := 14) hx hb dL_whole_7 (by decide) (fun h7 => ?_) (fun h7 => ?_)
    · refine lv_lconst (v := lN 0) hx hb dL_whole_14 (by decide +kernel) ?_
      refine va_last hx hb hK hP hD hS 3 3 rfl rfl (vp_in_nI (by omega) (by decide)) dL_whole_15 (fun H locs hP hD hS => ?_)
      rw [show (nI 0).toNatClampNeg = 0 from nI_clamp (by omega)] at hP hD
      have hP : va_P (dC, dI) cls3 (wL cR cI cZ cJ ax hfm hq hu ha pw ps po pk ns wd sg ow co nu (vp_updL ou 0 (lN 0))) H := hP
      have hD : va_D A (wL cR cI cZ cJ ax hfm hq hu ha pw ps po pk ns wd sg ow co nu (vp_updL ou 0 (lN 0))) := hD
      refine lv_goto (tgt := 22) hx hb dL_whole_16 (by decide) ?_
      refine lv_iconst (v := nI 0) hx hb dL_whole_22 (by decide +kernel) ?_
      refine W.widen (Nat.zero_le 1) (Nat.zero_le 6) ?_
      exact W.iret (v := nI 0) hx hb hr (fun t ht hW => ⟨⟨_, (), rfl, rfl, _, _, _, _, _, hX, fun _ => by first | (rw [(b_nat0 _).mp h7]; rfl) | (rw [b_nf h7]; rfl), by rw [ht]; exact hP, va_K.moved hW.alike hK, hD⟩, hS.F ht⟩) hS.2.2 dL_whole_23
    · refine lv_lconst (v := lN 1) hx hb dL_whole_10 (by decide +kernel) ?_
      refine lv_goto (tgt := 15) hx hb dL_whole_11 (by decide) ?_
      refine va_last hx hb hK hP hD hS 3 3 rfl rfl (vp_in_nI (by omega) (by decide)) dL_whole_15 (fun H locs hP hD hS => ?_)
      rw [show (nI 0).toNatClampNeg = 0 from nI_clamp (by omega)] at hP hD
      have hP : va_P (dC, dI) cls3 (wL cR cI cZ cJ ax hfm hq hu ha pw ps po pk ns wd sg ow co nu (vp_updL ou 0 (lN 1))) H := hP
      have hD : va_D A (wL cR cI cZ cJ ax hfm hq hu ha pw ps po pk ns wd sg ow co nu (vp_updL ou 0 (lN 1))) := hD
      refine lv_goto (tgt := 22) hx hb dL_whole_16 (by decide) ?_
      refine lv_iconst (v := nI 0) hx hb dL_whole_22 (by decide +kernel) ?_
      refine W.widen (Nat.zero_le 1) (Nat.zero_le 6) ?_
      exact W.iret (v := nI 0) hx hb hr (fun t ht hW => ⟨⟨_, (), rfl, rfl, _, _, _, _, _, hX, fun _ => by first | (rw [(b_nat0 _).mp h7]; rfl) | (rw [b_nf h7]; rfl), by rw [ht]; exact hP, va_K.moved hW.alike hK, hD⟩, hS.F ht⟩) hS.2.2 dL_whole_23

set_option maxHeartbeats 4000000 in
set_option maxRecDepth 100000 in
theorem h_number (l : Launch) (hl0 : l.stackTraces = false) (dC : Nat → ClassId) (dI : Nat → Nat → Nat) (sz : Nat) (sa : Nat → Nat) (cR cI cZ cJ : ClassId) (ax hfm hq hu : Nat) (ha pw ps po pk ns : Nat → Nat) (its wss : Nat → Nat → Nat) (sbs : Nat → Nat → Bool) (wd sg ow co : Nat → Nat → Int32) (nu ou : Nat → Int64) (hX : xR ns its wss sbs wd sg ow co) (x : Int32) (v : Int64) : Met l yL_number wL_number { frames := 8, cells := 1, slots := 6, locals := 125 } (xl_Pc sa (dC, dI) cls3 (wL cR cI cZ cJ ax hfm hq hu ha pw ps po pk ns wd sg ow co nu ou) (tL cR cI cZ cJ) sz [.ref ax, .int x, .long v]) (LQ dC dI (va_A (wL cR cI cZ cJ ax hfm hq hu ha pw ps po pk ns wd sg ow co nu ou) sz) cR cI cZ cJ ax hfm hq hu ha pw ps po pk (cdNum x) (fun z => True) ns its wss sbs (stp (cdNum x) (vp_updL nu (fi x) v) nu)) 1 6 (va_A (wL cR cI cZ cJ ax hfm hq hu ha pw ps po pk ns wd sg ow co nu ou) sz) := by
  refine va_MetW (cc := cL_number) (maxL := 5) (ret := some .int) (by decide) rfl ?_
  intro p e s m args below meth c s₁ B hml hv
  obtain ⟨rfl, hsz, hP, hK, hD0, hV, hZ, hN⟩ := hv
  have hx := B.exec
  have hb := B.bytes
  have hr := B.returns
  have hts := atoms_spec (ws := wL_number) B.pre
  have hw : ∀ w ∈ wA, w.before _ s = true := fun w h => hts w (List.mem_cons_of_mem _ h)
  have hown : s.vm.findClass RL = some m.cls := findClass_of_methodNamed B.named
  have hlocks := B.notSynchronized
  have htab := tx_table B (hts _ List.mem_cons_self)
  subst hsz
  have hD := hD0.self (sz := s.heap.size)
  generalize hAe : va_A (wL cR cI cZ cJ ax hfm hq hu ha pw ps po pk ns wd sg ow co nu ou) s.heap.size = A at hD ⊢
  have hA : ∀ q : Nat, s.heap.size ≤ q → A q := fun q h => by rw [← hAe]; exact Or.inr h
  have hS : va_S A s.heap s.heap [] := va_S.rf
  have hl := lv_entry ([.ref ax, .int x, .long v]) (n := 5) (Nat.le_of_ble_eq_true rfl)
  rw [lg_entry_eq]
  generalize (lg_sl ([.ref ax, .int x, .long v]) ++ List.replicate (5 - (lg_sl ([.ref ax, .int x, .long v])).length) Slot.unset).toArray = ls at hl ⊢
  have hl : lv_has ls 5 [(0, .ref ax), (1, .int x), (2, .long v)] := hl
  refine lv_aload_n hx hb dL_number_0 rfl (lv_at hl 0 rfl) ?_
  refine lv_iload_n hx hb dL_number_1 rfl (lv_at hl 1 rfl) ?_
  refine lv_lload_n hx hb dL_number_2 rfl (lv_at hl 2 rfl) ?_
  by_cases hb9 : isO x = false
  · have hcd : cdNum x = 1 := by unfold cdNum; rw [hb9]; rfl
    rw [hcd]
    have hP0 : va_P (dC, dI) cls3 [(ax, .inr (1, [.ref hfm, .ref hq]))] s.heap := (wx_B hP).sub [0] rfl
    refine tx_callV (As := [.int x, .long v]) (rest := []) (st0 := [.long v, .int x, .ref ax]) ⟨hx, hb, hml, hown, hw⟩ (t_X_number_o l hl0 dC dI sa ax hfm hq x v hb9) (cwV 2 hw (gV kw_275 kw_276 kw_277 kw_14 kw_278) rfl rfl rfl (by decide +kernel) ⟨Nat.le_of_ble_eq_true rfl, Nat.le_of_ble_eq_true rfl⟩) (xo_preV (q0 := 0) (hK.sub (tys' := []) [] rfl) hP0 hV hZ rfl rfl) rfl hl.1 rfl (lv_room (Nat.le_of_ble_eq_true rfl)) dL_number_3 ⟨Nat.le_of_ble_eq_true rfl, Nat.le_of_ble_eq_true rfl⟩ (fun q9 ce H1 k1 k2 k3 k4 k5 => ?_)
    have hP := P_grow hP k5
    have hS := S_grow hS k4 k5
    refine tx_catch hown [] (⟨0, 6, 9, 13⟩ : ExceptionTableEntry) [] htab (fun z hz => nomatch hz) rfl (by decide) (hw _ kw_70) (va_Nw.use (by rfl) (hV.1 _ (by decide +kernel))) k1 k2 k3 ?_
    refine lv_astore hx hb dL_number_9 hl (by decide) rfl (fun ls hl => ?_)
    have hl : lv_has ls 5 [(4, .ref q9), (0, .ref ax), (1, .int x), (2, .long v)] := hl
    refine lv_iconst (v := nI 1) hx hb dL_number_11 (by decide +kernel) ?_
    exact W.iret (v := nI 1) hx hb hr (fun t ht hW => ⟨⟨_, (), rfl, rfl, _, _, _, _, _, hX, fun h => absurd h (by decide), by rw [ht]; exact hP, va_K.moved hW.alike hK, hD⟩, hS.F ht⟩) hS.2.2 dL_number_12
  · obtain ⟨f, hf, rfl⟩ := isO_of (b_tt hb9)
    have hff : fi (nI f) = f := fi_nI (by omega)
    have hcd : cdNum (nI f) = 0 := by unfold cdNum; rw [isO_nI hf]; rfl
    rw [hcd, hff]
    have hP2 : va_P (dC, dI) cls3 [(ax, .inr (1, [.ref hfm, .ref hq])), (hq, .inl (cJ, 6, .inr (.inl nu)))] s.heap := (wx_B hP).sub [0, 2] rfl
    have hD2 : va_D A [(ax, .inr (1, [.ref hfm, .ref hq])), (hq, .inl (cJ, 6, .inr (.inl nu)))] := (wx_DB hD).sub [0, 2] (by decide) rfl
    have hFc : ∀ q, va_A [(ax, .inr (1, [.ref hfm, .ref hq])), (hq, .inl (cJ, 6, .inr (.inl nu)))] s.heap.size q → A q := fun q h => h.elim (fun ⟨k, e, h⟩ => hD2.2 k (q, e) h) (hA q)
    refine va_callv (va_runV (As := [.int (nI f), .long v]) (rest := []) ⟨hx, hb, hml, hown, hw⟩ (c_X_number l dC dI _ sa cJ ax hfm hq nu f v hf) (cwV 2 hw (gV kw_275 kw_276 kw_277 kw_14 kw_278) rfl rfl rfl (by decide +kernel) ⟨Nat.le_of_ble_eq_true rfl, Nat.le_of_ble_eq_true rfl⟩) (xw_preV (q0 := 0) (hK.sub (tys' := [(cJ, .long)]) [3] rfl) hP2 hD2 hV hZ rfl rfl) rfl rfl hl.1 rfl (lv_room (Nat.le_of_ble_eq_true rfl)) dL_number_3 ⟨Nat.zero_le _, Nat.zero_le _⟩) hS (fun q _ h => hFc q h) hFc (fun u t H1 locs ht hvm e3 hB hz1 hk1 hS => ?_)
    obtain ⟨hP1, hK1, hD1⟩ := hB
    rw [ht] at hP1
    obtain ⟨hP, hD⟩ := wx_num hP hD hk1 hP1 rfl rfl
    refine lv_goto (tgt := 13) hx hb dL_number_6 (by decide) ?_
    refine lv_iconst (v := nI 0) hx hb dL_number_13 (by decide +kernel) ?_
    refine W.widen (Nat.zero_le 1) (Nat.zero_le 6) ?_
    exact W.iret (v := nI 0) hx hb hr (fun t ht hW => ⟨⟨_, (), rfl, rfl, _, _, _, _, _, hX, fun _ => trivial, by rw [ht]; exact hP, va_K.moved hW.alike hK, hD⟩, hS.F ht⟩) hS.2.2 dL_number_14

set_option maxHeartbeats 4000000 in
set_option maxRecDepth 100000 in
theorem h_fits (l : Launch) (hl0 : l.stackTraces = false) (dC : Nat → ClassId) (dI : Nat → Nat → Nat) (sz : Nat) (sa : Nat → Nat) (cR cI cZ cJ : ClassId) (ax hfm hq hu : Nat) (ha pw ps po pk ns : Nat → Nat) (its wss : Nat → Nat → Nat) (sbs : Nat → Nat → Bool) (wd sg ow co : Nat → Nat → Int32) (nu ou : Nat → Int64) (hX : xR ns its wss sbs wd sg ow co) (x y : Int32) (v : Int64) : Met l yL_fits wL_fits { frames := 9, cells := 1, slots := 6, locals := 150 } (xl_Pc sa (dC, dI) cls3 (wL cR cI cZ cJ ax hfm hq hu ha pw ps po pk ns wd sg ow co nu ou) (tL cR cI cZ cJ) sz [.ref ax, .int x, .int y, .long v, .ref hu]) (LQ dC dI (va_A (wL cR cI cZ cJ ax hfm hq hu ha pw ps po pk ns wd sg ow co nu ou) sz) cR cI cZ cJ ax hfm hq hu ha pw ps po pk (cdFits wss x y) (fun z => z = lN (fitB (wss (fi x) (fi y)) (sbs (fi x) (fi y)) v).toNat) ns its wss sbs nu) 1 6 (va_A (wL cR cI cZ cJ ax hfm hq hu ha pw ps po pk ns wd sg ow co nu ou) sz) := by
  refine va_MetW (cc := cL_fits) (maxL := 7) (ret := some .int) (by decide) rfl ?_
  intro p e s m args below meth c s₁ B hml hv
  obtain ⟨rfl, hsz, hP, hK, hD0, hV, hZ, hN⟩ := hv
  have hx := B.exec
  have hb := B.bytes
  have hr := B.returns
  have hts := atoms_spec (ws := wL_fits) B.pre
  have hw : ∀ w ∈ wA, w.before _ s = true := fun w h => hts w (List.mem_cons_of_mem _ h)
  have hown : s.vm.findClass RL = some m.cls := findClass_of_methodNamed B.named
  have hlocks := B.notSynchronized
  have htab := tx_table B (hts _ List.mem_cons_self)
  subst hsz
  have hD := hD0.self (sz := s.heap.size)
  generalize hAe : va_A (wL cR cI cZ cJ ax hfm hq hu ha pw ps po pk ns wd sg ow co nu ou) s.heap.size = A at hD ⊢
  have hA : ∀ q : Nat, s.heap.size ≤ q → A q := fun q h => by rw [← hAe]; exact Or.inr h
  have hS : va_S A s.heap s.heap [] := va_S.rf
  have hl := lv_entry ([.ref ax, .int x, .int y, .long v, .ref hu]) (n := 7) (Nat.le_of_ble_eq_true rfl)
  rw [lg_entry_eq]
  generalize (lg_sl ([.ref ax, .int x, .int y, .long v, .ref hu]) ++ List.replicate (7 - (lg_sl ([.ref ax, .int x, .int y, .long v, .ref hu])).length) Slot.unset).toArray = ls at hl ⊢
  have hl : lv_has ls 7 [(0, .ref ax), (1, .int x), (2, .int y), (3, .long v), (5, .ref hu)] := hl
  refine lv_aload hx hb dL_fits_0 (lv_at hl 4 rfl) ?_
  refine lv_iconst (v := nI 0) hx hb dL_fits_2 (by decide +kernel) ?_
  refine lv_aload_n hx hb dL_fits_3 rfl (lv_at hl 0 rfl) ?_
  refine lv_iload_n hx hb dL_fits_4 rfl (lv_at hl 1 rfl) ?_
  refine lv_iload_n hx hb dL_fits_5 rfl (lv_at hl 2 rfl) ?_
  refine lv_lload_n hx hb dL_fits_6 rfl (lv_at hl 3 rfl) ?_
  by_cases hb9 : isF x = false
  · have hcd : (cdFits wss x y) = 1 := by unfold cdFits; rw [thr_nf hb9]; rfl
    rw [hcd]
    have hP0 : va_P (dC, dI) cls3 [(ax, .inr (1, [.ref hfm, .ref hq]))] s.heap := (wx_B hP).sub [0] rfl
    refine tx_callV (As := [.int x, .int y, .long v]) (rest := [.int (nI 0), .ref hu]) (st0 := [.long v, .int y, .int x, .ref ax, .int (nI 0), .ref hu]) ⟨hx, hb, hml, hown, hw⟩ (t_X_fits_f l hl0 dC dI sa ax hfm hq x y v hb9) (cwV 3 hw (gV kw_282 kw_283 kw_284 kw_14 kw_285) rfl rfl rfl (by decide +kernel) ⟨Nat.le_of_ble_eq_true rfl, Nat.le_of_ble_eq_true rfl⟩) (xo_preV (q0 := 0) (hK.sub (tys' := []) [] rfl) hP0 hV hZ rfl rfl) rfl hl.1 rfl (lv_room (Nat.le_of_ble_eq_true rfl)) dL_fits_7 ⟨Nat.le_of_ble_eq_true rfl, Nat.le_of_ble_eq_true rfl⟩ (fun q9 ce H1 k1 k2 k3 k4 k5 => ?_)
    have hP := P_grow hP k5
    have hS := S_grow hS k4 k5
    refine tx_catch hown [] (⟨0, 19, 22, 13⟩ : ExceptionTableEntry) [] htab (fun z hz => nomatch hz) rfl (by decide) (hw _ kw_70) (va_Nw.use (by rfl) (hV.1 _ (by decide +kernel))) k1 k2 k3 ?_
    refine lv_astore hx hb dL_fits_22 hl (by decide) rfl (fun ls hl => ?_)
    have hl : lv_has ls 7 [(6, .ref q9), (0, .ref ax), (1, .int x), (2, .int y), (3, .long v), (5, .ref hu)] := hl
    refine lv_iconst (v := nI 1) hx hb dL_fits_24 (by decide +kernel) ?_
    exact W.iret (v := nI 1) hx hb hr (fun t ht hW => ⟨⟨_, (), rfl, rfl, _, _, _, _, _, hX, fun h => absurd h (by decide), by rw [ht]; exact hP, va_K.moved hW.alike hK, hD⟩, hS.F ht⟩) hS.2.2 dL_fits_25
  · obtain ⟨f, hf, rfl⟩ := isF_of (b_tt hb9)
    have hff : fi (nI f) = f := fi_nI (by omega)
    by_cases hb9 : hop (wss f) y = false
    · have hcd : cdFits wss (nI f) y = 1 := by unfold cdFits; rw [thr_hop hf, hb9]; rfl
      rw [hcd]
      have hP2 : va_P (dC, dI) cls3 [(ax, .inr (1, [.ref hfm, .ref hq])), (hfm, .inl (cR, 8, .inr (.inr (.inr (.inr (fun i => some (ha i))))))), (ha f, .inr (0, [.ref (pw f), .ref (ps f), .ref (po f), .ref (pk f), .int (nI (ns f))])), (pw f, .inl (cI, 6, .inl (wd f))), (ps f, .inl (cZ, 6, .inl (sg f))), (po f, .inl (cI, 64, .inl (ow f))), (pk f, .inl (cI, 64, .inl (co f)))] s.heap := ((wx_B hP).sub [0, 1] rfl).app (wx_F (fc_len _ _ _ _ _ _ _ _ _ _ _ _) hf hP)
      refine tx_callV (As := [.int (nI f), .int y, .long v]) (rest := [.int (nI 0), .ref hu]) (st0 := [.long v, .int y, .int (nI f), .ref ax, .int (nI 0), .ref hu]) ⟨hx, hb, hml, hown, hw⟩ (t_X_fits_o l hl0 dC dI sa cR ax hfm hq (fun i => some (ha i)) cI cZ (ha f) (pw f) (ps f) (po f) (pk f) (ns f) (wd f) (sg f) (ow f) (co f) (its f) (wss f) (sbs f) (hX f hf) f hf rfl y v hb9) (cwV 3 hw (gV kw_282 kw_283 kw_284 kw_14 kw_285) rfl rfl rfl (by decide +kernel) ⟨Nat.le_of_ble_eq_true rfl, Nat.le_of_ble_eq_true rfl⟩) (xo_preV (q0 := 0) (hK.sub (tys' := [(cR, .object "SliceCoder$Form"), (cI, .int), (cZ, .boolean)]) [0, 1, 2] rfl) hP2 hV hZ rfl rfl) rfl hl.1 rfl (lv_room (Nat.le_of_ble_eq_true rfl)) dL_fits_7 ⟨Nat.le_of_ble_eq_true rfl, Nat.le_of_ble_eq_true rfl⟩ (fun q9 ce H1 k1 k2 k3 k4 k5 => ?_)
      have hP := P_grow hP k5
      have hS := S_grow hS k4 k5
      refine tx_catch hown [] (⟨0, 19, 22, 13⟩ : ExceptionTableEntry) [] htab (fun z hz => nomatch hz) rfl (by decide) (hw _ kw_70) (va_Nw.use (by rfl) (hV.1 _ (by decide +kernel))) k1 k2 k3 ?_
      refine lv_astore hx hb dL_fits_22 hl (by decide) rfl (fun ls hl => ?_)
      have hl : lv_has ls 7 [(6, .ref q9), (0, .ref ax), (1, .int (nI f)), (2, .int y), (3, .long v), (5, .ref hu)] := hl
      refine lv_iconst (v := nI 1) hx hb dL_fits_24 (by decide +kernel) ?_
      exact W.iret (v := nI 1) hx hb hr (fun t ht hW => ⟨⟨_, (), rfl, rfl, _, _, _, _, _, hX, fun h => absurd h (by decide), by rw [ht]; exact hP, va_K.moved hW.alike hK, hD⟩, hS.F ht⟩) hS.2.2 dL_fits_25
    · obtain ⟨o, ho, rfl, hw1⟩ := (hop_iff _ _).mp (b_tt hb9)
      have hfo : fi (nI o) = o := fi_nI (by omega)
      have hcd : cdFits wss (nI f) (nI o) = 0 := by unfold cdFits; rw [thr_t hf ho hw1]; rfl
      rw [hcd, hff, hfo]
      have hP2 : va_P (dC, dI) cls3 [(ax, .inr (1, [.ref hfm, .ref hq])), (hfm, .inl (cR, 8, .inr (.inr (.inr (.inr (fun i => some (ha i))))))), (ha f, .inr (0, [.ref (pw f), .ref (ps f), .ref (po f), .ref (pk f), .int (nI (ns f))])), (pw f, .inl (cI, 6, .inl (wd f))), (ps f, .inl (cZ, 6, .inl (sg f))), (po f, .inl (cI, 64, .inl (ow f))), (pk f, .inl (cI, 64, .inl (co f)))] s.heap := ((wx_B hP).sub [0, 1] rfl).app (wx_F (fc_len _ _ _ _ _ _ _ _ _ _ _ _) hf hP)
      refine vp_callSi (W.runV (As := [.int (nI f), .int (nI o), .long v]) (rest := [.int (nI 0), .ref hu]) ⟨hx, hb, hml, hown, hw⟩ (c_X_fits l dC dI sa cR ax hfm hq (fun i => some (ha i)) cI cZ (ha f) (pw f) (ps f) (po f) (pk f) (ns f) (wd f) (sg f) (ow f) (co f) (its f) (wss f) (sbs f) (hX f hf) f hf rfl o v ho hw1) (cwV 3 hw (gV kw_282 kw_283 kw_284 kw_14 kw_285) rfl rfl rfl (by decide +kernel) ⟨Nat.le_of_ble_eq_true rfl, Nat.le_of_ble_eq_true rfl⟩) (xo_preV (q0 := 0) (hK.sub (tys' := [(cR, .object "SliceCoder$Form"), (cI, .int), (cZ, .boolean)]) [0, 1, 2] rfl) hP2 hV hZ rfl rfl) rfl rfl hl.1 rfl (lv_room (Nat.le_of_ble_eq_true rfl)) dL_fits_7 ⟨Nat.zero_le _, Nat.zero_le _⟩) (fun v7 e7 => ?_)
      obtain rfl : v7 = nI (fitB (wss f o) (sbs f o) v).toNat := e7
      refine lv_if_eq (tgt := 17) hx hb dL_fits_10 (by decide) (fun h10 => ?_) (fun h10 => ?_)
      · refine lv_lconst (v := lN 0) hx hb dL_fits_17 (by decide +kernel) ?_
        refine va_last hx hb hK hP hD hS 3 3 rfl rfl (vp_in_nI (by omega) (by decide)) dL_fits_18 (fun H locs hP hD hS => ?_)
        rw [show (nI 0).toNatClampNeg = 0 from nI_clamp (by omega)] at hP hD
        have hP : va_P (dC, dI) cls3 (wL cR cI cZ cJ ax hfm hq hu ha pw ps po pk ns wd sg ow co nu (vp_updL ou 0 (lN 0))) H := hP
        have hD : va_D A (wL cR cI cZ cJ ax hfm hq hu ha pw ps po pk ns wd sg ow co nu (vp_updL ou 0 (lN 0))) := hD
        refine lv_goto (tgt := 26) hx hb dL_fits_19 (by decide) ?_
        refine lv_iconst (v := nI 0) hx hb dL_fits_26 (by decide +kernel) ?_
        refine W.widen (Nat.zero_le 1) (Nat.zero_le 6) ?_
        exact W.iret (v := nI 0) hx hb hr (fun t ht hW => ⟨⟨_, (), rfl, rfl, _, _, _, _, _, hX, fun _ => by first | (rw [(b_nat0 _).mp h10]; rfl) | (rw [b_nf h10]; rfl), by rw [ht]; exact hP, va_K.moved hW.alike hK, hD⟩, hS.F ht⟩) hS.2.2 dL_fits_27
      · refine lv_lconst (v := lN 1) hx hb dL_fits_13 (by decide +kernel) ?_
        refine lv_goto (tgt := 18) hx hb dL_fits_14 (by decide) ?_
        refine va_last hx hb hK hP hD hS 3 3 rfl rfl (vp_in_nI (by omega) (by decide)) dL_fits_18 (fun H locs hP hD hS => ?_)
        rw [show (nI 0).toNatClampNeg = 0 from nI_clamp (by omega)] at hP hD
        have hP : va_P (dC, dI) cls3 (wL cR cI cZ cJ ax hfm hq hu ha pw ps po pk ns wd sg ow co nu (vp_updL ou 0 (lN 1))) H := hP
        have hD : va_D A (wL cR cI cZ cJ ax hfm hq hu ha pw ps po pk ns wd sg ow co nu (vp_updL ou 0 (lN 1))) := hD
        refine lv_goto (tgt := 26) hx hb dL_fits_19 (by decide) ?_
        refine lv_iconst (v := nI 0) hx hb dL_fits_26 (by decide +kernel) ?_
        refine W.widen (Nat.zero_le 1) (Nat.zero_le 6) ?_
        exact W.iret (v := nI 0) hx hb hr (fun t ht hW => ⟨⟨_, (), rfl, rfl, _, _, _, _, _, hX, fun _ => by first | (rw [(b_nat0 _).mp h10]; rfl) | (rw [b_nf h10]; rfl), by rw [ht]; exact hP, va_K.moved hW.alike hK, hD⟩, hS.F ht⟩) hS.2.2 dL_fits_27

set_option maxHeartbeats 4000000 in
set_option maxRecDepth 100000 in
theorem h_encode (l : Launch) (hl0 : l.stackTraces = false) (dC : Nat → ClassId) (dI : Nat → Nat → Nat) (sz : Nat) (sa : Nat → Nat) (cR cI cZ cJ : ClassId) (ax hfm hq hu : Nat) (ha pw ps po pk ns : Nat → Nat) (its wss : Nat → Nat → Nat) (sbs : Nat → Nat → Bool) (wd sg ow co : Nat → Nat → Int32) (nu ou : Nat → Int64) (hX : xR ns its wss sbs wd sg ow co) (x : Int32) : Met l yL_encode wL_encode { frames := 8, cells := 1, slots := 6, locals := 125 } (xl_Pc sa (dC, dI) cls3 (wL cR cI cZ cJ ax hfm hq hu ha pw ps po pk ns wd sg ow co nu ou) (tL cR cI cZ cJ) sz [.ref ax, .int x, .ref hu]) (LQ dC dI (va_A (wL cR cI cZ cJ ax hfm hq hu ha pw ps po pk ns wd sg ow co nu ou) sz) cR cI cZ cJ ax hfm hq hu ha pw ps po pk (cdEnc ns its wss sbs nu x) (fun z => z = lN (wrd (ebit (its (fi x)) nu) (ns (fi x)))) ns its wss sbs nu) 1 6 (va_A (wL cR cI cZ cJ ax hfm hq hu ha pw ps po pk ns wd sg ow co nu ou) sz) := by
  refine va_MetW (cc := cL_encode) (maxL := 4) (ret := some .int) (by decide) rfl ?_
  intro p e s m args below meth c s₁ B hml hv
  obtain ⟨rfl, hsz, hP, hK, hD0, hV, hZ, hN⟩ := hv
  have hx := B.exec
  have hb := B.bytes
  have hr := B.returns
  have hts := atoms_spec (ws := wL_encode) B.pre
  have hw : ∀ w ∈ wA, w.before _ s = true := fun w h => hts w (List.mem_cons_of_mem _ h)
  have hown : s.vm.findClass RL = some m.cls := findClass_of_methodNamed B.named
  have hlocks := B.notSynchronized
  have htab := tx_table B (hts _ List.mem_cons_self)
  subst hsz
  have hD := hD0.self (sz := s.heap.size)
  generalize hAe : va_A (wL cR cI cZ cJ ax hfm hq hu ha pw ps po pk ns wd sg ow co nu ou) s.heap.size = A at hD ⊢
  have hA : ∀ q : Nat, s.heap.size ≤ q → A q := fun q h => by rw [← hAe]; exact Or.inr h
  have hS : va_S A s.heap s.heap [] := va_S.rf
  have hl := lv_entry ([.ref ax, .int x, .ref hu]) (n := 4) (Nat.le_of_ble_eq_true rfl)
  rw [lg_entry_eq]
  generalize (lg_sl ([.ref ax, .int x, .ref hu]) ++ List.replicate (4 - (lg_sl ([.ref ax, .int x, .ref hu])).length) Slot.unset).toArray = ls at hl ⊢
  have hl : lv_has ls 4 [(0, .ref ax), (1, .int x), (2, .ref hu)] := hl
  refine lv_aload_n hx hb dL_encode_0 rfl (lv_at hl 2 rfl) ?_
  refine lv_iconst (v := nI 0) hx hb dL_encode_1 (by decide +kernel) ?_
  refine lv_aload_n hx hb dL_encode_2 rfl (lv_at hl 0 rfl) ?_
  refine lv_iload_n hx hb dL_encode_3 rfl (lv_at hl 1 rfl) ?_
  by_cases hb9 : isF x = false
  · have hcd : (cdEnc ns its wss sbs nu x) = 1 := by unfold cdEnc; rw [hb9]; rfl
    rw [hcd]
    have hP0 : va_P (dC, dI) cls3 [(ax, .inr (1, [.ref hfm, .ref hq]))] s.heap := (wx_B hP).sub [0] rfl
    refine tx_callV (As := [.int x]) (rest := [.int (nI 0), .ref hu]) (st0 := [.int x, .ref ax, .int (nI 0), .ref hu]) ⟨hx, hb, hml, hown, hw⟩ (t_X_encode_f l hl0 dC dI sa ax hfm hq x hb9) (cwV 1 hw (gV kw_295 kw_296 kw_297 kw_14 kw_298) rfl rfl rfl (by decide +kernel) ⟨Nat.le_of_ble_eq_true rfl, Nat.le_of_ble_eq_true rfl⟩) (xo_preV (q0 := 0) (hK.sub (tys' := []) [] rfl) hP0 hV hZ rfl rfl) rfl hl.1 rfl (lv_room (Nat.le_of_ble_eq_true rfl)) dL_encode_4 ⟨Nat.le_of_ble_eq_true rfl, Nat.le_of_ble_eq_true rfl⟩ (fun q9 ce H1 k1 k2 k3 k4 k5 => ?_)
    have hP := P_grow hP k5
    have hS := S_grow hS k4 k5
    refine tx_catch hown [] (⟨0, 8, 11, 13⟩ : ExceptionTableEntry) [(⟨0, 8, 14, 19⟩ : ExceptionTableEntry), (⟨0, 8, 17, 47⟩ : ExceptionTableEntry)] htab (fun z hz => nomatch hz) rfl (by decide) (hw _ kw_70) (va_Nw.use (by rfl) (hV.1 _ (by decide +kernel))) k1 k2 k3 ?_
    refine lv_astore_n hx hb dL_encode_11 rfl hl (by decide) rfl (fun ls hl => ?_)
    have hl : lv_has ls 4 [(3, .ref q9), (0, .ref ax), (1, .int x), (2, .ref hu)] := hl
    refine lv_iconst (v := nI 1) hx hb dL_encode_12 (by decide +kernel) ?_
    exact W.iret (v := nI 1) hx hb hr (fun t ht hW => ⟨⟨_, (), rfl, rfl, _, _, _, _, _, hX, fun h => absurd h (by decide), by rw [ht]; exact hP, va_K.moved hW.alike hK, hD⟩, hS.F ht⟩) hS.2.2 dL_encode_13
  · obtain ⟨f, hf, rfl⟩ := isF_of (b_tt hb9)
    have hff : fi (nI f) = f := fi_nI (by omega)
    by_cases hwh : cw_lft (its f) (ns f) (wss f) 6 = 0
    · by_cases hft : afit (wss f) (sbs f) nu = true
      · have hcd : cdEnc ns its wss sbs nu (nI f) = 0 := by unfold cdEnc; rw [isF_nI hf, if_pos rfl, hff, if_pos hwh, if_pos hft]
        rw [hcd, hff]
        have hP3 : va_P (dC, dI) cls3 [(ax, .inr (1, [.ref hfm, .ref hq])), (hfm, .inl (cR, 8, .inr (.inr (.inr (.inr (fun i => some (ha i))))))), (ha f, .inr (0, [.ref (pw f), .ref (ps f), .ref (po f), .ref (pk f), .int (nI (ns f))])), (pw f, .inl (cI, 6, .inl (wd f))), (ps f, .inl (cZ, 6, .inl (sg f))), (po f, .inl (cI, 64, .inl (ow f))), (pk f, .inl (cI, 64, .inl (co f))), (hq, .inl (cJ, 6, .inr (.inl nu)))] s.heap := (((wx_B hP).sub [0, 1] rfl).app (wx_F (fc_len _ _ _ _ _ _ _ _ _ _ _ _) hf hP)).app ((wx_B hP).sub [2] rfl)
        refine vp_callSl (W.runV (As := [.int (nI f)]) (rest := [.int (nI 0), .ref hu]) ⟨hx, hb, hml, hown, hw⟩ (c_X_encode l dC dI sa cR ax hfm hq (fun i => some (ha i)) cI cZ (ha f) (pw f) (ps f) (po f) (pk f) (ns f) (wd f) (sg f) (ow f) (co f) (its f) (wss f) (sbs f) (hX f hf) cJ nu f hf rfl hwh hft) (cwV 1 hw (gV kw_295 kw_296 kw_297 kw_14 kw_298) rfl rfl rfl (by decide +kernel) ⟨Nat.le_of_ble_eq_true rfl, Nat.le_of_ble_eq_true rfl⟩) (xo_preV (q0 := 0) (hK.sub (tys' := [(cR, .object "SliceCoder$Form"), (cI, .int), (cZ, .boolean), (cJ, .long)]) [0, 1, 2, 3] rfl) hP3 hV hZ rfl rfl) rfl rfl hl.1 rfl (lv_room (Nat.le_of_ble_eq_true rfl)) dL_encode_4 ⟨Nat.zero_le _, Nat.zero_le _⟩) (fun v4 e4 => ?_)
        refine va_last hx hb hK hP hD hS 3 3 rfl rfl (vp_in_nI (by omega) (by decide)) dL_encode_7 (fun H locs hP hD hS => ?_)
        rw [show (nI 0).toNatClampNeg = 0 from nI_clamp (by omega)] at hP hD
        have hP : va_P (dC, dI) cls3 (wL cR cI cZ cJ ax hfm hq hu ha pw ps po pk ns wd sg ow co nu (vp_updL ou 0 v4)) H := hP
        have hD : va_D A (wL cR cI cZ cJ ax hfm hq hu ha pw ps po pk ns wd sg ow co nu (vp_updL ou 0 v4)) := hD
        refine lv_goto (tgt := 20) hx hb dL_encode_8 (by decide) ?_
        refine lv_iconst (v := nI 0) hx hb dL_encode_20 (by decide +kernel) ?_
        refine W.widen (Nat.zero_le 1) (Nat.zero_le 6) ?_
        exact W.iret (v := nI 0) hx hb hr (fun t ht hW => ⟨⟨_, (), rfl, rfl, _, _, _, _, _, hX, fun _ => e4, by rw [ht]; exact hP, va_K.moved hW.alike hK, hD⟩, hS.F ht⟩) hS.2.2 dL_encode_21
      · have hft : afit (wss f) (sbs f) nu = false := by simpa using hft
        have hcd : cdEnc ns its wss sbs nu (nI f) = 3 := by unfold cdEnc; rw [isF_nI hf, if_pos rfl, hff, if_pos hwh, hft]; rfl
        rw [hcd]
        have hP3 : va_P (dC, dI) cls3 [(ax, .inr (1, [.ref hfm, .ref hq])), (hfm, .inl (cR, 8, .inr (.inr (.inr (.inr (fun i => some (ha i))))))), (ha f, .inr (0, [.ref (pw f), .ref (ps f), .ref (po f), .ref (pk f), .int (nI (ns f))])), (pw f, .inl (cI, 6, .inl (wd f))), (ps f, .inl (cZ, 6, .inl (sg f))), (po f, .inl (cI, 64, .inl (ow f))), (pk f, .inl (cI, 64, .inl (co f))), (hq, .inl (cJ, 6, .inr (.inl nu)))] s.heap := (((wx_B hP).sub [0, 1] rfl).app (wx_F (fc_len _ _ _ _ _ _ _ _ _ _ _ _) hf hP)).app ((wx_B hP).sub [2] rfl)
        refine tx_callV (As := [.int (nI f)]) (rest := [.int (nI 0), .ref hu]) (st0 := [.int (nI f), .ref ax, .int (nI 0), .ref hu]) ⟨hx, hb, hml, hown, hw⟩ (t_X_encode_n l hl0 dC dI sa cR ax hfm hq (fun i => some (ha i)) cI cZ (ha f) (pw f) (ps f) (po f) (pk f) (ns f) (wd f) (sg f) (ow f) (co f) (its f) (wss f) (sbs f) (hX f hf) cJ nu f hf rfl hwh hft) (cwV 1 hw (gV kw_295 kw_296 kw_297 kw_14 kw_298) rfl rfl rfl (by decide +kernel) ⟨Nat.le_of_ble_eq_true rfl, Nat.le_of_ble_eq_true rfl⟩) (xo_preV (q0 := 0) (hK.sub (tys' := [(cR, .object "SliceCoder$Form"), (cI, .int), (cZ, .boolean), (cJ, .long)]) [0, 1, 2, 3] rfl) hP3 hV hZ rfl rfl) rfl hl.1 rfl (lv_room (Nat.le_of_ble_eq_true rfl)) dL_encode_4 ⟨Nat.le_of_ble_eq_true rfl, Nat.le_of_ble_eq_true rfl⟩ (fun q9 ce H1 k1 k2 k3 k4 k5 => ?_)
        have hP := P_grow hP k5
        have hS := S_grow hS k4 k5
        refine tx_catch hown [(⟨0, 8, 11, 13⟩ : ExceptionTableEntry), (⟨0, 8, 14, 19⟩ : ExceptionTableEntry)] (⟨0, 8, 17, 47⟩ : ExceptionTableEntry) [] htab (fun z hz => by
            simp only [List.mem_cons, List.not_mem_nil, or_false] at hz
            rcases hz with rfl | rfl
            · exact ⟨rfl, by decide, _, (hw _ kw_70), hN.2.2.1⟩
            · exact ⟨rfl, by decide, _, (hw _ kw_155), hN.2.2.2.1⟩) rfl (by decide) (hw _ kw_294) (va_Nw.use (by rfl) (hV.1 _ (by decide +kernel))) k1 k2 k3 ?_
        refine lv_astore_n hx hb dL_encode_17 rfl hl (by decide) rfl (fun ls hl => ?_)
        have hl : lv_has ls 4 [(3, .ref q9), (0, .ref ax), (1, .int (nI f)), (2, .ref hu)] := hl
        refine lv_iconst (v := nI 3) hx hb dL_encode_18 (by decide +kernel) ?_
        exact W.iret (v := nI 3) hx hb hr (fun t ht hW => ⟨⟨_, (), rfl, rfl, _, _, _, _, _, hX, fun h => absurd h (by decide), by rw [ht]; exact hP, va_K.moved hW.alike hK, hD⟩, hS.F ht⟩) hS.2.2 dL_encode_19
    · have hcd : cdEnc ns its wss sbs nu (nI f) = 2 := by unfold cdEnc; rw [isF_nI hf, if_pos rfl, hff, if_neg hwh]
      rw [hcd]
      have hP2 : va_P (dC, dI) cls3 [(ax, .inr (1, [.ref hfm, .ref hq])), (hfm, .inl (cR, 8, .inr (.inr (.inr (.inr (fun i => some (ha i))))))), (ha f, .inr (0, [.ref (pw f), .ref (ps f), .ref (po f), .ref (pk f), .int (nI (ns f))])), (pw f, .inl (cI, 6, .inl (wd f))), (ps f, .inl (cZ, 6, .inl (sg f))), (po f, .inl (cI, 64, .inl (ow f))), (pk f, .inl (cI, 64, .inl (co f)))] s.heap := ((wx_B hP).sub [0, 1] rfl).app (wx_F (fc_len _ _ _ _ _ _ _ _ _ _ _ _) hf hP)
      refine tx_callV (As := [.int (nI f)]) (rest := [.int (nI 0), .ref hu]) (st0 := [.int (nI f), .ref ax, .int (nI 0), .ref hu]) ⟨hx, hb, hml, hown, hw⟩ (t_X_encode_w l hl0 dC dI sa cR ax hfm hq (fun i => some (ha i)) cI cZ (ha f) (pw f) (ps f) (po f) (pk f) (ns f) (wd f) (sg f) (ow f) (co f) (its f) (wss f) (sbs f) (hX f hf) f hf rfl hwh) (cwV 1 hw (gV kw_295 kw_296 kw_297 kw_14 kw_298) rfl rfl rfl (by decide +kernel) ⟨Nat.le_of_ble_eq_true rfl, Nat.le_of_ble_eq_true rfl⟩) (xo_preV (q0 := 0) (hK.sub (tys' := [(cR, .object "SliceCoder$Form"), (cI, .int), (cZ, .boolean)]) [0, 1, 2] rfl) hP2 hV hZ rfl rfl) rfl hl.1 rfl (lv_room (Nat.le_of_ble_eq_true rfl)) dL_encode_4 ⟨Nat.le_of_ble_eq_true rfl, Nat.le_of_ble_eq_true rfl⟩ (fun q9 ce H1 k1 k2 k3 k4 k5 => ?_)
      have hP := P_grow hP k5
      have hS := S_grow hS k4 k5
      refine tx_catch hown [(⟨0, 8, 11, 13⟩ : ExceptionTableEntry)] (⟨0, 8, 14, 19⟩ : ExceptionTableEntry) [(⟨0, 8, 17, 47⟩ : ExceptionTableEntry)] htab (fun z hz => by
          simp only [List.mem_cons, List.not_mem_nil, or_false] at hz
          rcases hz with rfl
          · exact ⟨rfl, by decide, _, (hw _ kw_70), hN.1⟩) rfl (by decide) (hw _ kw_155) (va_Nw.use (by rfl) (hV.1 _ (by decide +kernel))) k1 k2 k3 ?_
      refine lv_astore_n hx hb dL_encode_14 rfl hl (by decide) rfl (fun ls hl => ?_)
      have hl : lv_has ls 4 [(3, .ref q9), (0, .ref ax), (1, .int (nI f)), (2, .ref hu)] := hl
      refine lv_iconst (v := nI 2) hx hb dL_encode_15 (by decide +kernel) ?_
      exact W.iret (v := nI 2) hx hb hr (fun t ht hW => ⟨⟨_, (), rfl, rfl, _, _, _, _, _, hX, fun h => absurd h (by decide), by rw [ht]; exact hP, va_K.moved hW.alike hK, hD⟩, hS.F ht⟩) hS.2.2 dL_encode_16

set_option maxHeartbeats 4000000 in
set_option maxRecDepth 100000 in
theorem h_is (l : Launch) (hl0 : l.stackTraces = false) (dC : Nat → ClassId) (dI : Nat → Nat → Nat) (sz : Nat) (sa : Nat → Nat) (cR cI cZ cJ : ClassId) (ax hfm hq hu : Nat) (ha pw ps po pk ns : Nat → Nat) (its wss : Nat → Nat → Nat) (sbs : Nat → Nat → Bool) (wd sg ow co : Nat → Nat → Int32) (nu ou : Nat → Int64) (hX : xR ns its wss sbs wd sg ow co) (x : Int32) (v : Int64) : Met l yL_is wL_is { frames := 8, cells := 1, slots := 6, locals := 126 } (xl_Pc sa (dC, dI) cls3 (wL cR cI cZ cJ ax hfm hq hu ha pw ps po pk ns wd sg ow co nu ou) (tL cR cI cZ cJ) sz [.ref ax, .int x, .long v, .ref hu]) (LQ dC dI (va_A (wL cR cI cZ cJ ax hfm hq hu ha pw ps po pk ns wd sg ow co nu ou) sz) cR cI cZ cJ ax hfm hq hu ha pw ps po pk (cdClear x) (fun z => z = lN (isof (its (fi x)) (ns (fi x)) v).toNat) ns its wss sbs nu) 1 6 (va_A (wL cR cI cZ cJ ax hfm hq hu ha pw ps po pk ns wd sg ow co nu ou) sz) := by
  refine va_MetW (cc := cL_is) (maxL := 6) (ret := some .int) (by decide) rfl ?_
  intro p e s m args below meth c s₁ B hml hv
  obtain ⟨rfl, hsz, hP, hK, hD0, hV, hZ, hN⟩ := hv
  have hx := B.exec
  have hb := B.bytes
  have hr := B.returns
  have hts := atoms_spec (ws := wL_is) B.pre
  have hw : ∀ w ∈ wA, w.before _ s = true := fun w h => hts w (List.mem_cons_of_mem _ h)
  have hown : s.vm.findClass RL = some m.cls := findClass_of_methodNamed B.named
  have hlocks := B.notSynchronized
  have htab := tx_table B (hts _ List.mem_cons_self)
  subst hsz
  have hD := hD0.self (sz := s.heap.size)
  generalize hAe : va_A (wL cR cI cZ cJ ax hfm hq hu ha pw ps po pk ns wd sg ow co nu ou) s.heap.size = A at hD ⊢
  have hA : ∀ q : Nat, s.heap.size ≤ q → A q := fun q h => by rw [← hAe]; exact Or.inr h
  have hS : va_S A s.heap s.heap [] := va_S.rf
  have hl := lv_entry ([.ref ax, .int x, .long v, .ref hu]) (n := 6) (Nat.le_of_ble_eq_true rfl)
  rw [lg_entry_eq]
  generalize (lg_sl ([.ref ax, .int x, .long v, .ref hu]) ++ List.replicate (6 - (lg_sl ([.ref ax, .int x, .long v, .ref hu])).length) Slot.unset).toArray = ls at hl ⊢
  have hl : lv_has ls 6 [(0, .ref ax), (1, .int x), (2, .long v), (4, .ref hu)] := hl
  refine lv_aload hx hb dL_is_0 (lv_at hl 3 rfl) ?_
  refine lv_iconst (v := nI 0) hx hb dL_is_2 (by decide +kernel) ?_
  refine lv_aload_n hx hb dL_is_3 rfl (lv_at hl 0 rfl) ?_
  refine lv_iload_n hx hb dL_is_4 rfl (lv_at hl 1 rfl) ?_
  refine lv_lload_n hx hb dL_is_5 rfl (lv_at hl 2 rfl) ?_
  by_cases hb9 : isF x = false
  · have hcd : (cdClear x) = 1 := by unfold cdClear; rw [hb9]; rfl
    rw [hcd]
    have hP0 : va_P (dC, dI) cls3 [(ax, .inr (1, [.ref hfm, .ref hq]))] s.heap := (wx_B hP).sub [0] rfl
    refine tx_callV (As := [.int x, .long v]) (rest := [.int (nI 0), .ref hu]) (st0 := [.long v, .int x, .ref ax, .int (nI 0), .ref hu]) ⟨hx, hb, hml, hown, hw⟩ (t_X_is_f l hl0 dC dI sa ax hfm hq x v hb9) (cwV 2 hw (gV kw_331 kw_332 kw_333 kw_14 kw_334) rfl rfl rfl (by decide +kernel) ⟨Nat.le_of_ble_eq_true rfl, Nat.le_of_ble_eq_true rfl⟩) (xo_preV (q0 := 0) (hK.sub (tys' := []) [] rfl) hP0 hV hZ rfl rfl) rfl hl.1 rfl (lv_room (Nat.le_of_ble_eq_true rfl)) dL_is_6 ⟨Nat.le_of_ble_eq_true rfl, Nat.le_of_ble_eq_true rfl⟩ (fun q9 ce H1 k1 k2 k3 k4 k5 => ?_)
    have hP := P_grow hP k5
    have hS := S_grow hS k4 k5
    refine tx_catch hown [] (⟨0, 18, 21, 13⟩ : ExceptionTableEntry) [] htab (fun z hz => nomatch hz) rfl (by decide) (hw _ kw_70) (va_Nw.use (by rfl) (hV.1 _ (by decide +kernel))) k1 k2 k3 ?_
    refine lv_astore hx hb dL_is_21 hl (by decide) rfl (fun ls hl => ?_)
    have hl : lv_has ls 6 [(5, .ref q9), (0, .ref ax), (1, .int x), (2, .long v), (4, .ref hu)] := hl
    refine lv_iconst (v := nI 1) hx hb dL_is_23 (by decide +kernel) ?_
    exact W.iret (v := nI 1) hx hb hr (fun t ht hW => ⟨⟨_, (), rfl, rfl, _, _, _, _, _, hX, fun h => absurd h (by decide), by rw [ht]; exact hP, va_K.moved hW.alike hK, hD⟩, hS.F ht⟩) hS.2.2 dL_is_24
  · obtain ⟨f, hf, rfl⟩ := isF_of (b_tt hb9)
    have hff : fi (nI f) = f := fi_nI (by omega)
    have hcd : cdClear (nI f) = 0 := by unfold cdClear; rw [isF_nI hf]; rfl
    rw [hcd, hff]
    have hP2 : va_P (dC, dI) cls3 [(ax, .inr (1, [.ref hfm, .ref hq])), (hfm, .inl (cR, 8, .inr (.inr (.inr (.inr (fun i => some (ha i))))))), (ha f, .inr (0, [.ref (pw f), .ref (ps f), .ref (po f), .ref (pk f), .int (nI (ns f))])), (pw f, .inl (cI, 6, .inl (wd f))), (ps f, .inl (cZ, 6, .inl (sg f))), (po f, .inl (cI, 64, .inl (ow f))), (pk f, .inl (cI, 64, .inl (co f)))] s.heap := ((wx_B hP).sub [0, 1] rfl).app (wx_F (fc_len _ _ _ _ _ _ _ _ _ _ _ _) hf hP)
    refine vp_callSi (W.runV (As := [.int (nI f), .long v]) (rest := [.int (nI 0), .ref hu]) ⟨hx, hb, hml, hown, hw⟩ (c_X_is l dC dI sa cR ax hfm hq (fun i => some (ha i)) cI cZ (ha f) (pw f) (ps f) (po f) (pk f) (ns f) (wd f) (sg f) (ow f) (co f) (its f) (wss f) (sbs f) (hX f hf) f hf rfl v) (cwV 2 hw (gV kw_331 kw_332 kw_333 kw_14 kw_334) rfl rfl rfl (by decide +kernel) ⟨Nat.le_of_ble_eq_true rfl, Nat.le_of_ble_eq_true rfl⟩) (xo_preV (q0 := 0) (hK.sub (tys' := [(cR, .object "SliceCoder$Form"), (cI, .int), (cZ, .boolean)]) [0, 1, 2] rfl) hP2 hV hZ rfl rfl) rfl rfl hl.1 rfl (lv_room (Nat.le_of_ble_eq_true rfl)) dL_is_6 ⟨Nat.zero_le _, Nat.zero_le _⟩) (fun v6 e6 => ?_)
    obtain rfl : v6 = nI (isof (its f) (ns f) v).toNat := e6
    refine lv_if_eq (tgt := 16) hx hb dL_is_9 (by decide) (fun h9 => ?_) (fun h9 => ?_)
    · refine lv_lconst (v := lN 0) hx hb dL_is_16 (by decide +kernel) ?_
      refine va_last hx hb hK hP hD hS 3 3 rfl rfl (vp_in_nI (by omega) (by decide)) dL_is_17 (fun H locs hP hD hS => ?_)
      rw [show (nI 0).toNatClampNeg = 0 from nI_clamp (by omega)] at hP hD
      have hP : va_P (dC, dI) cls3 (wL cR cI cZ cJ ax hfm hq hu ha pw ps po pk ns wd sg ow co nu (vp_updL ou 0 (lN 0))) H := hP
      have hD : va_D A (wL cR cI cZ cJ ax hfm hq hu ha pw ps po pk ns wd sg ow co nu (vp_updL ou 0 (lN 0))) := hD
      refine lv_goto (tgt := 25) hx hb dL_is_18 (by decide) ?_
      refine lv_iconst (v := nI 0) hx hb dL_is_25 (by decide +kernel) ?_
      refine W.widen (Nat.zero_le 1) (Nat.zero_le 6) ?_
      exact W.iret (v := nI 0) hx hb hr (fun t ht hW => ⟨⟨_, (), rfl, rfl, _, _, _, _, _, hX, fun _ => by first | (rw [(b_nat0 _).mp h9]; rfl) | (rw [b_nf h9]; rfl), by rw [ht]; exact hP, va_K.moved hW.alike hK, hD⟩, hS.F ht⟩) hS.2.2 dL_is_26
    · refine lv_lconst (v := lN 1) hx hb dL_is_12 (by decide +kernel) ?_
      refine lv_goto (tgt := 17) hx hb dL_is_13 (by decide) ?_
      refine va_last hx hb hK hP hD hS 3 3 rfl rfl (vp_in_nI (by omega) (by decide)) dL_is_17 (fun H locs hP hD hS => ?_)
      rw [show (nI 0).toNatClampNeg = 0 from nI_clamp (by omega)] at hP hD
      have hP : va_P (dC, dI) cls3 (wL cR cI cZ cJ ax hfm hq hu ha pw ps po pk ns wd sg ow co nu (vp_updL ou 0 (lN 1))) H := hP
      have hD : va_D A (wL cR cI cZ cJ ax hfm hq hu ha pw ps po pk ns wd sg ow co nu (vp_updL ou 0 (lN 1))) := hD
      refine lv_goto (tgt := 25) hx hb dL_is_18 (by decide) ?_
      refine lv_iconst (v := nI 0) hx hb dL_is_25 (by decide +kernel) ?_
      refine W.widen (Nat.zero_le 1) (Nat.zero_le 6) ?_
      exact W.iret (v := nI 0) hx hb hr (fun t ht hW => ⟨⟨_, (), rfl, rfl, _, _, _, _, _, hX, fun _ => by first | (rw [(b_nat0 _).mp h9]; rfl) | (rw [b_nf h9]; rfl), by rw [ht]; exact hP, va_K.moved hW.alike hK, hD⟩, hS.F ht⟩) hS.2.2 dL_is_26

set_option maxHeartbeats 4000000 in
set_option maxRecDepth 100000 in
theorem h_decode (l : Launch) (hl0 : l.stackTraces = false) (dC : Nat → ClassId) (dI : Nat → Nat → Nat) (sz : Nat) (sa : Nat → Nat) (cR cI cZ cJ : ClassId) (ax hfm hq hu : Nat) (ha pw ps po pk ns : Nat → Nat) (its wss : Nat → Nat → Nat) (sbs : Nat → Nat → Bool) (wd sg ow co : Nat → Nat → Int32) (nu ou : Nat → Int64) (hX : xR ns its wss sbs wd sg ow co) (x y : Int32) (v : Int64) : Met l yL_decode wL_decode { frames := 9, cells := 1, slots := 6, locals := 151 } (xl_Pc sa (dC, dI) cls3 (wL cR cI cZ cJ ax hfm hq hu ha pw ps po pk ns wd sg ow co nu ou) (tL cR cI cZ cJ) sz [.ref ax, .int x, .int y, .long v, .ref hu]) (LQ dC dI (va_A (wL cR cI cZ cJ ax hfm hq hu ha pw ps po pk ns wd sg ow co nu ou) sz) cR cI cZ cJ ax hfm hq hu ha pw ps po pk (cdDec ns its wss x y v) (fun z => dcP (its (fi x)) (ns (fi x)) (wss (fi x) (fi y)) (sbs (fi x) (fi y)) (fi y) v z) ns its wss sbs nu) 1 6 (va_A (wL cR cI cZ cJ ax hfm hq hu ha pw ps po pk ns wd sg ow co nu ou) sz) := by
  refine va_MetW (cc := cL_decode) (maxL := 7) (ret := some .int) (by decide) rfl ?_
  intro p e s m args below meth c s₁ B hml hv
  obtain ⟨rfl, hsz, hP, hK, hD0, hV, hZ, hN⟩ := hv
  have hx := B.exec
  have hb := B.bytes
  have hr := B.returns
  have hts := atoms_spec (ws := wL_decode) B.pre
  have hw : ∀ w ∈ wA, w.before _ s = true := fun w h => hts w (List.mem_cons_of_mem _ h)
  have hown : s.vm.findClass RL = some m.cls := findClass_of_methodNamed B.named
  have hlocks := B.notSynchronized
  have htab := tx_table B (hts _ List.mem_cons_self)
  subst hsz
  have hD := hD0.self (sz := s.heap.size)
  generalize hAe : va_A (wL cR cI cZ cJ ax hfm hq hu ha pw ps po pk ns wd sg ow co nu ou) s.heap.size = A at hD ⊢
  have hA : ∀ q : Nat, s.heap.size ≤ q → A q := fun q h => by rw [← hAe]; exact Or.inr h
  have hS : va_S A s.heap s.heap [] := va_S.rf
  have hl := lv_entry ([.ref ax, .int x, .int y, .long v, .ref hu]) (n := 7) (Nat.le_of_ble_eq_true rfl)
  rw [lg_entry_eq]
  generalize (lg_sl ([.ref ax, .int x, .int y, .long v, .ref hu]) ++ List.replicate (7 - (lg_sl ([.ref ax, .int x, .int y, .long v, .ref hu])).length) Slot.unset).toArray = ls at hl ⊢
  have hl : lv_has ls 7 [(0, .ref ax), (1, .int x), (2, .int y), (3, .long v), (5, .ref hu)] := hl
  refine lv_aload hx hb dL_decode_0 (lv_at hl 4 rfl) ?_
  refine lv_iconst (v := nI 0) hx hb dL_decode_2 (by decide +kernel) ?_
  refine lv_aload_n hx hb dL_decode_3 rfl (lv_at hl 0 rfl) ?_
  refine lv_iload_n hx hb dL_decode_4 rfl (lv_at hl 1 rfl) ?_
  refine lv_iload_n hx hb dL_decode_5 rfl (lv_at hl 2 rfl) ?_
  refine lv_lload_n hx hb dL_decode_6 rfl (lv_at hl 3 rfl) ?_
  by_cases hb9 : isF x = false
  · have hcd : (cdDec ns its wss x y v) = 1 := by unfold cdDec; rw [thr_nf hb9]; rfl
    rw [hcd]
    have hP0 : va_P (dC, dI) cls3 [(ax, .inr (1, [.ref hfm, .ref hq]))] s.heap := (wx_B hP).sub [0] rfl
    refine tx_callV (As := [.int x, .int y, .long v]) (rest := [.int (nI 0), .ref hu]) (st0 := [.long v, .int y, .int x, .ref ax, .int (nI 0), .ref hu]) ⟨hx, hb, hml, hown, hw⟩ (t_X_decode_f l hl0 dC dI sa ax hfm hq x y v hb9) (cwV 3 hw (gV kw_346 kw_347 kw_348 kw_14 kw_349) rfl rfl rfl (by decide +kernel) ⟨Nat.le_of_ble_eq_true rfl, Nat.le_of_ble_eq_true rfl⟩) (xo_preV (q0 := 0) (hK.sub (tys' := []) [] rfl) hP0 hV hZ rfl rfl) rfl hl.1 rfl (lv_room (Nat.le_of_ble_eq_true rfl)) dL_decode_7 ⟨Nat.le_of_ble_eq_true rfl, Nat.le_of_ble_eq_true rfl⟩ (fun q9 ce H1 k1 k2 k3 k4 k5 => ?_)
    have hP := P_grow hP k5
    have hS := S_grow hS k4 k5
    refine tx_catch hown [] (⟨0, 11, 14, 13⟩ : ExceptionTableEntry) [(⟨0, 11, 18, 19⟩ : ExceptionTableEntry), (⟨0, 11, 22, 47⟩ : ExceptionTableEntry)] htab (fun z hz => nomatch hz) rfl (by decide) (hw _ kw_70) (va_Nw.use (by rfl) (hV.1 _ (by decide +kernel))) k1 k2 k3 ?_
    refine lv_astore hx hb dL_decode_14 hl (by decide) rfl (fun ls hl => ?_)
    have hl : lv_has ls 7 [(6, .ref q9), (0, .ref ax), (1, .int x), (2, .int y), (3, .long v), (5, .ref hu)] := hl
    refine lv_iconst (v := nI 1) hx hb dL_decode_16 (by decide +kernel) ?_
    exact W.iret (v := nI 1) hx hb hr (fun t ht hW => ⟨⟨_, (), rfl, rfl, _, _, _, _, _, hX, fun h => absurd h (by decide), by rw [ht]; exact hP, va_K.moved hW.alike hK, hD⟩, hS.F ht⟩) hS.2.2 dL_decode_17
  · obtain ⟨f, hf, rfl⟩ := isF_of (b_tt hb9)
    have hff : fi (nI f) = f := fi_nI (by omega)
    by_cases hb9 : hop (wss f) y = false
    · have hcd : cdDec ns its wss (nI f) y v = 1 := by unfold cdDec; rw [thr_hop hf, hb9]; rfl
      rw [hcd]
      have hP2 : va_P (dC, dI) cls3 [(ax, .inr (1, [.ref hfm, .ref hq])), (hfm, .inl (cR, 8, .inr (.inr (.inr (.inr (fun i => some (ha i))))))), (ha f, .inr (0, [.ref (pw f), .ref (ps f), .ref (po f), .ref (pk f), .int (nI (ns f))])), (pw f, .inl (cI, 6, .inl (wd f))), (ps f, .inl (cZ, 6, .inl (sg f))), (po f, .inl (cI, 64, .inl (ow f))), (pk f, .inl (cI, 64, .inl (co f)))] s.heap := ((wx_B hP).sub [0, 1] rfl).app (wx_F (fc_len _ _ _ _ _ _ _ _ _ _ _ _) hf hP)
      refine tx_callV (As := [.int (nI f), .int y, .long v]) (rest := [.int (nI 0), .ref hu]) (st0 := [.long v, .int y, .int (nI f), .ref ax, .int (nI 0), .ref hu]) ⟨hx, hb, hml, hown, hw⟩ (t_X_decode_o l hl0 dC dI sa cR ax hfm hq (fun i => some (ha i)) cI cZ (ha f) (pw f) (ps f) (po f) (pk f) (ns f) (wd f) (sg f) (ow f) (co f) (its f) (wss f) (sbs f) (hX f hf) f hf rfl y v hb9) (cwV 3 hw (gV kw_346 kw_347 kw_348 kw_14 kw_349) rfl rfl rfl (by decide +kernel) ⟨Nat.le_of_ble_eq_true rfl, Nat.le_of_ble_eq_true rfl⟩) (xo_preV (q0 := 0) (hK.sub (tys' := [(cR, .object "SliceCoder$Form"), (cI, .int), (cZ, .boolean)]) [0, 1, 2] rfl) hP2 hV hZ rfl rfl) rfl hl.1 rfl (lv_room (Nat.le_of_ble_eq_true rfl)) dL_decode_7 ⟨Nat.le_of_ble_eq_true rfl, Nat.le_of_ble_eq_true rfl⟩ (fun q9 ce H1 k1 k2 k3 k4 k5 => ?_)
      have hP := P_grow hP k5
      have hS := S_grow hS k4 k5
      refine tx_catch hown [] (⟨0, 11, 14, 13⟩ : ExceptionTableEntry) [(⟨0, 11, 18, 19⟩ : ExceptionTableEntry), (⟨0, 11, 22, 47⟩ : ExceptionTableEntry)] htab (fun z hz => nomatch hz) rfl (by decide) (hw _ kw_70) (va_Nw.use (by rfl) (hV.1 _ (by decide +kernel))) k1 k2 k3 ?_
      refine lv_astore hx hb dL_decode_14 hl (by decide) rfl (fun ls hl => ?_)
      have hl : lv_has ls 7 [(6, .ref q9), (0, .ref ax), (1, .int (nI f)), (2, .int y), (3, .long v), (5, .ref hu)] := hl
      refine lv_iconst (v := nI 1) hx hb dL_decode_16 (by decide +kernel) ?_
      exact W.iret (v := nI 1) hx hb hr (fun t ht hW => ⟨⟨_, (), rfl, rfl, _, _, _, _, _, hX, fun h => absurd h (by decide), by rw [ht]; exact hP, va_K.moved hW.alike hK, hD⟩, hS.F ht⟩) hS.2.2 dL_decode_17
    · obtain ⟨o, ho, rfl, hw1⟩ := (hop_iff _ _).mp (b_tt hb9)
      have hfo : fi (nI o) = o := fi_nI (by omega)
      by_cases hwh : cw_lft (its f) (ns f) (wss f) 6 = 0
      · by_cases hft : isof (its f) (ns f) v = true
        · have hcd : cdDec ns its wss (nI f) (nI o) v = 0 := by unfold cdDec; rw [thr_t hf ho hw1, if_pos rfl, hff, if_pos hwh, if_pos hft]
          rw [hcd, hff, hfo]
          have hP2 : va_P (dC, dI) cls3 [(ax, .inr (1, [.ref hfm, .ref hq])), (hfm, .inl (cR, 8, .inr (.inr (.inr (.inr (fun i => some (ha i))))))), (ha f, .inr (0, [.ref (pw f), .ref (ps f), .ref (po f), .ref (pk f), .int (nI (ns f))])), (pw f, .inl (cI, 6, .inl (wd f))), (ps f, .inl (cZ, 6, .inl (sg f))), (po f, .inl (cI, 64, .inl (ow f))), (pk f, .inl (cI, 64, .inl (co f)))] s.heap := ((wx_B hP).sub [0, 1] rfl).app (wx_F (fc_len _ _ _ _ _ _ _ _ _ _ _ _) hf hP)
          refine vp_callSl (W.runV (As := [.int (nI f), .int (nI o), .long v]) (rest := [.int (nI 0), .ref hu]) ⟨hx, hb, hml, hown, hw⟩ (c_X_decode l dC dI sa cR ax hfm hq (fun i => some (ha i)) cI cZ (ha f) (pw f) (ps f) (po f) (pk f) (ns f) (wd f) (sg f) (ow f) (co f) (its f) (wss f) (sbs f) (hX f hf) f hf rfl o v ho hw1 hwh hft) (cwV 3 hw (gV kw_346 kw_347 kw_348 kw_14 kw_349) rfl rfl rfl (by decide +kernel) ⟨Nat.le_of_ble_eq_true rfl, Nat.le_of_ble_eq_true rfl⟩) (xo_preV (q0 := 0) (hK.sub (tys' := [(cR, .object "SliceCoder$Form"), (cI, .int), (cZ, .boolean)]) [0, 1, 2] rfl) hP2 hV hZ rfl rfl) rfl rfl hl.1 rfl (lv_room (Nat.le_of_ble_eq_true rfl)) dL_decode_7 ⟨Nat.zero_le _, Nat.zero_le _⟩) (fun v7 e7 => ?_)
          refine va_last hx hb hK hP hD hS 3 3 rfl rfl (vp_in_nI (by omega) (by decide)) dL_decode_10 (fun H locs hP hD hS => ?_)
          rw [show (nI 0).toNatClampNeg = 0 from nI_clamp (by omega)] at hP hD
          have hP : va_P (dC, dI) cls3 (wL cR cI cZ cJ ax hfm hq hu ha pw ps po pk ns wd sg ow co nu (vp_updL ou 0 v7)) H := hP
          have hD : va_D A (wL cR cI cZ cJ ax hfm hq hu ha pw ps po pk ns wd sg ow co nu (vp_updL ou 0 v7)) := hD
          refine lv_goto (tgt := 26) hx hb dL_decode_11 (by decide) ?_
          refine lv_iconst (v := nI 0) hx hb dL_decode_26 (by decide +kernel) ?_
          refine W.widen (Nat.zero_le 1) (Nat.zero_le 6) ?_
          exact W.iret (v := nI 0) hx hb hr (fun t ht hW => ⟨⟨_, (), rfl, rfl, _, _, _, _, _, hX, fun _ => e7, by rw [ht]; exact hP, va_K.moved hW.alike hK, hD⟩, hS.F ht⟩) hS.2.2 dL_decode_27
        · have hft : isof (its f) (ns f) v = false := by simpa using hft
          have hcd : cdDec ns its wss (nI f) (nI o) v = 3 := by unfold cdDec; rw [thr_t hf ho hw1, if_pos rfl, hff, if_pos hwh, hft]; rfl
          rw [hcd]
          have hP2 : va_P (dC, dI) cls3 [(ax, .inr (1, [.ref hfm, .ref hq])), (hfm, .inl (cR, 8, .inr (.inr (.inr (.inr (fun i => some (ha i))))))), (ha f, .inr (0, [.ref (pw f), .ref (ps f), .ref (po f), .ref (pk f), .int (nI (ns f))])), (pw f, .inl (cI, 6, .inl (wd f))), (ps f, .inl (cZ, 6, .inl (sg f))), (po f, .inl (cI, 64, .inl (ow f))), (pk f, .inl (cI, 64, .inl (co f)))] s.heap := ((wx_B hP).sub [0, 1] rfl).app (wx_F (fc_len _ _ _ _ _ _ _ _ _ _ _ _) hf hP)
          refine tx_callV (As := [.int (nI f), .int (nI o), .long v]) (rest := [.int (nI 0), .ref hu]) (st0 := [.long v, .int (nI o), .int (nI f), .ref ax, .int (nI 0), .ref hu]) ⟨hx, hb, hml, hown, hw⟩ (t_X_decode_m l hl0 dC dI sa cR ax hfm hq (fun i => some (ha i)) cI cZ (ha f) (pw f) (ps f) (po f) (pk f) (ns f) (wd f) (sg f) (ow f) (co f) (its f) (wss f) (sbs f) (hX f hf) f hf rfl o ho hw1 v hwh hft) (cwV 3 hw (gV kw_346 kw_347 kw_348 kw_14 kw_349) rfl rfl rfl (by decide +kernel) ⟨Nat.le_of_ble_eq_true rfl, Nat.le_of_ble_eq_true rfl⟩) (xo_preV (q0 := 0) (hK.sub (tys' := [(cR, .object "SliceCoder$Form"), (cI, .int), (cZ, .boolean)]) [0, 1, 2] rfl) hP2 hV hZ rfl rfl) rfl hl.1 rfl (lv_room (Nat.le_of_ble_eq_true rfl)) dL_decode_7 ⟨Nat.le_of_ble_eq_true rfl, Nat.le_of_ble_eq_true rfl⟩ (fun q9 ce H1 k1 k2 k3 k4 k5 => ?_)
          have hP := P_grow hP k5
          have hS := S_grow hS k4 k5
          refine tx_catch hown [(⟨0, 11, 14, 13⟩ : ExceptionTableEntry), (⟨0, 11, 18, 19⟩ : ExceptionTableEntry)] (⟨0, 11, 22, 47⟩ : ExceptionTableEntry) [] htab (fun z hz => by
              simp only [List.mem_cons, List.not_mem_nil, or_false] at hz
              rcases hz with rfl | rfl
              · exact ⟨rfl, by decide, _, (hw _ kw_70), hN.2.2.1⟩
              · exact ⟨rfl, by decide, _, (hw _ kw_155), hN.2.2.2.1⟩) rfl (by decide) (hw _ kw_294) (va_Nw.use (by rfl) (hV.1 _ (by decide +kernel))) k1 k2 k3 ?_
          refine lv_astore hx hb dL_decode_22 hl (by decide) rfl (fun ls hl => ?_)
          have hl : lv_has ls 7 [(6, .ref q9), (0, .ref ax), (1, .int (nI f)), (2, .int (nI o)), (3, .long v), (5, .ref hu)] := hl
          refine lv_iconst (v := nI 3) hx hb dL_decode_24 (by decide +kernel) ?_
          exact W.iret (v := nI 3) hx hb hr (fun t ht hW => ⟨⟨_, (), rfl, rfl, _, _, _, _, _, hX, fun h => absurd h (by decide), by rw [ht]; exact hP, va_K.moved hW.alike hK, hD⟩, hS.F ht⟩) hS.2.2 dL_decode_25
      · have hcd : cdDec ns its wss (nI f) (nI o) v = 2 := by unfold cdDec; rw [thr_t hf ho hw1, if_pos rfl, hff, if_neg hwh]
        rw [hcd]
        have hP2 : va_P (dC, dI) cls3 [(ax, .inr (1, [.ref hfm, .ref hq])), (hfm, .inl (cR, 8, .inr (.inr (.inr (.inr (fun i => some (ha i))))))), (ha f, .inr (0, [.ref (pw f), .ref (ps f), .ref (po f), .ref (pk f), .int (nI (ns f))])), (pw f, .inl (cI, 6, .inl (wd f))), (ps f, .inl (cZ, 6, .inl (sg f))), (po f, .inl (cI, 64, .inl (ow f))), (pk f, .inl (cI, 64, .inl (co f)))] s.heap := ((wx_B hP).sub [0, 1] rfl).app (wx_F (fc_len _ _ _ _ _ _ _ _ _ _ _ _) hf hP)
        refine tx_callV (As := [.int (nI f), .int (nI o), .long v]) (rest := [.int (nI 0), .ref hu]) (st0 := [.long v, .int (nI o), .int (nI f), .ref ax, .int (nI 0), .ref hu]) ⟨hx, hb, hml, hown, hw⟩ (t_X_decode_w l hl0 dC dI sa cR ax hfm hq (fun i => some (ha i)) cI cZ (ha f) (pw f) (ps f) (po f) (pk f) (ns f) (wd f) (sg f) (ow f) (co f) (its f) (wss f) (sbs f) (hX f hf) f hf rfl o ho hw1 v hwh) (cwV 3 hw (gV kw_346 kw_347 kw_348 kw_14 kw_349) rfl rfl rfl (by decide +kernel) ⟨Nat.le_of_ble_eq_true rfl, Nat.le_of_ble_eq_true rfl⟩) (xo_preV (q0 := 0) (hK.sub (tys' := [(cR, .object "SliceCoder$Form"), (cI, .int), (cZ, .boolean)]) [0, 1, 2] rfl) hP2 hV hZ rfl rfl) rfl hl.1 rfl (lv_room (Nat.le_of_ble_eq_true rfl)) dL_decode_7 ⟨Nat.le_of_ble_eq_true rfl, Nat.le_of_ble_eq_true rfl⟩ (fun q9 ce H1 k1 k2 k3 k4 k5 => ?_)
        have hP := P_grow hP k5
        have hS := S_grow hS k4 k5
        refine tx_catch hown [(⟨0, 11, 14, 13⟩ : ExceptionTableEntry)] (⟨0, 11, 18, 19⟩ : ExceptionTableEntry) [(⟨0, 11, 22, 47⟩ : ExceptionTableEntry)] htab (fun z hz => by
            simp only [List.mem_cons, List.not_mem_nil, or_false] at hz
            rcases hz with rfl
            · exact ⟨rfl, by decide, _, (hw _ kw_70), hN.1⟩) rfl (by decide) (hw _ kw_155) (va_Nw.use (by rfl) (hV.1 _ (by decide +kernel))) k1 k2 k3 ?_
        refine lv_astore hx hb dL_decode_18 hl (by decide) rfl (fun ls hl => ?_)
        have hl : lv_has ls 7 [(6, .ref q9), (0, .ref ax), (1, .int (nI f)), (2, .int (nI o)), (3, .long v), (5, .ref hu)] := hl
        refine lv_iconst (v := nI 2) hx hb dL_decode_20 (by decide +kernel) ?_
        exact W.iret (v := nI 2) hx hb hr (fun t ht hW => ⟨⟨_, (), rfl, rfl, _, _, _, _, _, hX, fun h => absurd h (by decide), by rw [ht]; exact hP, va_K.moved hW.alike hK, hD⟩, hS.F ht⟩) hS.2.2 dL_decode_21

set_option maxHeartbeats 4000000 in
set_option maxRecDepth 100000 in
theorem h_meet (l : Launch) (hl0 : l.stackTraces = false) (dC : Nat → ClassId) (dI : Nat → Nat → Nat) (sz : Nat) (sa : Nat → Nat) (cR cI cZ cJ : ClassId) (ax hfm hq hu : Nat) (ha pw ps po pk ns : Nat → Nat) (its wss : Nat → Nat → Nat) (sbs : Nat → Nat → Bool) (wd sg ow co : Nat → Nat → Int32) (nu ou : Nat → Int64) (hX : xR ns its wss sbs wd sg ow co) (x y : Int32) : Met l yL_meet wL_meet { frames := 8, cells := 1, slots := 6, locals := 125 } (xl_Pc sa (dC, dI) cls3 (wL cR cI cZ cJ ax hfm hq hu ha pw ps po pk ns wd sg ow co nu ou) (tL cR cI cZ cJ) sz [.ref ax, .int x, .int y, .ref hu]) (LQ dC dI (va_A (wL cR cI cZ cJ ax hfm hq hu ha pw ps po pk ns wd sg ow co nu ou) sz) cR cI cZ cJ ax hfm hq hu ha pw ps po pk (cdMeet x y) (fun z => z = lN (allb (shw (its (fi x)) (ns (fi x)) (its (fi y)) (ns (fi y))) 64).toNat) ns its wss sbs nu) 1 6 (va_A (wL cR cI cZ cJ ax hfm hq hu ha pw ps po pk ns wd sg ow co nu ou) sz) := by
  refine va_MetW (cc := cL_meet) (maxL := 5) (ret := some .int) (by decide) rfl ?_
  intro p e s m args below meth c s₁ B hml hv
  obtain ⟨rfl, hsz, hP, hK, hD0, hV, hZ, hN⟩ := hv
  have hx := B.exec
  have hb := B.bytes
  have hr := B.returns
  have hts := atoms_spec (ws := wL_meet) B.pre
  have hw : ∀ w ∈ wA, w.before _ s = true := fun w h => hts w (List.mem_cons_of_mem _ h)
  have hown : s.vm.findClass RL = some m.cls := findClass_of_methodNamed B.named
  have hlocks := B.notSynchronized
  have htab := tx_table B (hts _ List.mem_cons_self)
  subst hsz
  have hD := hD0.self (sz := s.heap.size)
  generalize hAe : va_A (wL cR cI cZ cJ ax hfm hq hu ha pw ps po pk ns wd sg ow co nu ou) s.heap.size = A at hD ⊢
  have hA : ∀ q : Nat, s.heap.size ≤ q → A q := fun q h => by rw [← hAe]; exact Or.inr h
  have hS : va_S A s.heap s.heap [] := va_S.rf
  have hl := lv_entry ([.ref ax, .int x, .int y, .ref hu]) (n := 5) (Nat.le_of_ble_eq_true rfl)
  rw [lg_entry_eq]
  generalize (lg_sl ([.ref ax, .int x, .int y, .ref hu]) ++ List.replicate (5 - (lg_sl ([.ref ax, .int x, .int y, .ref hu])).length) Slot.unset).toArray = ls at hl ⊢
  have hl : lv_has ls 5 [(0, .ref ax), (1, .int x), (2, .int y), (3, .ref hu)] := hl
  refine lv_aload_n hx hb dL_meet_0 rfl (lv_at hl 3 rfl) ?_
  refine lv_iconst (v := nI 0) hx hb dL_meet_1 (by decide +kernel) ?_
  refine lv_aload_n hx hb dL_meet_2 rfl (lv_at hl 0 rfl) ?_
  refine lv_iload_n hx hb dL_meet_3 rfl (lv_at hl 1 rfl) ?_
  refine lv_iload_n hx hb dL_meet_4 rfl (lv_at hl 2 rfl) ?_
  by_cases hb9 : isF x = false
  · have hcd : (cdMeet x y) = 1 := by unfold cdMeet; rw [hb9]; rfl
    rw [hcd]
    have hP0 : va_P (dC, dI) cls3 [(ax, .inr (1, [.ref hfm, .ref hq]))] s.heap := (wx_B hP).sub [0] rfl
    refine tx_callV (As := [.int x, .int y]) (rest := [.int (nI 0), .ref hu]) (st0 := [.int y, .int x, .ref ax, .int (nI 0), .ref hu]) ⟨hx, hb, hml, hown, hw⟩ (t_X_meet_f l hl0 dC dI sa ax hfm hq x y hb9) (cwV 2 hw (gV kw_358 kw_359 kw_360 kw_14 kw_361) rfl rfl rfl (by decide +kernel) ⟨Nat.le_of_ble_eq_true rfl, Nat.le_of_ble_eq_true rfl⟩) (xo_preV (q0 := 0) (hK.sub (tys' := []) [] rfl) hP0 hV hZ rfl rfl) rfl hl.1 rfl (lv_room (Nat.le_of_ble_eq_true rfl)) dL_meet_5 ⟨Nat.le_of_ble_eq_true rfl, Nat.le_of_ble_eq_true rfl⟩ (fun q9 ce H1 k1 k2 k3 k4 k5 => ?_)
    have hP := P_grow hP k5
    have hS := S_grow hS k4 k5
    refine tx_catch hown [] (⟨0, 17, 20, 13⟩ : ExceptionTableEntry) [] htab (fun z hz => nomatch hz) rfl (by decide) (hw _ kw_70) (va_Nw.use (by rfl) (hV.1 _ (by decide +kernel))) k1 k2 k3 ?_
    refine lv_astore hx hb dL_meet_20 hl (by decide) rfl (fun ls hl => ?_)
    have hl : lv_has ls 5 [(4, .ref q9), (0, .ref ax), (1, .int x), (2, .int y), (3, .ref hu)] := hl
    refine lv_iconst (v := nI 1) hx hb dL_meet_22 (by decide +kernel) ?_
    exact W.iret (v := nI 1) hx hb hr (fun t ht hW => ⟨⟨_, (), rfl, rfl, _, _, _, _, _, hX, fun h => absurd h (by decide), by rw [ht]; exact hP, va_K.moved hW.alike hK, hD⟩, hS.F ht⟩) hS.2.2 dL_meet_23
  · obtain ⟨f, hf, rfl⟩ := isF_of (b_tt hb9)
    have hff : fi (nI f) = f := fi_nI (by omega)
    by_cases hb9 : isF y = false
    · have hcd : cdMeet (nI f) y = 1 := by unfold cdMeet; rw [isF_nI hf, hb9]; rfl
      rw [hcd]
      have hP2 : va_P (dC, dI) cls3 [(ax, .inr (1, [.ref hfm, .ref hq])), (hfm, .inl (cR, 8, .inr (.inr (.inr (.inr (fun i => some (ha i))))))), (ha f, .inr (0, [.ref (pw f), .ref (ps f), .ref (po f), .ref (pk f), .int (nI (ns f))])), (pw f, .inl (cI, 6, .inl (wd f))), (ps f, .inl (cZ, 6, .inl (sg f))), (po f, .inl (cI, 64, .inl (ow f))), (pk f, .inl (cI, 64, .inl (co f)))] s.heap := ((wx_B hP).sub [0, 1] rfl).app (wx_F (fc_len _ _ _ _ _ _ _ _ _ _ _ _) hf hP)
      refine tx_callV (As := [.int (nI f), .int y]) (rest := [.int (nI 0), .ref hu]) (st0 := [.int y, .int (nI f), .ref ax, .int (nI 0), .ref hu]) ⟨hx, hb, hml, hown, hw⟩ (t_X_meet_g l hl0 dC dI sa cR ax hfm hq (fun i => some (ha i)) cI cZ (ha f) (pw f) (ps f) (po f) (pk f) (ns f) (wd f) (sg f) (ow f) (co f) (its f) (wss f) (sbs f) (hX f hf) f hf rfl y hb9) (cwV 2 hw (gV kw_358 kw_359 kw_360 kw_14 kw_361) rfl rfl rfl (by decide +kernel) ⟨Nat.le_of_ble_eq_true rfl, Nat.le_of_ble_eq_true rfl⟩) (xo_preV (q0 := 0) (hK.sub (tys' := [(cR, .object "SliceCoder$Form"), (cI, .int), (cZ, .boolean)]) [0, 1, 2] rfl) hP2 hV hZ rfl rfl) rfl hl.1 rfl (lv_room (Nat.le_of_ble_eq_true rfl)) dL_meet_5 ⟨Nat.le_of_ble_eq_true rfl, Nat.le_of_ble_eq_true rfl⟩ (fun q9 ce H1 k1 k2 k3 k4 k5 => ?_)
      have hP := P_grow hP k5
      have hS := S_grow hS k4 k5
      refine tx_catch hown [] (⟨0, 17, 20, 13⟩ : ExceptionTableEntry) [] htab (fun z hz => nomatch hz) rfl (by decide) (hw _ kw_70) (va_Nw.use (by rfl) (hV.1 _ (by decide +kernel))) k1 k2 k3 ?_
      refine lv_astore hx hb dL_meet_20 hl (by decide) rfl (fun ls hl => ?_)
      have hl : lv_has ls 5 [(4, .ref q9), (0, .ref ax), (1, .int (nI f)), (2, .int y), (3, .ref hu)] := hl
      refine lv_iconst (v := nI 1) hx hb dL_meet_22 (by decide +kernel) ?_
      exact W.iret (v := nI 1) hx hb hr (fun t ht hW => ⟨⟨_, (), rfl, rfl, _, _, _, _, _, hX, fun h => absurd h (by decide), by rw [ht]; exact hP, va_K.moved hW.alike hK, hD⟩, hS.F ht⟩) hS.2.2 dL_meet_23
    · obtain ⟨g, hg, rfl⟩ := isF_of (b_tt hb9)
      have hfg : fi (nI g) = g := fi_nI (by omega)
      have hcd : cdMeet (nI f) (nI g) = 0 := by unfold cdMeet; rw [isF_nI hf, isF_nI hg]; rfl
      rw [hcd, hff, hfg]
      have hP4 : va_P (dC, dI) cls3 [(ax, .inr (1, [.ref hfm, .ref hq])), (hfm, .inl (cR, 8, .inr (.inr (.inr (.inr (fun i => some (ha i))))))), (ha f, .inr (0, [.ref (pw f), .ref (ps f), .ref (po f), .ref (pk f), .int (nI (ns f))])), (pw f, .inl (cI, 6, .inl (wd f))), (ps f, .inl (cZ, 6, .inl (sg f))), (po f, .inl (cI, 64, .inl (ow f))), (pk f, .inl (cI, 64, .inl (co f))), (ha g, .inr (0, [.ref (pw g), .ref (ps g), .ref (po g), .ref (pk g), .int (nI (ns g))])), (pw g, .inl (cI, 6, .inl (wd g))), (ps g, .inl (cZ, 6, .inl (sg g))), (po g, .inl (cI, 64, .inl (ow g))), (pk g, .inl (cI, 64, .inl (co g)))] s.heap := (((wx_B hP).sub [0, 1] rfl).app (wx_F (fc_len _ _ _ _ _ _ _ _ _ _ _ _) hf hP)).app (wx_F (fc_len _ _ _ _ _ _ _ _ _ _ _ _) hg hP)
      refine vp_callSi (W.runV (As := [.int (nI f), .int (nI g)]) (rest := [.int (nI 0), .ref hu]) ⟨hx, hb, hml, hown, hw⟩ (c_X_meet l dC dI sa cR ax hfm hq (fun i => some (ha i)) cI cZ (ha f) (pw f) (ps f) (po f) (pk f) (ns f) (wd f) (sg f) (ow f) (co f) (its f) (wss f) (sbs f) (hX f hf) f hf rfl (ha g) (pw g) (ps g) (po g) (pk g) (ns g) (wd g) (sg g) (ow g) (co g) (its g) (wss g) (sbs g) (hX g hg) g hg rfl) (cwV 2 hw (gV kw_358 kw_359 kw_360 kw_14 kw_361) rfl rfl rfl (by decide +kernel) ⟨Nat.le_of_ble_eq_true rfl, Nat.le_of_ble_eq_true rfl⟩) (xo_preV (q0 := 0) (hK.sub (tys' := [(cR, .object "SliceCoder$Form"), (cI, .int), (cZ, .boolean)]) [0, 1, 2] rfl) hP4 hV hZ rfl rfl) rfl rfl hl.1 rfl (lv_room (Nat.le_of_ble_eq_true rfl)) dL_meet_5 ⟨Nat.zero_le _, Nat.zero_le _⟩) (fun v5 e5 => ?_)
      obtain rfl : v5 = nI (allb (shw (its f) (ns f) (its g) (ns g)) 64).toNat := e5
      refine lv_if_eq (tgt := 15) hx hb dL_meet_8 (by decide) (fun h8 => ?_) (fun h8 => ?_)
      · refine lv_lconst (v := lN 0) hx hb dL_meet_15 (by decide +kernel) ?_
        refine va_last hx hb hK hP hD hS 3 3 rfl rfl (vp_in_nI (by omega) (by decide)) dL_meet_16 (fun H locs hP hD hS => ?_)
        rw [show (nI 0).toNatClampNeg = 0 from nI_clamp (by omega)] at hP hD
        have hP : va_P (dC, dI) cls3 (wL cR cI cZ cJ ax hfm hq hu ha pw ps po pk ns wd sg ow co nu (vp_updL ou 0 (lN 0))) H := hP
        have hD : va_D A (wL cR cI cZ cJ ax hfm hq hu ha pw ps po pk ns wd sg ow co nu (vp_updL ou 0 (lN 0))) := hD
        refine lv_goto (tgt := 24) hx hb dL_meet_17 (by decide) ?_
        refine lv_iconst (v := nI 0) hx hb dL_meet_24 (by decide +kernel) ?_
        refine W.widen (Nat.zero_le 1) (Nat.zero_le 6) ?_
        exact W.iret (v := nI 0) hx hb hr (fun t ht hW => ⟨⟨_, (), rfl, rfl, _, _, _, _, _, hX, fun _ => by first | (rw [(b_nat0 _).mp h8]; rfl) | (rw [b_nf h8]; rfl), by rw [ht]; exact hP, va_K.moved hW.alike hK, hD⟩, hS.F ht⟩) hS.2.2 dL_meet_25
      · refine lv_lconst (v := lN 1) hx hb dL_meet_11 (by decide +kernel) ?_
        refine lv_goto (tgt := 16) hx hb dL_meet_12 (by decide) ?_
        refine va_last hx hb hK hP hD hS 3 3 rfl rfl (vp_in_nI (by omega) (by decide)) dL_meet_16 (fun H locs hP hD hS => ?_)
        rw [show (nI 0).toNatClampNeg = 0 from nI_clamp (by omega)] at hP hD
        have hP : va_P (dC, dI) cls3 (wL cR cI cZ cJ ax hfm hq hu ha pw ps po pk ns wd sg ow co nu (vp_updL ou 0 (lN 1))) H := hP
        have hD : va_D A (wL cR cI cZ cJ ax hfm hq hu ha pw ps po pk ns wd sg ow co nu (vp_updL ou 0 (lN 1))) := hD
        refine lv_goto (tgt := 24) hx hb dL_meet_17 (by decide) ?_
        refine lv_iconst (v := nI 0) hx hb dL_meet_24 (by decide +kernel) ?_
        refine W.widen (Nat.zero_le 1) (Nat.zero_le 6) ?_
        exact W.iret (v := nI 0) hx hb hr (fun t ht hW => ⟨⟨_, (), rfl, rfl, _, _, _, _, _, hX, fun _ => by first | (rw [(b_nat0 _).mp h8]; rfl) | (rw [b_nf h8]; rfl), by rw [ht]; exact hP, va_K.moved hW.alike hK, hD⟩, hS.F ht⟩) hS.2.2 dL_meet_25

set_option maxHeartbeats 4000000 in
set_option maxRecDepth 100000 in
theorem h_count (l : Launch) (hl0 : l.stackTraces = false) (dC : Nat → ClassId) (dI : Nat → Nat → Nat) (sz : Nat) (sa : Nat → Nat) (cR cI cZ cJ : ClassId) (ax hfm hq hu : Nat) (ha pw ps po pk ns : Nat → Nat) (its wss : Nat → Nat → Nat) (sbs : Nat → Nat → Bool) (wd sg ow co : Nat → Nat → Int32) (nu ou : Nat → Int64) (hX : xR ns its wss sbs wd sg ow co) (x y : Int32) : Met l yL_count wL_count { frames := 8, cells := 1, slots := 6, locals := 126 } (xl_Pc sa (dC, dI) cls3 (wL cR cI cZ cJ ax hfm hq hu ha pw ps po pk ns wd sg ow co nu ou) (tL cR cI cZ cJ) sz [.ref ax, .int x, .int y, .ref hu]) (LQ dC dI (va_A (wL cR cI cZ cJ ax hfm hq hu ha pw ps po pk ns wd sg ow co nu ou) sz) cR cI cZ cJ ax hfm hq hu ha pw ps po pk (cdCnt x y) (fun z => z = (nI (cntR ns its wss (fi x) (fi y))).toInt64) ns its wss sbs nu) 1 6 (va_A (wL cR cI cZ cJ ax hfm hq hu ha pw ps po pk ns wd sg ow co nu ou) sz) := by
  refine va_MetW (cc := cL_count) (maxL := 5) (ret := some .int) (by decide) rfl ?_
  intro p e s m args below meth c s₁ B hml hv
  obtain ⟨rfl, hsz, hP, hK, hD0, hV, hZ, hN⟩ := hv
  have hx := B.exec
  have hb := B.bytes
  have hr := B.returns
  have hts := atoms_spec (ws := wL_count) B.pre
  have hw : ∀ w ∈ wA, w.before _ s = true := fun w h => hts w (List.mem_cons_of_mem _ h)
  have hown : s.vm.findClass RL = some m.cls := findClass_of_methodNamed B.named
  have hlocks := B.notSynchronized
  have htab := tx_table B (hts _ List.mem_cons_self)
  subst hsz
  have hD := hD0.self (sz := s.heap.size)
  generalize hAe : va_A (wL cR cI cZ cJ ax hfm hq hu ha pw ps po pk ns wd sg ow co nu ou) s.heap.size = A at hD ⊢
  have hA : ∀ q : Nat, s.heap.size ≤ q → A q := fun q h => by rw [← hAe]; exact Or.inr h
  have hS : va_S A s.heap s.heap [] := va_S.rf
  have hl := lv_entry ([.ref ax, .int x, .int y, .ref hu]) (n := 5) (Nat.le_of_ble_eq_true rfl)
  rw [lg_entry_eq]
  generalize (lg_sl ([.ref ax, .int x, .int y, .ref hu]) ++ List.replicate (5 - (lg_sl ([.ref ax, .int x, .int y, .ref hu])).length) Slot.unset).toArray = ls at hl ⊢
  have hl : lv_has ls 5 [(0, .ref ax), (1, .int x), (2, .int y), (3, .ref hu)] := hl
  refine lv_aload_n hx hb dL_count_0 rfl (lv_at hl 3 rfl) ?_
  refine lv_iconst (v := nI 0) hx hb dL_count_1 (by decide +kernel) ?_
  refine lv_aload_n hx hb dL_count_2 rfl (lv_at hl 0 rfl) ?_
  refine lv_iload_n hx hb dL_count_3 rfl (lv_at hl 1 rfl) ?_
  refine lv_iload_n hx hb dL_count_4 rfl (lv_at hl 2 rfl) ?_
  by_cases hb9 : isF x = false
  · have hcd : (cdCnt x y) = 1 := by unfold cdCnt; rw [hb9]; rfl
    rw [hcd]
    have hP0 : va_P (dC, dI) cls3 [(ax, .inr (1, [.ref hfm, .ref hq]))] s.heap := (wx_B hP).sub [0] rfl
    refine tx_callV (As := [.int x, .int y]) (rest := [.int (nI 0), .ref hu]) (st0 := [.int y, .int x, .ref ax, .int (nI 0), .ref hu]) ⟨hx, hb, hml, hown, hw⟩ (t_X_count_f l hl0 dC dI sa ax hfm hq x y hb9) (cwV 2 hw (gV kw_369 kw_370 kw_371 kw_14 kw_372) rfl rfl rfl (by decide +kernel) ⟨Nat.le_of_ble_eq_true rfl, Nat.le_of_ble_eq_true rfl⟩) (xo_preV (q0 := 0) (hK.sub (tys' := []) [] rfl) hP0 hV hZ rfl rfl) rfl hl.1 rfl (lv_room (Nat.le_of_ble_eq_true rfl)) dL_count_5 ⟨Nat.le_of_ble_eq_true rfl, Nat.le_of_ble_eq_true rfl⟩ (fun q9 ce H1 k1 k2 k3 k4 k5 => ?_)
    have hP := P_grow hP k5
    have hS := S_grow hS k4 k5
    refine tx_catch hown [] (⟨0, 10, 13, 13⟩ : ExceptionTableEntry) [] htab (fun z hz => nomatch hz) rfl (by decide) (hw _ kw_70) (va_Nw.use (by rfl) (hV.1 _ (by decide +kernel))) k1 k2 k3 ?_
    refine lv_astore hx hb dL_count_13 hl (by decide) rfl (fun ls hl => ?_)
    have hl : lv_has ls 5 [(4, .ref q9), (0, .ref ax), (1, .int x), (2, .int y), (3, .ref hu)] := hl
    refine lv_iconst (v := nI 1) hx hb dL_count_15 (by decide +kernel) ?_
    exact W.iret (v := nI 1) hx hb hr (fun t ht hW => ⟨⟨_, (), rfl, rfl, _, _, _, _, _, hX, fun h => absurd h (by decide), by rw [ht]; exact hP, va_K.moved hW.alike hK, hD⟩, hS.F ht⟩) hS.2.2 dL_count_16
  · obtain ⟨f, hf, rfl⟩ := isF_of (b_tt hb9)
    have hff : fi (nI f) = f := fi_nI (by omega)
    by_cases hb9 : isW y = false
    · have hcd : cdCnt (nI f) y = 1 := by unfold cdCnt; rw [isF_nI hf, hb9]; rfl
      rw [hcd]
      have hP2 : va_P (dC, dI) cls3 [(ax, .inr (1, [.ref hfm, .ref hq])), (hfm, .inl (cR, 8, .inr (.inr (.inr (.inr (fun i => some (ha i))))))), (ha f, .inr (0, [.ref (pw f), .ref (ps f), .ref (po f), .ref (pk f), .int (nI (ns f))])), (pw f, .inl (cI, 6, .inl (wd f))), (ps f, .inl (cZ, 6, .inl (sg f))), (po f, .inl (cI, 64, .inl (ow f))), (pk f, .inl (cI, 64, .inl (co f)))] s.heap := ((wx_B hP).sub [0, 1] rfl).app (wx_F (fc_len _ _ _ _ _ _ _ _ _ _ _ _) hf hP)
      refine tx_callV (As := [.int (nI f), .int y]) (rest := [.int (nI 0), .ref hu]) (st0 := [.int y, .int (nI f), .ref ax, .int (nI 0), .ref hu]) ⟨hx, hb, hml, hown, hw⟩ (t_X_count_w l hl0 dC dI sa cR ax hfm hq (fun i => some (ha i)) cI cZ (ha f) (pw f) (ps f) (po f) (pk f) (ns f) (wd f) (sg f) (ow f) (co f) (its f) (wss f) (sbs f) (hX f hf) f hf rfl y hb9) (cwV 2 hw (gV kw_369 kw_370 kw_371 kw_14 kw_372) rfl rfl rfl (by decide +kernel) ⟨Nat.le_of_ble_eq_true rfl, Nat.le_of_ble_eq_true rfl⟩) (xo_preV (q0 := 0) (hK.sub (tys' := [(cR, .object "SliceCoder$Form"), (cI, .int), (cZ, .boolean)]) [0, 1, 2] rfl) hP2 hV hZ rfl rfl) rfl hl.1 rfl (lv_room (Nat.le_of_ble_eq_true rfl)) dL_count_5 ⟨Nat.le_of_ble_eq_true rfl, Nat.le_of_ble_eq_true rfl⟩ (fun q9 ce H1 k1 k2 k3 k4 k5 => ?_)
      have hP := P_grow hP k5
      have hS := S_grow hS k4 k5
      refine tx_catch hown [] (⟨0, 10, 13, 13⟩ : ExceptionTableEntry) [] htab (fun z hz => nomatch hz) rfl (by decide) (hw _ kw_70) (va_Nw.use (by rfl) (hV.1 _ (by decide +kernel))) k1 k2 k3 ?_
      refine lv_astore hx hb dL_count_13 hl (by decide) rfl (fun ls hl => ?_)
      have hl : lv_has ls 5 [(4, .ref q9), (0, .ref ax), (1, .int (nI f)), (2, .int y), (3, .ref hu)] := hl
      refine lv_iconst (v := nI 1) hx hb dL_count_15 (by decide +kernel) ?_
      exact W.iret (v := nI 1) hx hb hr (fun t ht hW => ⟨⟨_, (), rfl, rfl, _, _, _, _, _, hX, fun h => absurd h (by decide), by rw [ht]; exact hP, va_K.moved hW.alike hK, hD⟩, hS.F ht⟩) hS.2.2 dL_count_16
    · obtain ⟨q, hq4, rfl⟩ := isW_of (b_tt hb9)
      have hfq : fi (nI q) = q := fi_nI (by omega)
      have hcd : cdCnt (nI f) (nI q) = 0 := by unfold cdCnt; rw [isF_nI hf, isW_nI hq4]; rfl
      rw [hcd, hff, hfq]
      have hP2 : va_P (dC, dI) cls3 [(ax, .inr (1, [.ref hfm, .ref hq])), (hfm, .inl (cR, 8, .inr (.inr (.inr (.inr (fun i => some (ha i))))))), (ha f, .inr (0, [.ref (pw f), .ref (ps f), .ref (po f), .ref (pk f), .int (nI (ns f))])), (pw f, .inl (cI, 6, .inl (wd f))), (ps f, .inl (cZ, 6, .inl (sg f))), (po f, .inl (cI, 64, .inl (ow f))), (pk f, .inl (cI, 64, .inl (co f)))] s.heap := ((wx_B hP).sub [0, 1] rfl).app (wx_F (fc_len _ _ _ _ _ _ _ _ _ _ _ _) hf hP)
      refine vp_callSi (W.runV (As := [.int (nI f), .int (nI q)]) (rest := [.int (nI 0), .ref hu]) ⟨hx, hb, hml, hown, hw⟩ (c_X_count l dC dI sa cR ax hfm hq (fun i => some (ha i)) cI cZ (ha f) (pw f) (ps f) (po f) (pk f) (ns f) (wd f) (sg f) (ow f) (co f) (its f) (wss f) (sbs f) (hX f hf) f hf rfl q hq4) (cwV 2 hw (gV kw_369 kw_370 kw_371 kw_14 kw_372) rfl rfl rfl (by decide +kernel) ⟨Nat.le_of_ble_eq_true rfl, Nat.le_of_ble_eq_true rfl⟩) (xo_preV (q0 := 0) (hK.sub (tys' := [(cR, .object "SliceCoder$Form"), (cI, .int), (cZ, .boolean)]) [0, 1, 2] rfl) hP2 hV hZ rfl rfl) rfl rfl hl.1 rfl (lv_room (Nat.le_of_ble_eq_true rfl)) dL_count_5 ⟨Nat.zero_le _, Nat.zero_le _⟩) (fun v5 e5 => ?_)
      obtain rfl : v5 = nI (cnt1 (its f) (ns f) (wss f) q) := e5
      refine lv_i2l hx hb dL_count_8 rfl ?_
      refine lv_topl (fun v8 e8 => ?_)
      refine va_last hx hb hK hP hD hS 3 3 rfl rfl (vp_in_nI (by omega) (by decide)) dL_count_9 (fun H locs hP hD hS => ?_)
      rw [show (nI 0).toNatClampNeg = 0 from nI_clamp (by omega)] at hP hD
      have hP : va_P (dC, dI) cls3 (wL cR cI cZ cJ ax hfm hq hu ha pw ps po pk ns wd sg ow co nu (vp_updL ou 0 v8)) H := hP
      have hD : va_D A (wL cR cI cZ cJ ax hfm hq hu ha pw ps po pk ns wd sg ow co nu (vp_updL ou 0 v8)) := hD
      refine lv_goto (tgt := 17) hx hb dL_count_10 (by decide) ?_
      refine lv_iconst (v := nI 0) hx hb dL_count_17 (by decide +kernel) ?_
      refine W.widen (Nat.zero_le 1) (Nat.zero_le 6) ?_
      exact W.iret (v := nI 0) hx hb hr (fun t ht hW => ⟨⟨_, (), rfl, rfl, _, _, _, _, _, hX, fun _ => by rw [e8]; unfold cnt1 cntR; rfl, by rw [ht]; exact hP, va_K.moved hW.alike hK, hD⟩, hS.F ht⟩) hS.2.2 dL_count_18
