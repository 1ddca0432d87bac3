/-! the law's own walk -/
abbrev wM (cI cZ cJ : ClassId) (hm ml mw mb ms mn : Nat) (er : Int32) (ln wh bi si : Nat → Int32) (nu : Nat → Int64) : va_W := [(hm, .inr (2, [.int er, .ref ml, .ref mw, .ref mb, .ref ms, .ref mn])), (ml, .inl (cI, 8, .inl ln)), (mw, .inl (cI, 512, .inl wh)), (mb, .inl (cI, 48, .inl bi)), (ms, .inl (cZ, 48, .inl si)), (mn, .inl (cJ, 6, .inr (.inl nu)))]
def lI (A : Nat → Prop) (H0 : Heap) (dC : Nat → ClassId) (dI : Nat → Nat → Nat) (cR cI cZ cJ : ClassId) (ax hfm hq hu : Nat) (ha pw ps po pk : Nat → Nat) (hm ml mw mb ms mn : Nat) (ns : Nat → Nat) (its wss : Nat → Nat → Nat) (sbs : Nat → Nat → Bool) (nu : Nat → Int64) (H : Heap) (locs : List Loc) : Prop :=
  ∃ (wd sg ow co : Nat → Nat → Int32) (ou : Nat → Int64) (er : Int32) (ln wh bi si : Nat → Int32), xR ns its wss sbs wd sg ow co ∧ mR ns its wss sbs ln wh bi si ∧
    va_P (dC, dI) cls3 (wL cR cI cZ cJ ax hfm hq hu ha pw ps po pk ns wd sg ow co nu ou ++ wM cI cZ cJ hm ml mw mb ms mn er ln wh bi si nu) H ∧ va_D A (wL cR cI cZ cJ ax hfm hq hu ha pw ps po pk ns wd sg ow co nu ou ++ wM cI cZ cJ hm ml mw mb ms mn er ln wh bi si nu) ∧ va_S A H0 H locs
def LC (p : Program) (l : Launch) (s : State) (m : MethodId) (c : Code) (b L : Nat) (xs : Nat → Int32) (dC : Nat → ClassId) (dI : Nat → Nat → Nat) (sa : Nat → Nat) (cR cI cZ cJ : ClassId) (A : Nat → Prop) : Prop :=
  p.tables.exec = Jvm.exec ∧ c.code = cL_law ∧ c.maxLocals = 8 ∧ s.vm.findClass RL = some m.cls ∧ (∀ w ∈ wA, w.before #[Value.ref b] s = true) ∧ va_X b L xs s s.heap ∧ b < s.heap.size ∧ va_K (dC, dI) cls3 (tL cR cI cZ cJ) s ∧ xV sa s ∧ xZ s s.heap ∧ lN9 s ∧ l.stackTraces = false ∧ L ≤ 2560 ∧ (∀ q : Nat, s.heap.size ≤ q → A q) ∧ (∀ q : Nat, q < s.heap.size → ¬ A q)
def wdl (a b : Int32) : Int64 := (a.toInt64 <<< ((nI 32).toInt64 &&& 63)) ||| (b.toInt64 &&& lN 4294967295)
theorem cd_z {n : Nat} (hn : n ≤ 3) (h : nI n = 0) : n = 0 := (nI_eq0 (by omega)).mp h
theorem cdFixed_le (ns : Nat → Nat) (x z : Int32) : cdFixed ns x z ≤ 3 := by unfold cdFixed; (repeat' split) <;> omega
theorem cdSlice_le (ns : Nat → Nat) (its wss : Nat → Nat → Nat) (x y zh zl : Int32) : cdSlice ns its wss x y zh zl ≤ 3 := by unfold cdSlice; (repeat' split) <;> omega
theorem cdClear_le (x : Int32) : cdClear x ≤ 3 := by unfold cdClear; split <;> omega
theorem cdFits_le (wss : Nat → Nat → Nat) (x y : Int32) : cdFits wss x y ≤ 3 := by unfold cdFits; split <;> omega
theorem cdEnc_le (ns : Nat → Nat) (its wss : Nat → Nat → Nat) (sbs : Nat → Nat → Bool) (nu : Nat → Int64) (x : Int32) : cdEnc ns its wss sbs nu x ≤ 3 := by unfold cdEnc; (repeat' split) <;> omega
theorem cdDec_le (ns : Nat → Nat) (its wss : Nat → Nat → Nat) (x y : Int32) (v : Int64) : cdDec ns its wss x y v ≤ 3 := by unfold cdDec; (repeat' split) <;> omega
theorem cdMeet_le (x y : Int32) : cdMeet x y ≤ 3 := by unfold cdMeet; split <;> omega
theorem cdCnt_le (x y : Int32) : cdCnt x y ≤ 3 := by unfold cdCnt; split <;> omega
theorem dcP_eq {ns : Nat → Nat} {its wss : Nat → Nat → Nat} {sg : Bool} {x y : Int32} {v r r' : Int64} (h0 : cdDec ns its wss x y v = 0) (h1 : dcP (its (fi x)) (ns (fi x)) (wss (fi x) (fi y)) sg (fi y) v r) (h2 : dcP (its (fi x)) (ns (fi x)) (wss (fi x) (fi y)) sg (fi y) v r') : r = r' := by
  unfold cdDec at h0
  by_cases ht : thr wss x y = true
  · rw [if_pos ht] at h0
    by_cases hl : cw_lft (its (fi x)) (ns (fi x)) (wss (fi x)) 6 = 0
    · obtain ⟨f, o, hf, ho, hw1, rfl, rfl⟩ := thr_of ht
      rw [fi_nI (show f < 2 ^ 31 by omega), fi_nI (show o < 2 ^ 31 by omega)] at h1 h2
      rw [fi_nI (show f < 2 ^ 31 by omega)] at hl
      refine bq_ext (fun k hk => ?_)
      obtain ⟨j, hj, hje⟩ := (cw_has_iff _ _ _).mp (lft_0 (it := its f) (n := ns f) (w := wss f) 6 hl o (if k < wss f o then k else wss f o - 1) ho (by split <;> omega))
      rw [h1 k hk j hj hje, h2 k hk j hj hje]
    · rw [if_neg hl] at h0; omega
  · rw [if_neg ht] at h0; omega
section LAWCASES
variable {p : Program} {l : Launch} {e : Env} {s : State} {m : MethodId} {below : List Frame} {meth : Method} {c : Code} {b L : Nat} {xs : Nat → Int32} {dC : Nat → ClassId} {dI : Nat → Nat → Nat} {sa : Nat → Nat} {cR cI cZ cJ : ClassId} {A : Nat → Prop}
variable {ax hfm hq hu : Nat} {ha pw ps po pk : Nat → Nat} {hm ml mw mb ms mn : Nat} {ns : Nat → Nat} {its wss : Nat → Nat → Nat} {sbs : Nat → Nat → Bool} {nu : Nat → Int64} {H : Heap} {locs : List Loc} {cells slots : Nat} {Q : State → Prop} {ls : Array Slot} {i : Nat}
set_option maxHeartbeats 4000000 in
set_option maxRecDepth 100000 in
theorem lc_clear (C : LC p l s m c b L xs dC dI sa cR cI cZ cJ A) (hl : lv_has ls 8 [(0, .ref b), (1, .ref ax), (2, .ref hm), (3, .ref hu), (4, .int (nI i))]) (hi : i + 5 ≤ L) (hI : lI A s.heap dC dI cR cI cZ cJ ax hfm hq hu ha pw ps po pk hm ml mw mb ms mn ns its wss sbs nu H locs) (hcs : cells + 1 ≤ 601024) (hss : slots + 6 ≤ 7293034)
    (kk : ∀ (ns : Nat → Nat) (its wss : Nat → Nat → Nat) (sbs : Nat → Nat → Bool) (nu : Nat → Int64) (H : Heap) (locs : List Loc) (ls : Array Slot), lv_has ls 8 [(0, .ref b), (1, .ref ax), (2, .ref hm), (3, .ref hu), (4, .int (nI i))] → lI A s.heap dC dI cR cI cZ cJ ax hfm hq hu ha pw ps po pk hm ml mw mb ms mn ns its wss sbs nu H locs → W p l e room_1 s m #[Value.ref b] below meth c H locs (cells + 1) (slots + 6) Q (F0 m 1106 ls [])) :
    W p l e room_1 s m #[Value.ref b] below meth c H locs cells slots Q (F0 m 100 ls []) := by
  obtain ⟨hx, hb, hml, hown, hw, hX, hbl, hK, hV, hZ0, hN, hl0, hL, hA, hAn⟩ := C
  have hbA := hAn b hbl
  obtain ⟨wd, sg, ow, co, ou, er, ln, wh, bi, si, hXR, hM, hP, hD, hS⟩ := hI
  have hZ : xZ s H := hZ0.kept (fun z hz => hS.2.1 z hz (hAn z hz))
  refine lv_aload_n hx hb dL_law_100 rfl (lv_at hl 1 rfl) ?_
  refine lv_aload_n hx hb dL_law_101 rfl (lv_at hl 0 rfl) ?_
  refine lv_iload hx hb dL_law_102 (lv_at hl 4 rfl) ?_
  refine lv_iconst (v := nI 1) hx hb dL_law_104 (by decide +kernel) ?_
  refine lv_iadd hx hb dL_law_105 ?_
  refine lv_topi (fun v105 e105 => ?_)
  obtain rfl : v105 = nI (i + 1) := e105.trans (nI_add _ _)
  refine va_sld hx hb hX hbl hbA hS (vp_in_nI (by omega) (by omega)) dL_law_106 ?_
  refine lv_topi (fun v106 e106 => ?_)
  obtain rfl : v106 = xs (i + 1) := e106.trans (by rw [nI_clamp (by omega)])
  have hFc := A_sub (D_left hD) hS hA
  refine va_calli (sw_run (n := 2) (As := [.ref ax, .int (xs (i + 1))]) (rest := []) ⟨hx, hb, hml, hown, hw⟩ (h_clear l hl0 dC dI H.size sa cR cI cZ cJ ax hfm hq hu ha pw ps po pk ns its wss sbs wd sg ow co nu ou hXR (xs (i + 1))) rfl rfl ⟨Nat.le_of_ble_eq_true rfl, Nat.le_of_ble_eq_true rfl⟩ (pay_in hw (gI kw_69)) List.mem_cons_self (hw _ kw_13) (hw _ kw_67) (hw _ kw_68) (by decide +kernel) (xl_preS hK (P_left hP) (D_left hD) hV hZ hN) rfl rfl hl.1 rfl (lv_room (Nat.le_of_ble_eq_true rfl)) dL_law_107 ⟨hcs, hss⟩) hS (fun q _ h => hFc q h) hFc (fun v107 u t H1 locs ht hvm e107 hB hz1 hk1 hS => ?_)
  obtain ⟨wd', sg', ow', co', ou', hXR, hpo, hP1, hK1, hD1⟩ := hB
  rw [ht] at hP1
  obtain ⟨hP, hD⟩ := join_pre hP hD hk1 hFc hP1 hD1
  obtain rfl : v107 = nI (cdClear (xs (i + 1))) := e107
  refine lv_istore hx hb dL_law_110 hl (by decide) rfl (fun ls hl => ?_)
  have hl : lv_has ls 8 [(5, .int (nI (cdClear (xs (i + 1))))), (0, .ref b), (1, .ref ax), (2, .ref hm), (3, .ref hu), (4, .int (nI i))] := hl
  refine lv_aload_n hx hb dL_law_112 rfl (lv_at hl 3 rfl) ?_
  refine lv_aload_n hx hb dL_law_113 rfl (lv_at hl 1 rfl) ?_
  refine lv_iload hx hb dL_law_114 (lv_at hl 5 rfl) ?_
  refine lv_iconst (v := nI 1) hx hb dL_law_116 (by decide +kernel) ?_
  refine lv_iadd hx hb dL_law_117 ?_
  refine lv_topi (fun v117 e117 => ?_)
  obtain rfl : v117 = nI (i + 1) := e117.trans (nI_add _ _)
  refine va_sld hx hb hX hbl hbA hS (vp_in_nI (by omega) (by omega)) dL_law_118 ?_
  refine lv_topi (fun v118 e118 => ?_)
  obtain rfl : v118 = xs (i + 1) := e118.trans (by rw [nI_clamp (by omega)])
  have hFm := A_sub (D_right hD) hS hA
  refine va_callv (va_runV (As := [.int (xs (i + 1))]) (rest := []) ⟨hx, hb, hml, hown, hw⟩ (c_M_clear l dC dI H1.size cI cZ cJ hm ml mw mb ms mn er ln wh bi si nu ns its wss sbs hM (xs (i + 1))) (cwV 1 hw (gV kw_409 kw_410 kw_411 kw_16 kw_412) rfl rfl rfl (by decide +kernel) ⟨Nat.le_of_ble_eq_true rfl, Nat.le_of_ble_eq_true rfl⟩) (rw_preV (q0 := 0) (hK.sub (tys' := [(cI, .int), (cZ, .boolean), (cJ, .long)]) [1, 2, 3] rfl) (P_right hP) (D_right hD) rfl rfl) rfl rfl hl.1 rfl (lv_room (Nat.le_of_ble_eq_true rfl)) dL_law_119 ⟨hcs, hss⟩) hS (fun q _ h => hFm q h) hFm (fun u2 t2 H2 locs ht2 hvm2 e119 hB2 hz2 hk2 hS => ?_)
  obtain ⟨ln', bi', hM, hP2, hK2, hD2⟩ := hB2
  rw [ht2] at hP2
  obtain ⟨hP, hD⟩ := join_suf hP hD hk2 hFm hP2 hD2
  refine lv_aload_n hx hb dL_law_122 rfl (lv_at hl 3 rfl) ?_
  refine vp_callSi (W.runV (As := []) (rest := []) ⟨hx, hb, hml, hown, hw⟩ (c_M_thrown l dC dI cI cZ cJ hm ml mw mb ms mn (nI (cdClear (xs (i + 1)))) ln' wh bi' si nu (stp (cdClear (xs (i + 1))) (va_up ns (fi (xs (i + 1))) 0) ns) its (stp (cdClear (xs (i + 1))) (va_up wss (fi (xs (i + 1))) (fun _ => 0)) wss) sbs hM) (cwV 0 hw (gV kw_405 kw_406 kw_407 kw_16 kw_408) rfl rfl rfl (by decide +kernel) ⟨Nat.le_of_ble_eq_true rfl, Nat.le_of_ble_eq_true rfl⟩) (ro_preV (q0 := 0) (hK.sub (tys' := [(cI, .int), (cZ, .boolean), (cJ, .long)]) [1, 2, 3] rfl) (P_right hP) rfl rfl) rfl rfl hl.1 rfl (lv_room (Nat.le_of_ble_eq_true rfl)) dL_law_123 ⟨hcs, hss⟩) (fun v123 e123 => ?_)
  obtain rfl : v123 = nI (cdClear (xs (i + 1))) := e123
  refine lv_iload hx hb dL_law_126 (lv_at hl 0 rfl) ?_
  refine lv_icmp_eq (tgt := 133) hx hb dL_law_128 (by decide) (fun h128 => ?_) (fun h128 => ?_)
  · refine lv_goto (tgt := 1106) hx hb dL_law_133 (by decide) ?_
    exact kk _ _ _ _ _ _ _ ls (lv_sub (l' := [(0, .ref b), (1, .ref ax), (2, .ref hm), (3, .ref hu), (4, .int (nI i))]) hl [1, 2, 3, 4, 5] rfl) ⟨_, _, _, _, _, _, _, _, _, _, hXR, hM, hP, hD, hS⟩
  · exfalso
    exact h128 rfl

set_option maxHeartbeats 4000000 in
set_option maxRecDepth 100000 in
theorem lc_operand_t (C : LC p l s m c b L xs dC dI sa cR cI cZ cJ A) (hl : lv_has ls 8 [(0, .ref b), (1, .ref ax), (2, .ref hm), (3, .ref hu), (4, .int (nI i))]) (hi : i + 5 ≤ L) (hI : lI A s.heap dC dI cR cI cZ cJ ax hfm hq hu ha pw ps po pk hm ml mw mb ms mn ns its wss sbs nu H locs) (hcs : cells + 1 ≤ 601024) (hss : slots + 6 ≤ 7293034) (h4 : xs (i + 4) = 0)
    (kk : ∀ (ns : Nat → Nat) (its wss : Nat → Nat → Nat) (sbs : Nat → Nat → Bool) (nu : Nat → Int64) (H : Heap) (locs : List Loc) (ls : Array Slot), lv_has ls 8 [(0, .ref b), (1, .ref ax), (2, .ref hm), (3, .ref hu), (4, .int (nI i))] → lI A s.heap dC dI cR cI cZ cJ ax hfm hq hu ha pw ps po pk hm ml mw mb ms mn ns its wss sbs nu H locs → W p l e room_1 s m #[Value.ref b] below meth c H locs (cells + 1) (slots + 6) Q (F0 m 1106 ls [])) :
    W p l e room_1 s m #[Value.ref b] below meth c H locs cells slots Q (F0 m 136 ls []) := by
  obtain ⟨hx, hb, hml, hown, hw, hX, hbl, hK, hV, hZ0, hN, hl0, hL, hA, hAn⟩ := C
  have hbA := hAn b hbl
  obtain ⟨wd, sg, ow, co, ou, er, ln, wh, bi, si, hXR, hM, hP, hD, hS⟩ := hI
  have hZ : xZ s H := hZ0.kept (fun z hz => hS.2.1 z hz (hAn z hz))
  refine lv_aload_n hx hb dL_law_136 rfl (lv_at hl 1 rfl) ?_
  refine lv_aload_n hx hb dL_law_137 rfl (lv_at hl 0 rfl) ?_
  refine lv_iload hx hb dL_law_138 (lv_at hl 4 rfl) ?_
  refine lv_iconst (v := nI 1) hx hb dL_law_140 (by decide +kernel) ?_
  refine lv_iadd hx hb dL_law_141 ?_
  refine lv_topi (fun v141 e141 => ?_)
  obtain rfl : v141 = nI (i + 1) := e141.trans (nI_add _ _)
  refine va_sld hx hb hX hbl hbA hS (vp_in_nI (by omega) (by omega)) dL_law_142 ?_
  refine lv_topi (fun v142 e142 => ?_)
  obtain rfl : v142 = xs (i + 1) := e142.trans (by rw [nI_clamp (by omega)])
  refine lv_aload_n hx hb dL_law_143 rfl (lv_at hl 0 rfl) ?_
  refine lv_iload hx hb dL_law_144 (lv_at hl 4 rfl) ?_
  refine lv_iconst (v := nI 2) hx hb dL_law_146 (by decide +kernel) ?_
  refine lv_iadd hx hb dL_law_147 ?_
  refine lv_topi (fun v147 e147 => ?_)
  obtain rfl : v147 = nI (i + 2) := e147.trans (nI_add _ _)
  refine va_sld hx hb hX hbl hbA hS (vp_in_nI (by omega) (by omega)) dL_law_148 ?_
  refine lv_topi (fun v148 e148 => ?_)
  obtain rfl : v148 = xs (i + 2) := e148.trans (by rw [nI_clamp (by omega)])
  refine lv_aload_n hx hb dL_law_149 rfl (lv_at hl 0 rfl) ?_
  refine lv_iload hx hb dL_law_150 (lv_at hl 4 rfl) ?_
  refine lv_iconst (v := nI 3) hx hb dL_law_152 (by decide +kernel) ?_
  refine lv_iadd hx hb dL_law_153 ?_
  refine lv_topi (fun v153 e153 => ?_)
  obtain rfl : v153 = nI (i + 3) := e153.trans (nI_add _ _)
  refine va_sld hx hb hX hbl hbA hS (vp_in_nI (by omega) (by omega)) dL_law_154 ?_
  refine lv_topi (fun v154 e154 => ?_)
  obtain rfl : v154 = xs (i + 3) := e154.trans (by rw [nI_clamp (by omega)])
  refine lv_aload_n hx hb dL_law_155 rfl (lv_at hl 0 rfl) ?_
  refine lv_iload hx hb dL_law_156 (lv_at hl 4 rfl) ?_
  refine lv_iconst (v := nI 4) hx hb dL_law_158 (by decide +kernel) ?_
  refine lv_iadd hx hb dL_law_159 ?_
  refine lv_topi (fun v159 e159 => ?_)
  obtain rfl : v159 = nI (i + 4) := e159.trans (nI_add _ _)
  refine va_sld hx hb hX hbl hbA hS (vp_in_nI (by omega) (by omega)) dL_law_160 ?_
  refine lv_topi (fun v160 e160 => ?_)
  obtain rfl : v160 = xs (i + 4) := e160.trans (by rw [nI_clamp (by omega)])
  refine lv_if_eq (tgt := 168) hx hb dL_law_161 (by decide) (fun h161 => ?_) (fun h161 => ?_)
  · refine lv_iconst (v := nI 0) hx hb dL_law_168 (by decide +kernel) ?_
    have hFc := A_sub (D_left hD) hS hA
    refine va_calli (sw_run (n := 5) (As := [.ref ax, .int (xs (i + 1)), .int (xs (i + 2)), .int (xs (i + 3)), .int (nI 0)]) (rest := []) ⟨hx, hb, hml, hown, hw⟩ (h_operand l hl0 dC dI H.size sa cR cI cZ cJ ax hfm hq hu ha pw ps po pk ns its wss sbs wd sg ow co nu ou hXR (xs (i + 1)) (xs (i + 2)) (xs (i + 3)) false) rfl rfl ⟨Nat.le_of_ble_eq_true rfl, Nat.le_of_ble_eq_true rfl⟩ (pay_in hw (gI kw_154)) List.mem_cons_self (hw _ kw_13) (hw _ kw_152) (hw _ kw_153) (by decide +kernel) (xl_preS hK (P_left hP) (D_left hD) hV hZ hN) rfl rfl hl.1 rfl (lv_room (Nat.le_of_ble_eq_true rfl)) dL_law_169 ⟨hcs, hss⟩) hS (fun q _ h => hFc q h) hFc (fun v169 u t H1 locs ht hvm e169 hB hz1 hk1 hS => ?_)
    obtain ⟨wd', sg', ow', co', ou', hXR, hpo, hP1, hK1, hD1⟩ := hB
    rw [ht] at hP1
    obtain ⟨hP, hD⟩ := join_pre hP hD hk1 hFc hP1 hD1
    obtain rfl : v169 = nI (cdOper wss (xs (i + 1)) (xs (i + 2)) (xs (i + 3))) := e169
    refine lv_istore hx hb dL_law_172 hl (by decide) rfl (fun ls hl => ?_)
    have hl : lv_has ls 8 [(5, .int (nI (cdOper wss (xs (i + 1)) (xs (i + 2)) (xs (i + 3))))), (0, .ref b), (1, .ref ax), (2, .ref hm), (3, .ref hu), (4, .int (nI i))] := hl
    refine lv_aload_n hx hb dL_law_174 rfl (lv_at hl 3 rfl) ?_
    refine lv_aload_n hx hb dL_law_175 rfl (lv_at hl 1 rfl) ?_
    refine lv_iload hx hb dL_law_176 (lv_at hl 5 rfl) ?_
    refine lv_iconst (v := nI 1) hx hb dL_law_178 (by decide +kernel) ?_
    refine lv_iadd hx hb dL_law_179 ?_
    refine lv_topi (fun v179 e179 => ?_)
    obtain rfl : v179 = nI (i + 1) := e179.trans (nI_add _ _)
    refine va_sld hx hb hX hbl hbA hS (vp_in_nI (by omega) (by omega)) dL_law_180 ?_
    refine lv_topi (fun v180 e180 => ?_)
    obtain rfl : v180 = xs (i + 1) := e180.trans (by rw [nI_clamp (by omega)])
    refine lv_aload_n hx hb dL_law_181 rfl (lv_at hl 1 rfl) ?_
    refine lv_iload hx hb dL_law_182 (lv_at hl 5 rfl) ?_
    refine lv_iconst (v := nI 2) hx hb dL_law_184 (by decide +kernel) ?_
    refine lv_iadd hx hb dL_law_185 ?_
    refine lv_topi (fun v185 e185 => ?_)
    obtain rfl : v185 = nI (i + 2) := e185.trans (nI_add _ _)
    refine va_sld hx hb hX hbl hbA hS (vp_in_nI (by omega) (by omega)) dL_law_186 ?_
    refine lv_topi (fun v186 e186 => ?_)
    obtain rfl : v186 = xs (i + 2) := e186.trans (by rw [nI_clamp (by omega)])
    refine lv_aload_n hx hb dL_law_187 rfl (lv_at hl 1 rfl) ?_
    refine lv_iload hx hb dL_law_188 (lv_at hl 5 rfl) ?_
    refine lv_iconst (v := nI 3) hx hb dL_law_190 (by decide +kernel) ?_
    refine lv_iadd hx hb dL_law_191 ?_
    refine lv_topi (fun v191 e191 => ?_)
    obtain rfl : v191 = nI (i + 3) := e191.trans (nI_add _ _)
    refine va_sld hx hb hX hbl hbA hS (vp_in_nI (by omega) (by omega)) dL_law_192 ?_
    refine lv_topi (fun v192 e192 => ?_)
    obtain rfl : v192 = xs (i + 3) := e192.trans (by rw [nI_clamp (by omega)])
    refine lv_aload_n hx hb dL_law_193 rfl (lv_at hl 1 rfl) ?_
    refine lv_iload hx hb dL_law_194 (lv_at hl 5 rfl) ?_
    refine lv_iconst (v := nI 4) hx hb dL_law_196 (by decide +kernel) ?_
    refine lv_iadd hx hb dL_law_197 ?_
    refine lv_topi (fun v197 e197 => ?_)
    obtain rfl : v197 = nI (i + 4) := e197.trans (nI_add _ _)
    refine va_sld hx hb hX hbl hbA hS (vp_in_nI (by omega) (by omega)) dL_law_198 ?_
    refine lv_topi (fun v198 e198 => ?_)
    obtain rfl : v198 = xs (i + 4) := e198.trans (by rw [nI_clamp (by omega)])
    refine lv_if_eq (tgt := 206) hx hb dL_law_199 (by decide) (fun h199 => ?_) (fun h199 => ?_)
    · refine lv_iconst (v := nI 0) hx hb dL_law_206 (by decide +kernel) ?_
      have hFm := A_sub (D_right hD) hS hA
      refine va_callv (va_runV (As := [.int (xs (i + 1)), .int (xs (i + 2)), .int (xs (i + 3)), .int (nI 0)]) (rest := []) ⟨hx, hb, hml, hown, hw⟩ (c_M_operand l dC dI H1.size cI cZ cJ hm ml mw mb ms mn er ln wh bi si nu ns its wss sbs hM (xs (i + 1)) (xs (i + 2)) (xs (i + 3)) false) (cwV 4 hw (gV kw_424 kw_425 kw_426 kw_16 kw_427) rfl rfl rfl (by decide +kernel) ⟨Nat.le_of_ble_eq_true rfl, Nat.le_of_ble_eq_true rfl⟩) (rw_preV (q0 := 0) (hK.sub (tys' := [(cI, .int), (cZ, .boolean), (cJ, .long)]) [1, 2, 3] rfl) (P_right hP) (D_right hD) rfl rfl) rfl rfl hl.1 rfl (lv_room (Nat.le_of_ble_eq_true rfl)) dL_law_207 ⟨hcs, hss⟩) hS (fun q _ h => hFm q h) hFm (fun u2 t2 H2 locs ht2 hvm2 e207 hB2 hz2 hk2 hS => ?_)
      obtain ⟨bi', si', hM, hP2, hK2, hD2⟩ := hB2
      rw [ht2] at hP2
      obtain ⟨hP, hD⟩ := join_suf hP hD hk2 hFm hP2 hD2
      refine lv_aload_n hx hb dL_law_210 rfl (lv_at hl 3 rfl) ?_
      refine vp_callSi (W.runV (As := []) (rest := []) ⟨hx, hb, hml, hown, hw⟩ (c_M_thrown l dC dI cI cZ cJ hm ml mw mb ms mn (nI (cdOper wss (xs (i + 1)) (xs (i + 2)) (xs (i + 3)))) ln wh bi' si' nu ns its (stp (cdOper wss (xs (i + 1)) (xs (i + 2)) (xs (i + 3))) (va_up wss (fi (xs (i + 1))) (va_up (wss (fi (xs (i + 1)))) (fi (xs (i + 2))) (fi (xs (i + 3))))) wss) (stp (cdOper wss (xs (i + 1)) (xs (i + 2)) (xs (i + 3))) (va_up sbs (fi (xs (i + 1))) (va_up (sbs (fi (xs (i + 1)))) (fi (xs (i + 2))) false)) sbs) hM) (cwV 0 hw (gV kw_405 kw_406 kw_407 kw_16 kw_408) rfl rfl rfl (by decide +kernel) ⟨Nat.le_of_ble_eq_true rfl, Nat.le_of_ble_eq_true rfl⟩) (ro_preV (q0 := 0) (hK.sub (tys' := [(cI, .int), (cZ, .boolean), (cJ, .long)]) [1, 2, 3] rfl) (P_right hP) rfl rfl) rfl rfl hl.1 rfl (lv_room (Nat.le_of_ble_eq_true rfl)) dL_law_211 ⟨hcs, hss⟩) (fun v211 e211 => ?_)
      obtain rfl : v211 = nI (cdOper wss (xs (i + 1)) (xs (i + 2)) (xs (i + 3))) := e211
      refine lv_iload hx hb dL_law_214 (lv_at hl 0 rfl) ?_
      refine lv_icmp_eq (tgt := 221) hx hb dL_law_216 (by decide) (fun h216 => ?_) (fun h216 => ?_)
      · refine lv_goto (tgt := 1106) hx hb dL_law_221 (by decide) ?_
        exact kk _ _ _ _ _ _ _ ls (lv_sub (l' := [(0, .ref b), (1, .ref ax), (2, .ref hm), (3, .ref hu), (4, .int (nI i))]) hl [1, 2, 3, 4, 5] rfl) ⟨_, _, _, _, _, _, _, _, _, _, hXR, hM, hP, hD, hS⟩
      · exfalso
        exact h216 rfl
    · exfalso
      exact h199 h4
  · exfalso
    exact h161 h4

set_option maxHeartbeats 4000000 in
set_option maxRecDepth 100000 in
theorem lc_operand_f (C : LC p l s m c b L xs dC dI sa cR cI cZ cJ A) (hl : lv_has ls 8 [(0, .ref b), (1, .ref ax), (2, .ref hm), (3, .ref hu), (4, .int (nI i))]) (hi : i + 5 ≤ L) (hI : lI A s.heap dC dI cR cI cZ cJ ax hfm hq hu ha pw ps po pk hm ml mw mb ms mn ns its wss sbs nu H locs) (hcs : cells + 1 ≤ 601024) (hss : slots + 6 ≤ 7293034) (h4 : ¬ xs (i + 4) = 0)
    (kk : ∀ (ns : Nat → Nat) (its wss : Nat → Nat → Nat) (sbs : Nat → Nat → Bool) (nu : Nat → Int64) (H : Heap) (locs : List Loc) (ls : Array Slot), lv_has ls 8 [(0, .ref b), (1, .ref ax), (2, .ref hm), (3, .ref hu), (4, .int (nI i))] → lI A s.heap dC dI cR cI cZ cJ ax hfm hq hu ha pw ps po pk hm ml mw mb ms mn ns its wss sbs nu H locs → W p l e room_1 s m #[Value.ref b] below meth c H locs (cells + 1) (slots + 6) Q (F0 m 1106 ls [])) :
    W p l e room_1 s m #[Value.ref b] below meth c H locs cells slots Q (F0 m 136 ls []) := by
  obtain ⟨hx, hb, hml, hown, hw, hX, hbl, hK, hV, hZ0, hN, hl0, hL, hA, hAn⟩ := C
  have hbA := hAn b hbl
  obtain ⟨wd, sg, ow, co, ou, er, ln, wh, bi, si, hXR, hM, hP, hD, hS⟩ := hI
  have hZ : xZ s H := hZ0.kept (fun z hz => hS.2.1 z hz (hAn z hz))
  refine lv_aload_n hx hb dL_law_136 rfl (lv_at hl 1 rfl) ?_
  refine lv_aload_n hx hb dL_law_137 rfl (lv_at hl 0 rfl) ?_
  refine lv_iload hx hb dL_law_138 (lv_at hl 4 rfl) ?_
  refine lv_iconst (v := nI 1) hx hb dL_law_140 (by decide +kernel) ?_
  refine lv_iadd hx hb dL_law_141 ?_
  refine lv_topi (fun v141 e141 => ?_)
  obtain rfl : v141 = nI (i + 1) := e141.trans (nI_add _ _)
  refine va_sld hx hb hX hbl hbA hS (vp_in_nI (by omega) (by omega)) dL_law_142 ?_
  refine lv_topi (fun v142 e142 => ?_)
  obtain rfl : v142 = xs (i + 1) := e142.trans (by rw [nI_clamp (by omega)])
  refine lv_aload_n hx hb dL_law_143 rfl (lv_at hl 0 rfl) ?_
  refine lv_iload hx hb dL_law_144 (lv_at hl 4 rfl) ?_
  refine lv_iconst (v := nI 2) hx hb dL_law_146 (by decide +kernel) ?_
  refine lv_iadd hx hb dL_law_147 ?_
  refine lv_topi (fun v147 e147 => ?_)
  obtain rfl : v147 = nI (i + 2) := e147.trans (nI_add _ _)
  refine va_sld hx hb hX hbl hbA hS (vp_in_nI (by omega) (by omega)) dL_law_148 ?_
  refine lv_topi (fun v148 e148 => ?_)
  obtain rfl : v148 = xs (i + 2) := e148.trans (by rw [nI_clamp (by omega)])
  refine lv_aload_n hx hb dL_law_149 rfl (lv_at hl 0 rfl) ?_
  refine lv_iload hx hb dL_law_150 (lv_at hl 4 rfl) ?_
  refine lv_iconst (v := nI 3) hx hb dL_law_152 (by decide +kernel) ?_
  refine lv_iadd hx hb dL_law_153 ?_
  refine lv_topi (fun v153 e153 => ?_)
  obtain rfl : v153 = nI (i + 3) := e153.trans (nI_add _ _)
  refine va_sld hx hb hX hbl hbA hS (vp_in_nI (by omega) (by omega)) dL_law_154 ?_
  refine lv_topi (fun v154 e154 => ?_)
  obtain rfl : v154 = xs (i + 3) := e154.trans (by rw [nI_clamp (by omega)])
  refine lv_aload_n hx hb dL_law_155 rfl (lv_at hl 0 rfl) ?_
  refine lv_iload hx hb dL_law_156 (lv_at hl 4 rfl) ?_
  refine lv_iconst (v := nI 4) hx hb dL_law_158 (by decide +kernel) ?_
  refine lv_iadd hx hb dL_law_159 ?_
  refine lv_topi (fun v159 e159 => ?_)
  obtain rfl : v159 = nI (i + 4) := e159.trans (nI_add _ _)
  refine va_sld hx hb hX hbl hbA hS (vp_in_nI (by omega) (by omega)) dL_law_160 ?_
  refine lv_topi (fun v160 e160 => ?_)
  obtain rfl : v160 = xs (i + 4) := e160.trans (by rw [nI_clamp (by omega)])
  refine lv_if_eq (tgt := 168) hx hb dL_law_161 (by decide) (fun h161 => ?_) (fun h161 => ?_)
  · exfalso
    exact h4 h161
  · refine lv_iconst (v := nI 1) hx hb dL_law_164 (by decide +kernel) ?_
    refine lv_goto (tgt := 169) hx hb dL_law_165 (by decide) ?_
    have hFc := A_sub (D_left hD) hS hA
    refine va_calli (sw_run (n := 5) (As := [.ref ax, .int (xs (i + 1)), .int (xs (i + 2)), .int (xs (i + 3)), .int (nI 1)]) (rest := []) ⟨hx, hb, hml, hown, hw⟩ (h_operand l hl0 dC dI H.size sa cR cI cZ cJ ax hfm hq hu ha pw ps po pk ns its wss sbs wd sg ow co nu ou hXR (xs (i + 1)) (xs (i + 2)) (xs (i + 3)) true) rfl rfl ⟨Nat.le_of_ble_eq_true rfl, Nat.le_of_ble_eq_true rfl⟩ (pay_in hw (gI kw_154)) List.mem_cons_self (hw _ kw_13) (hw _ kw_152) (hw _ kw_153) (by decide +kernel) (xl_preS hK (P_left hP) (D_left hD) hV hZ hN) rfl rfl hl.1 rfl (lv_room (Nat.le_of_ble_eq_true rfl)) dL_law_169 ⟨hcs, hss⟩) hS (fun q _ h => hFc q h) hFc (fun v169 u t H1 locs ht hvm e169 hB hz1 hk1 hS => ?_)
    obtain ⟨wd', sg', ow', co', ou', hXR, hpo, hP1, hK1, hD1⟩ := hB
    rw [ht] at hP1
    obtain ⟨hP, hD⟩ := join_pre hP hD hk1 hFc hP1 hD1
    obtain rfl : v169 = nI (cdOper wss (xs (i + 1)) (xs (i + 2)) (xs (i + 3))) := e169
    refine lv_istore hx hb dL_law_172 hl (by decide) rfl (fun ls hl => ?_)
    have hl : lv_has ls 8 [(5, .int (nI (cdOper wss (xs (i + 1)) (xs (i + 2)) (xs (i + 3))))), (0, .ref b), (1, .ref ax), (2, .ref hm), (3, .ref hu), (4, .int (nI i))] := hl
    refine lv_aload_n hx hb dL_law_174 rfl (lv_at hl 3 rfl) ?_
    refine lv_aload_n hx hb dL_law_175 rfl (lv_at hl 1 rfl) ?_
    refine lv_iload hx hb dL_law_176 (lv_at hl 5 rfl) ?_
    refine lv_iconst (v := nI 1) hx hb dL_law_178 (by decide +kernel) ?_
    refine lv_iadd hx hb dL_law_179 ?_
    refine lv_topi (fun v179 e179 => ?_)
    obtain rfl : v179 = nI (i + 1) := e179.trans (nI_add _ _)
    refine va_sld hx hb hX hbl hbA hS (vp_in_nI (by omega) (by omega)) dL_law_180 ?_
    refine lv_topi (fun v180 e180 => ?_)
    obtain rfl : v180 = xs (i + 1) := e180.trans (by rw [nI_clamp (by omega)])
    refine lv_aload_n hx hb dL_law_181 rfl (lv_at hl 1 rfl) ?_
    refine lv_iload hx hb dL_law_182 (lv_at hl 5 rfl) ?_
    refine lv_iconst (v := nI 2) hx hb dL_law_184 (by decide +kernel) ?_
    refine lv_iadd hx hb dL_law_185 ?_
    refine lv_topi (fun v185 e185 => ?_)
    obtain rfl : v185 = nI (i + 2) := e185.trans (nI_add _ _)
    refine va_sld hx hb hX hbl hbA hS (vp_in_nI (by omega) (by omega)) dL_law_186 ?_
    refine lv_topi (fun v186 e186 => ?_)
    obtain rfl : v186 = xs (i + 2) := e186.trans (by rw [nI_clamp (by omega)])
    refine lv_aload_n hx hb dL_law_187 rfl (lv_at hl 1 rfl) ?_
    refine lv_iload hx hb dL_law_188 (lv_at hl 5 rfl) ?_
    refine lv_iconst (v := nI 3) hx hb dL_law_190 (by decide +kernel) ?_
    refine lv_iadd hx hb dL_law_191 ?_
    refine lv_topi (fun v191 e191 => ?_)
    obtain rfl : v191 = nI (i + 3) := e191.trans (nI_add _ _)
    refine va_sld hx hb hX hbl hbA hS (vp_in_nI (by omega) (by omega)) dL_law_192 ?_
    refine lv_topi (fun v192 e192 => ?_)
    obtain rfl : v192 = xs (i + 3) := e192.trans (by rw [nI_clamp (by omega)])
    refine lv_aload_n hx hb dL_law_193 rfl (lv_at hl 1 rfl) ?_
    refine lv_iload hx hb dL_law_194 (lv_at hl 5 rfl) ?_
    refine lv_iconst (v := nI 4) hx hb dL_law_196 (by decide +kernel) ?_
    refine lv_iadd hx hb dL_law_197 ?_
    refine lv_topi (fun v197 e197 => ?_)
    obtain rfl : v197 = nI (i + 4) := e197.trans (nI_add _ _)
    refine va_sld hx hb hX hbl hbA hS (vp_in_nI (by omega) (by omega)) dL_law_198 ?_
    refine lv_topi (fun v198 e198 => ?_)
    obtain rfl : v198 = xs (i + 4) := e198.trans (by rw [nI_clamp (by omega)])
    refine lv_if_eq (tgt := 206) hx hb dL_law_199 (by decide) (fun h199 => ?_) (fun h199 => ?_)
    · exfalso
      exact h4 h199
    · refine lv_iconst (v := nI 1) hx hb dL_law_202 (by decide +kernel) ?_
      refine lv_goto (tgt := 207) hx hb dL_law_203 (by decide) ?_
      have hFm := A_sub (D_right hD) hS hA
      refine va_callv (va_runV (As := [.int (xs (i + 1)), .int (xs (i + 2)), .int (xs (i + 3)), .int (nI 1)]) (rest := []) ⟨hx, hb, hml, hown, hw⟩ (c_M_operand l dC dI H1.size cI cZ cJ hm ml mw mb ms mn er ln wh bi si nu ns its wss sbs hM (xs (i + 1)) (xs (i + 2)) (xs (i + 3)) true) (cwV 4 hw (gV kw_424 kw_425 kw_426 kw_16 kw_427) rfl rfl rfl (by decide +kernel) ⟨Nat.le_of_ble_eq_true rfl, Nat.le_of_ble_eq_true rfl⟩) (rw_preV (q0 := 0) (hK.sub (tys' := [(cI, .int), (cZ, .boolean), (cJ, .long)]) [1, 2, 3] rfl) (P_right hP) (D_right hD) rfl rfl) rfl rfl hl.1 rfl (lv_room (Nat.le_of_ble_eq_true rfl)) dL_law_207 ⟨hcs, hss⟩) hS (fun q _ h => hFm q h) hFm (fun u2 t2 H2 locs ht2 hvm2 e207 hB2 hz2 hk2 hS => ?_)
      obtain ⟨bi', si', hM, hP2, hK2, hD2⟩ := hB2
      rw [ht2] at hP2
      obtain ⟨hP, hD⟩ := join_suf hP hD hk2 hFm hP2 hD2
      refine lv_aload_n hx hb dL_law_210 rfl (lv_at hl 3 rfl) ?_
      refine vp_callSi (W.runV (As := []) (rest := []) ⟨hx, hb, hml, hown, hw⟩ (c_M_thrown l dC dI cI cZ cJ hm ml mw mb ms mn (nI (cdOper wss (xs (i + 1)) (xs (i + 2)) (xs (i + 3)))) ln wh bi' si' nu ns its (stp (cdOper wss (xs (i + 1)) (xs (i + 2)) (xs (i + 3))) (va_up wss (fi (xs (i + 1))) (va_up (wss (fi (xs (i + 1)))) (fi (xs (i + 2))) (fi (xs (i + 3))))) wss) (stp (cdOper wss (xs (i + 1)) (xs (i + 2)) (xs (i + 3))) (va_up sbs (fi (xs (i + 1))) (va_up (sbs (fi (xs (i + 1)))) (fi (xs (i + 2))) true)) sbs) hM) (cwV 0 hw (gV kw_405 kw_406 kw_407 kw_16 kw_408) rfl rfl rfl (by decide +kernel) ⟨Nat.le_of_ble_eq_true rfl, Nat.le_of_ble_eq_true rfl⟩) (ro_preV (q0 := 0) (hK.sub (tys' := [(cI, .int), (cZ, .boolean), (cJ, .long)]) [1, 2, 3] rfl) (P_right hP) rfl rfl) rfl rfl hl.1 rfl (lv_room (Nat.le_of_ble_eq_true rfl)) dL_law_211 ⟨hcs, hss⟩) (fun v211 e211 => ?_)
      obtain rfl : v211 = nI (cdOper wss (xs (i + 1)) (xs (i + 2)) (xs (i + 3))) := e211
      refine lv_iload hx hb dL_law_214 (lv_at hl 0 rfl) ?_
      refine lv_icmp_eq (tgt := 221) hx hb dL_law_216 (by decide) (fun h216 => ?_) (fun h216 => ?_)
      · refine lv_goto (tgt := 1106) hx hb dL_law_221 (by decide) ?_
        exact kk _ _ _ _ _ _ _ ls (lv_sub (l' := [(0, .ref b), (1, .ref ax), (2, .ref hm), (3, .ref hu), (4, .int (nI i))]) hl [1, 2, 3, 4, 5] rfl) ⟨_, _, _, _, _, _, _, _, _, _, hXR, hM, hP, hD, hS⟩
      · exfalso
        exact h216 rfl

set_option maxHeartbeats 4000000 in
set_option maxRecDepth 100000 in
theorem lc_fixed (C : LC p l s m c b L xs dC dI sa cR cI cZ cJ A) (hl : lv_has ls 8 [(0, .ref b), (1, .ref ax), (2, .ref hm), (3, .ref hu), (4, .int (nI i))]) (hi : i + 5 ≤ L) (hI : lI A s.heap dC dI cR cI cZ cJ ax hfm hq hu ha pw ps po pk hm ml mw mb ms mn ns its wss sbs nu H locs) (hcs : cells + 1 ≤ 601024) (hss : slots + 6 ≤ 7293034)
    (kk : ∀ (ns : Nat → Nat) (its wss : Nat → Nat → Nat) (sbs : Nat → Nat → Bool) (nu : Nat → Int64) (H : Heap) (locs : List Loc) (ls : Array Slot), lv_has ls 8 [(0, .ref b), (1, .ref ax), (2, .ref hm), (3, .ref hu), (4, .int (nI i))] → lI A s.heap dC dI cR cI cZ cJ ax hfm hq hu ha pw ps po pk hm ml mw mb ms mn ns its wss sbs nu H locs → W p l e room_1 s m #[Value.ref b] below meth c H locs (cells + 1) (slots + 6) Q (F0 m 1106 ls [])) :
    W p l e room_1 s m #[Value.ref b] below meth c H locs cells slots Q (F0 m 224 ls []) := by
  obtain ⟨hx, hb, hml, hown, hw, hX, hbl, hK, hV, hZ0, hN, hl0, hL, hA, hAn⟩ := C
  have hbA := hAn b hbl
  obtain ⟨wd, sg, ow, co, ou, er, ln, wh, bi, si, hXR, hM, hP, hD, hS⟩ := hI
  have hZ : xZ s H := hZ0.kept (fun z hz => hS.2.1 z hz (hAn z hz))
  refine lv_aload_n hx hb dL_law_224 rfl (lv_at hl 1 rfl) ?_
  refine lv_aload_n hx hb dL_law_225 rfl (lv_at hl 0 rfl) ?_
  refine lv_iload hx hb dL_law_226 (lv_at hl 4 rfl) ?_
  refine lv_iconst (v := nI 1) hx hb dL_law_228 (by decide +kernel) ?_
  refine lv_iadd hx hb dL_law_229 ?_
  refine lv_topi (fun v229 e229 => ?_)
  obtain rfl : v229 = nI (i + 1) := e229.trans (nI_add _ _)
  refine va_sld hx hb hX hbl hbA hS (vp_in_nI (by omega) (by omega)) dL_law_230 ?_
  refine lv_topi (fun v230 e230 => ?_)
  obtain rfl : v230 = xs (i + 1) := e230.trans (by rw [nI_clamp (by omega)])
  refine lv_aload_n hx hb dL_law_231 rfl (lv_at hl 0 rfl) ?_
  refine lv_iload hx hb dL_law_232 (lv_at hl 4 rfl) ?_
  refine lv_iconst (v := nI 2) hx hb dL_law_234 (by decide +kernel) ?_
  refine lv_iadd hx hb dL_law_235 ?_
  refine lv_topi (fun v235 e235 => ?_)
  obtain rfl : v235 = nI (i + 2) := e235.trans (nI_add _ _)
  refine va_sld hx hb hX hbl hbA hS (vp_in_nI (by omega) (by omega)) dL_law_236 ?_
  refine lv_topi (fun v236 e236 => ?_)
  obtain rfl : v236 = xs (i + 2) := e236.trans (by rw [nI_clamp (by omega)])
  refine lv_aload_n hx hb dL_law_237 rfl (lv_at hl 0 rfl) ?_
  refine lv_iload hx hb dL_law_238 (lv_at hl 4 rfl) ?_
  refine lv_iconst (v := nI 3) hx hb dL_law_240 (by decide +kernel) ?_
  refine lv_iadd hx hb dL_law_241 ?_
  refine lv_topi (fun v241 e241 => ?_)
  obtain rfl : v241 = nI (i + 3) := e241.trans (nI_add _ _)
  refine va_sld hx hb hX hbl hbA hS (vp_in_nI (by omega) (by omega)) dL_law_242 ?_
  refine lv_topi (fun v242 e242 => ?_)
  obtain rfl : v242 = xs (i + 3) := e242.trans (by rw [nI_clamp (by omega)])
  refine lv_i2l hx hb dL_law_243 rfl ?_
  refine lv_topl (fun v243 e243 => ?_)
  refine lv_bipush (v := nI 32) hx hb dL_law_244 (by decide +kernel) ?_
  refine lv_lshl hx hb dL_law_246 rfl ?_
  refine lv_topl (fun v246 e246 => ?_)
  refine lv_aload_n hx hb dL_law_247 rfl (lv_at hl 0 rfl) ?_
  refine lv_iload hx hb dL_law_248 (lv_at hl 4 rfl) ?_
  refine lv_iconst (v := nI 4) hx hb dL_law_250 (by decide +kernel) ?_
  refine lv_iadd hx hb dL_law_251 ?_
  refine lv_topi (fun v251 e251 => ?_)
  obtain rfl : v251 = nI (i + 4) := e251.trans (nI_add _ _)
  refine va_sld hx hb hX hbl hbA hS (vp_in_nI (by omega) (by omega)) dL_law_252 ?_
  refine lv_topi (fun v252 e252 => ?_)
  obtain rfl : v252 = xs (i + 4) := e252.trans (by rw [nI_clamp (by omega)])
  refine lv_i2l hx hb dL_law_253 rfl ?_
  refine lv_topl (fun v253 e253 => ?_)
  refine lv_ldc2 (v := lN 4294967295) hx hb hown (hw _ kw_505) dL_law_254 ?_
  refine lv_land hx hb dL_law_257 ?_
  refine lv_topl (fun v257 e257 => ?_)
  refine lv_lor hx hb dL_law_258 ?_
  refine lv_topl (fun v258 e258 => ?_)
  obtain rfl : v258 = wdl (xs (i + 3)) (xs (i + 4)) := e258.trans (by rw [e257, e246, e243, e253]; rfl)
  refine lv_aload_n hx hb dL_law_259 rfl (lv_at hl 3 rfl) ?_
  have hFc := A_sub (D_left hD) hS hA
  refine va_calli (sw_run (n := 5) (As := [.ref ax, .int (xs (i + 1)), .int (xs (i + 2)), .long (wdl (xs (i + 3)) (xs (i + 4))), .ref hu]) (rest := []) ⟨hx, hb, hml, hown, hw⟩ (h_fixed l hl0 dC dI H.size sa cR cI cZ cJ ax hfm hq hu ha pw ps po pk ns its wss sbs wd sg ow co nu ou hXR (xs (i + 1)) (xs (i + 2)) (wdl (xs (i + 3)) (xs (i + 4)))) rfl rfl ⟨Nat.le_of_ble_eq_true rfl, Nat.le_of_ble_eq_true rfl⟩ (pay_in hw (gI kw_194)) List.mem_cons_self (hw _ kw_13) (hw _ kw_192) (hw _ kw_193) (by decide +kernel) (xl_preS hK (P_left hP) (D_left hD) hV hZ hN) rfl rfl hl.1 rfl (lv_room (Nat.le_of_ble_eq_true rfl)) dL_law_260 ⟨hcs, hss⟩) hS (fun q _ h => hFc q h) hFc (fun v260 u t H1 locs ht hvm e260 hB hz1 hk1 hS => ?_)
  obtain ⟨wd', sg', ow', co', ou', hXR, hpo, hP1, hK1, hD1⟩ := hB
  rw [ht] at hP1
  obtain ⟨hP, hD⟩ := join_pre hP hD hk1 hFc hP1 hD1
  obtain rfl : v260 = nI (cdFixed ns (xs (i + 1)) (xs (i + 2))) := e260
  refine lv_istore hx hb dL_law_263 hl (by decide) rfl (fun ls hl => ?_)
  have hl : lv_has ls 8 [(5, .int (nI (cdFixed ns (xs (i + 1)) (xs (i + 2))))), (0, .ref b), (1, .ref ax), (2, .ref hm), (3, .ref hu), (4, .int (nI i))] := hl
  refine lv_aload_n hx hb dL_law_265 rfl (lv_at hl 3 rfl) ?_
  refine lv_aload_n hx hb dL_law_266 rfl (lv_at hl 1 rfl) ?_
  refine lv_iload hx hb dL_law_267 (lv_at hl 5 rfl) ?_
  refine lv_iconst (v := nI 1) hx hb dL_law_269 (by decide +kernel) ?_
  refine lv_iadd hx hb dL_law_270 ?_
  refine lv_topi (fun v270 e270 => ?_)
  obtain rfl : v270 = nI (i + 1) := e270.trans (nI_add _ _)
  refine va_sld hx hb hX hbl hbA hS (vp_in_nI (by omega) (by omega)) dL_law_271 ?_
  refine lv_topi (fun v271 e271 => ?_)
  obtain rfl : v271 = xs (i + 1) := e271.trans (by rw [nI_clamp (by omega)])
  refine lv_aload_n hx hb dL_law_272 rfl (lv_at hl 1 rfl) ?_
  refine lv_iload hx hb dL_law_273 (lv_at hl 5 rfl) ?_
  refine lv_iconst (v := nI 2) hx hb dL_law_275 (by decide +kernel) ?_
  refine lv_iadd hx hb dL_law_276 ?_
  refine lv_topi (fun v276 e276 => ?_)
  obtain rfl : v276 = nI (i + 2) := e276.trans (nI_add _ _)
  refine va_sld hx hb hX hbl hbA hS (vp_in_nI (by omega) (by omega)) dL_law_277 ?_
  refine lv_topi (fun v277 e277 => ?_)
  obtain rfl : v277 = xs (i + 2) := e277.trans (by rw [nI_clamp (by omega)])
  refine lv_aload_n hx hb dL_law_278 rfl (lv_at hl 1 rfl) ?_
  refine lv_iload hx hb dL_law_279 (lv_at hl 5 rfl) ?_
  refine lv_iconst (v := nI 3) hx hb dL_law_281 (by decide +kernel) ?_
  refine lv_iadd hx hb dL_law_282 ?_
  refine lv_topi (fun v282 e282 => ?_)
  obtain rfl : v282 = nI (i + 3) := e282.trans (nI_add _ _)
  refine va_sld hx hb hX hbl hbA hS (vp_in_nI (by omega) (by omega)) dL_law_283 ?_
  refine lv_topi (fun v283 e283 => ?_)
  obtain rfl : v283 = xs (i + 3) := e283.trans (by rw [nI_clamp (by omega)])
  refine lv_i2l hx hb dL_law_284 rfl ?_
  refine lv_topl (fun v284 e284 => ?_)
  refine lv_bipush (v := nI 32) hx hb dL_law_285 (by decide +kernel) ?_
  refine lv_lshl hx hb dL_law_287 rfl ?_
  refine lv_topl (fun v287 e287 => ?_)
  refine lv_aload_n hx hb dL_law_288 rfl (lv_at hl 1 rfl) ?_
  refine lv_iload hx hb dL_law_289 (lv_at hl 5 rfl) ?_
  refine lv_iconst (v := nI 4) hx hb dL_law_291 (by decide +kernel) ?_
  refine lv_iadd hx hb dL_law_292 ?_
  refine lv_topi (fun v292 e292 => ?_)
  obtain rfl : v292 = nI (i + 4) := e292.trans (nI_add _ _)
  refine va_sld hx hb hX hbl hbA hS (vp_in_nI (by omega) (by omega)) dL_law_293 ?_
  refine lv_topi (fun v293 e293 => ?_)
  obtain rfl : v293 = xs (i + 4) := e293.trans (by rw [nI_clamp (by omega)])
  refine lv_i2l hx hb dL_law_294 rfl ?_
  refine lv_topl (fun v294 e294 => ?_)
  refine lv_ldc2 (v := lN 4294967295) hx hb hown (hw _ kw_505) dL_law_295 ?_
  refine lv_land hx hb dL_law_298 ?_
  refine lv_topl (fun v298 e298 => ?_)
  refine lv_lor hx hb dL_law_299 ?_
  refine lv_topl (fun v299 e299 => ?_)
  obtain rfl : v299 = wdl (xs (i + 3)) (xs (i + 4)) := e299.trans (by rw [e298, e287, e284, e294]; rfl)
  have hFm := A_sub (D_right hD) hS hA
  refine va_calli (va_runV (As := [.int (xs (i + 1)), .int (xs (i + 2)), .long (wdl (xs (i + 3)) (xs (i + 4)))]) (rest := []) ⟨hx, hb, hml, hown, hw⟩ (c_M_fixed l dC dI H1.size cI cZ cJ hm ml mw mb ms mn er ln wh bi si nu ns its wss sbs hM (xs (i + 1)) (xs (i + 2)) (wdl (xs (i + 3)) (xs (i + 4)))) (cwV 3 hw (gV kw_437 kw_438 kw_439 kw_16 kw_440) rfl rfl rfl (by decide +kernel) ⟨Nat.le_of_ble_eq_true rfl, Nat.le_of_ble_eq_true rfl⟩) (rw_preV (q0 := 0) (hK.sub (tys' := [(cI, .int), (cZ, .boolean), (cJ, .long)]) [1, 2, 3] rfl) (P_right hP) (D_right hD) rfl rfl) rfl rfl hl.1 rfl (lv_room (Nat.le_of_ble_eq_true rfl)) dL_law_300 ⟨hcs, hss⟩) hS (fun q _ h => hFm q h) hFm (fun v300 u2 t2 H2 locs ht2 hvm2 e300 hB2 hz2 hk2 hS => ?_)
  obtain ⟨ln', wh', hM, hP2, hK2, hD2⟩ := hB2
  rw [ht2] at hP2
  obtain ⟨hP, hD⟩ := join_suf hP hD hk2 hFm hP2 hD2
  refine lv_istore hx hb dL_law_303 hl (by decide) rfl (fun ls hl => ?_)
  have hl : lv_has ls 8 [(6, .int v300), (5, .int (nI (cdFixed ns (xs (i + 1)) (xs (i + 2))))), (0, .ref b), (1, .ref ax), (2, .ref hm), (3, .ref hu), (4, .int (nI i))] := hl
  refine lv_aload_n hx hb dL_law_305 rfl (lv_at hl 4 rfl) ?_
  refine vp_callSi (W.runV (As := []) (rest := []) ⟨hx, hb, hml, hown, hw⟩ (c_M_thrown l dC dI cI cZ cJ hm ml mw mb ms mn (nI (cdFixed ns (xs (i + 1)) (xs (i + 2)))) ln' wh' bi si nu (stp (cdFixed ns (xs (i + 1)) (xs (i + 2))) (va_up ns (fi (xs (i + 1))) (ns (fi (xs (i + 1))) + fi (xs (i + 2)))) ns) (stp (cdFixed ns (xs (i + 1)) (xs (i + 2))) (va_up its (fi (xs (i + 1))) (itF (its (fi (xs (i + 1)))) (ns (fi (xs (i + 1)))) (fi (xs (i + 2))) (wdl (xs (i + 3)) (xs (i + 4))))) its) wss sbs hM) (cwV 0 hw (gV kw_405 kw_406 kw_407 kw_16 kw_408) rfl rfl rfl (by decide +kernel) ⟨Nat.le_of_ble_eq_true rfl, Nat.le_of_ble_eq_true rfl⟩) (ro_preV (q0 := 0) (hK.sub (tys' := [(cI, .int), (cZ, .boolean), (cJ, .long)]) [1, 2, 3] rfl) (P_right hP) rfl rfl) rfl rfl hl.1 rfl (lv_room (Nat.le_of_ble_eq_true rfl)) dL_law_306 ⟨hcs, hss⟩) (fun v306 e306 => ?_)
  obtain rfl : v306 = nI (cdFixed ns (xs (i + 1)) (xs (i + 2))) := e306
  refine lv_iload hx hb dL_law_309 (lv_at hl 1 rfl) ?_
  refine lv_icmp_eq (tgt := 316) hx hb dL_law_311 (by decide) (fun h311 => ?_) (fun h311 => ?_)
  · refine lv_iload hx hb dL_law_316 (lv_at hl 1 rfl) ?_
    refine lv_if_ne (tgt := 333) hx hb dL_law_318 (by decide) (fun h318 => ?_) (fun h318 => ?_)
    · refine lv_goto (tgt := 1106) hx hb dL_law_333 (by decide) ?_
      exact kk _ _ _ _ _ _ _ ls (lv_sub (l' := [(0, .ref b), (1, .ref ax), (2, .ref hm), (3, .ref hu), (4, .int (nI i))]) hl [2, 3, 4, 5, 6] rfl) ⟨_, _, _, _, _, _, _, _, _, _, hXR, hM, hP, hD, hS⟩
    · have h0 := cd_z (cdFixed_le _ _ _) h318
      have hq9 := hpo h0
      have hr9 := e300 h0
      refine lv_aload_n hx hb dL_law_321 rfl (lv_at hl 5 rfl) ?_
      refine lv_iconst (v := nI 0) hx hb dL_law_322 (by decide +kernel) ?_
      refine va_lald hx hb hK hP 3 3 rfl rfl (vp_in_nI (by omega) (by decide)) dL_law_323 ?_
      refine lv_topl (fun v323 e323 => ?_)
      obtain rfl : v323 = ou' 0 := e323.trans (by rw [nI_clamp (by omega)])
      refine lv_iload hx hb dL_law_324 (lv_at hl 0 rfl) ?_
      refine lv_i2l hx hb dL_law_326 rfl ?_
      refine lv_topl (fun v326 e326 => ?_)
      refine W.lcmp hx hb dL_law_327 ?_
      refine lv_topi (fun v327 e327 => ?_)
      obtain rfl : v327 = nI 0 := e327.trans ((lg_cmp_eq _ _).mpr (by rw [hq9, e326, hr9]))
      refine lv_if_eq (tgt := 333) hx hb dL_law_328 (by decide) (fun h328 => ?_) (fun h328 => ?_)
      · refine lv_goto (tgt := 1106) hx hb dL_law_333 (by decide) ?_
        exact kk _ _ _ _ _ _ _ ls (lv_sub (l' := [(0, .ref b), (1, .ref ax), (2, .ref hm), (3, .ref hu), (4, .int (nI i))]) hl [2, 3, 4, 5, 6] rfl) ⟨_, _, _, _, _, _, _, _, _, _, hXR, hM, hP, hD, hS⟩
      · exfalso
        first | exact h328 (by decide +kernel) | exact absurd h328 (by decide +kernel)
  · exfalso
    exact h311 rfl

set_option maxHeartbeats 4000000 in
set_option maxRecDepth 100000 in
theorem lc_slice (C : LC p l s m c b L xs dC dI sa cR cI cZ cJ A) (hl : lv_has ls 8 [(0, .ref b), (1, .ref ax), (2, .ref hm), (3, .ref hu), (4, .int (nI i))]) (hi : i + 5 ≤ L) (hI : lI A s.heap dC dI cR cI cZ cJ ax hfm hq hu ha pw ps po pk hm ml mw mb ms mn ns its wss sbs nu H locs) (hcs : cells + 1 ≤ 601024) (hss : slots + 6 ≤ 7293034)
    (kk : ∀ (ns : Nat → Nat) (its wss : Nat → Nat → Nat) (sbs : Nat → Nat → Bool) (nu : Nat → Int64) (H : Heap) (locs : List Loc) (ls : Array Slot), lv_has ls 8 [(0, .ref b), (1, .ref ax), (2, .ref hm), (3, .ref hu), (4, .int (nI i))] → lI A s.heap dC dI cR cI cZ cJ ax hfm hq hu ha pw ps po pk hm ml mw mb ms mn ns its wss sbs nu H locs → W p l e room_1 s m #[Value.ref b] below meth c H locs (cells + 1) (slots + 6) Q (F0 m 1106 ls [])) :
    W p l e room_1 s m #[Value.ref b] below meth c H locs cells slots Q (F0 m 336 ls []) := by
  obtain ⟨hx, hb, hml, hown, hw, hX, hbl, hK, hV, hZ0, hN, hl0, hL, hA, hAn⟩ := C
  have hbA := hAn b hbl
  obtain ⟨wd, sg, ow, co, ou, er, ln, wh, bi, si, hXR, hM, hP, hD, hS⟩ := hI
  have hZ : xZ s H := hZ0.kept (fun z hz => hS.2.1 z hz (hAn z hz))
  refine lv_aload_n hx hb dL_law_336 rfl (lv_at hl 1 rfl) ?_
  refine lv_aload_n hx hb dL_law_337 rfl (lv_at hl 0 rfl) ?_
  refine lv_iload hx hb dL_law_338 (lv_at hl 4 rfl) ?_
  refine lv_iconst (v := nI 1) hx hb dL_law_340 (by decide +kernel) ?_
  refine lv_iadd hx hb dL_law_341 ?_
  refine lv_topi (fun v341 e341 => ?_)
  obtain rfl : v341 = nI (i + 1) := e341.trans (nI_add _ _)
  refine va_sld hx hb hX hbl hbA hS (vp_in_nI (by omega) (by omega)) dL_law_342 ?_
  refine lv_topi (fun v342 e342 => ?_)
  obtain rfl : v342 = xs (i + 1) := e342.trans (by rw [nI_clamp (by omega)])
  refine lv_aload_n hx hb dL_law_343 rfl (lv_at hl 0 rfl) ?_
  refine lv_iload hx hb dL_law_344 (lv_at hl 4 rfl) ?_
  refine lv_iconst (v := nI 2) hx hb dL_law_346 (by decide +kernel) ?_
  refine lv_iadd hx hb dL_law_347 ?_
  refine lv_topi (fun v347 e347 => ?_)
  obtain rfl : v347 = nI (i + 2) := e347.trans (nI_add _ _)
  refine va_sld hx hb hX hbl hbA hS (vp_in_nI (by omega) (by omega)) dL_law_348 ?_
  refine lv_topi (fun v348 e348 => ?_)
  obtain rfl : v348 = xs (i + 2) := e348.trans (by rw [nI_clamp (by omega)])
  refine lv_aload_n hx hb dL_law_349 rfl (lv_at hl 0 rfl) ?_
  refine lv_iload hx hb dL_law_350 (lv_at hl 4 rfl) ?_
  refine lv_iconst (v := nI 3) hx hb dL_law_352 (by decide +kernel) ?_
  refine lv_iadd hx hb dL_law_353 ?_
  refine lv_topi (fun v353 e353 => ?_)
  obtain rfl : v353 = nI (i + 3) := e353.trans (nI_add _ _)
  refine va_sld hx hb hX hbl hbA hS (vp_in_nI (by omega) (by omega)) dL_law_354 ?_
  refine lv_topi (fun v354 e354 => ?_)
  obtain rfl : v354 = xs (i + 3) := e354.trans (by rw [nI_clamp (by omega)])
  refine lv_aload_n hx hb dL_law_355 rfl (lv_at hl 0 rfl) ?_
  refine lv_iload hx hb dL_law_356 (lv_at hl 4 rfl) ?_
  refine lv_iconst (v := nI 4) hx hb dL_law_358 (by decide +kernel) ?_
  refine lv_iadd hx hb dL_law_359 ?_
  refine lv_topi (fun v359 e359 => ?_)
  obtain rfl : v359 = nI (i + 4) := e359.trans (nI_add _ _)
  refine va_sld hx hb hX hbl hbA hS (vp_in_nI (by omega) (by omega)) dL_law_360 ?_
  refine lv_topi (fun v360 e360 => ?_)
  obtain rfl : v360 = xs (i + 4) := e360.trans (by rw [nI_clamp (by omega)])
  refine lv_aload_n hx hb dL_law_361 rfl (lv_at hl 3 rfl) ?_
  have hFc := A_sub (D_left hD) hS hA
  refine va_calli (sw_run (n := 6) (As := [.ref ax, .int (xs (i + 1)), .int (xs (i + 2)), .int (xs (i + 3)), .int (xs (i + 4)), .ref hu]) (rest := []) ⟨hx, hb, hml, hown, hw⟩ (h_slice l hl0 dC dI H.size sa cR cI cZ cJ ax hfm hq hu ha pw ps po pk ns its wss sbs wd sg ow co nu ou hXR (xs (i + 1)) (xs (i + 2)) (xs (i + 3)) (xs (i + 4))) rfl rfl ⟨Nat.le_of_ble_eq_true rfl, Nat.le_of_ble_eq_true rfl⟩ (pay_in hw (gI kw_232)) List.mem_cons_self (hw _ kw_13) (hw _ kw_230) (hw _ kw_231) (by decide +kernel) (xl_preS hK (P_left hP) (D_left hD) hV hZ hN) rfl rfl hl.1 rfl (lv_room (Nat.le_of_ble_eq_true rfl)) dL_law_362 ⟨hcs, hss⟩) hS (fun q _ h => hFc q h) hFc (fun v362 u t H1 locs ht hvm e362 hB hz1 hk1 hS => ?_)
  obtain ⟨wd', sg', ow', co', ou', hXR, hpo, hP1, hK1, hD1⟩ := hB
  rw [ht] at hP1
  obtain ⟨hP, hD⟩ := join_pre hP hD hk1 hFc hP1 hD1
  obtain rfl : v362 = nI (cdSlice ns its wss (xs (i + 1)) (xs (i + 2)) (xs (i + 3)) (xs (i + 4))) := e362
  refine lv_istore hx hb dL_law_365 hl (by decide) rfl (fun ls hl => ?_)
  have hl : lv_has ls 8 [(5, .int (nI (cdSlice ns its wss (xs (i + 1)) (xs (i + 2)) (xs (i + 3)) (xs (i + 4))))), (0, .ref b), (1, .ref ax), (2, .ref hm), (3, .ref hu), (4, .int (nI i))] := hl
  refine lv_aload_n hx hb dL_law_367 rfl (lv_at hl 3 rfl) ?_
  refine lv_aload_n hx hb dL_law_368 rfl (lv_at hl 1 rfl) ?_
  refine lv_iload hx hb dL_law_369 (lv_at hl 5 rfl) ?_
  refine lv_iconst (v := nI 1) hx hb dL_law_371 (by decide +kernel) ?_
  refine lv_iadd hx hb dL_law_372 ?_
  refine lv_topi (fun v372 e372 => ?_)
  obtain rfl : v372 = nI (i + 1) := e372.trans (nI_add _ _)
  refine va_sld hx hb hX hbl hbA hS (vp_in_nI (by omega) (by omega)) dL_law_373 ?_
  refine lv_topi (fun v373 e373 => ?_)
  obtain rfl : v373 = xs (i + 1) := e373.trans (by rw [nI_clamp (by omega)])
  refine lv_aload_n hx hb dL_law_374 rfl (lv_at hl 1 rfl) ?_
  refine lv_iload hx hb dL_law_375 (lv_at hl 5 rfl) ?_
  refine lv_iconst (v := nI 2) hx hb dL_law_377 (by decide +kernel) ?_
  refine lv_iadd hx hb dL_law_378 ?_
  refine lv_topi (fun v378 e378 => ?_)
  obtain rfl : v378 = nI (i + 2) := e378.trans (nI_add _ _)
  refine va_sld hx hb hX hbl hbA hS (vp_in_nI (by omega) (by omega)) dL_law_379 ?_
  refine lv_topi (fun v379 e379 => ?_)
  obtain rfl : v379 = xs (i + 2) := e379.trans (by rw [nI_clamp (by omega)])
  refine lv_aload_n hx hb dL_law_380 rfl (lv_at hl 1 rfl) ?_
  refine lv_iload hx hb dL_law_381 (lv_at hl 5 rfl) ?_
  refine lv_iconst (v := nI 3) hx hb dL_law_383 (by decide +kernel) ?_
  refine lv_iadd hx hb dL_law_384 ?_
  refine lv_topi (fun v384 e384 => ?_)
  obtain rfl : v384 = nI (i + 3) := e384.trans (nI_add _ _)
  refine va_sld hx hb hX hbl hbA hS (vp_in_nI (by omega) (by omega)) dL_law_385 ?_
  refine lv_topi (fun v385 e385 => ?_)
  obtain rfl : v385 = xs (i + 3) := e385.trans (by rw [nI_clamp (by omega)])
  refine lv_aload_n hx hb dL_law_386 rfl (lv_at hl 1 rfl) ?_
  refine lv_iload hx hb dL_law_387 (lv_at hl 5 rfl) ?_
  refine lv_iconst (v := nI 4) hx hb dL_law_389 (by decide +kernel) ?_
  refine lv_iadd hx hb dL_law_390 ?_
  refine lv_topi (fun v390 e390 => ?_)
  obtain rfl : v390 = nI (i + 4) := e390.trans (nI_add _ _)
  refine va_sld hx hb hX hbl hbA hS (vp_in_nI (by omega) (by omega)) dL_law_391 ?_
  refine lv_topi (fun v391 e391 => ?_)
  obtain rfl : v391 = xs (i + 4) := e391.trans (by rw [nI_clamp (by omega)])
  have hFm := A_sub (D_right hD) hS hA
  refine va_calli (va_runV (As := [.int (xs (i + 1)), .int (xs (i + 2)), .int (xs (i + 3)), .int (xs (i + 4))]) (rest := []) ⟨hx, hb, hml, hown, hw⟩ (c_M_slice l dC dI H1.size cI cZ cJ hm ml mw mb ms mn er ln wh bi si nu ns its wss sbs hM (xs (i + 1)) (xs (i + 2)) (xs (i + 3)) (xs (i + 4))) (cwV 4 hw (gV kw_444 kw_445 kw_446 kw_16 kw_447) rfl rfl rfl (by decide +kernel) ⟨Nat.le_of_ble_eq_true rfl, Nat.le_of_ble_eq_true rfl⟩) (rw_preV (q0 := 0) (hK.sub (tys' := [(cI, .int), (cZ, .boolean), (cJ, .long)]) [1, 2, 3] rfl) (P_right hP) (D_right hD) rfl rfl) rfl rfl hl.1 rfl (lv_room (Nat.le_of_ble_eq_true rfl)) dL_law_392 ⟨hcs, hss⟩) hS (fun q _ h => hFm q h) hFm (fun v392 u2 t2 H2 locs ht2 hvm2 e392 hB2 hz2 hk2 hS => ?_)
  obtain ⟨ln', wh', hM, hP2, hK2, hD2⟩ := hB2
  rw [ht2] at hP2
  obtain ⟨hP, hD⟩ := join_suf hP hD hk2 hFm hP2 hD2
  refine lv_istore hx hb dL_law_395 hl (by decide) rfl (fun ls hl => ?_)
  have hl : lv_has ls 8 [(6, .int v392), (5, .int (nI (cdSlice ns its wss (xs (i + 1)) (xs (i + 2)) (xs (i + 3)) (xs (i + 4))))), (0, .ref b), (1, .ref ax), (2, .ref hm), (3, .ref hu), (4, .int (nI i))] := hl
  refine lv_aload_n hx hb dL_law_397 rfl (lv_at hl 4 rfl) ?_
  refine vp_callSi (W.runV (As := []) (rest := []) ⟨hx, hb, hml, hown, hw⟩ (c_M_thrown l dC dI cI cZ cJ hm ml mw mb ms mn (nI (cdSlice ns its wss (xs (i + 1)) (xs (i + 2)) (xs (i + 3)) (xs (i + 4)))) ln' wh' bi si nu (stp (cdSlice ns its wss (xs (i + 1)) (xs (i + 2)) (xs (i + 3)) (xs (i + 4))) (va_up ns (fi (xs (i + 1))) (ns (fi (xs (i + 1))) + (fi (xs (i + 3)) + 1 - fi (xs (i + 4))))) ns) (stp (cdSlice ns its wss (xs (i + 1)) (xs (i + 2)) (xs (i + 3)) (xs (i + 4))) (va_up its (fi (xs (i + 1))) (itS (its (fi (xs (i + 1)))) (ns (fi (xs (i + 1)))) (fi (xs (i + 2))) (fi (xs (i + 3))))) its) wss sbs hM) (cwV 0 hw (gV kw_405 kw_406 kw_407 kw_16 kw_408) rfl rfl rfl (by decide +kernel) ⟨Nat.le_of_ble_eq_true rfl, Nat.le_of_ble_eq_true rfl⟩) (ro_preV (q0 := 0) (hK.sub (tys' := [(cI, .int), (cZ, .boolean), (cJ, .long)]) [1, 2, 3] rfl) (P_right hP) rfl rfl) rfl rfl hl.1 rfl (lv_room (Nat.le_of_ble_eq_true rfl)) dL_law_398 ⟨hcs, hss⟩) (fun v398 e398 => ?_)
  obtain rfl : v398 = nI (cdSlice ns its wss (xs (i + 1)) (xs (i + 2)) (xs (i + 3)) (xs (i + 4))) := e398
  refine lv_iload hx hb dL_law_401 (lv_at hl 1 rfl) ?_
  refine lv_icmp_eq (tgt := 408) hx hb dL_law_403 (by decide) (fun h403 => ?_) (fun h403 => ?_)
  · refine lv_iload hx hb dL_law_408 (lv_at hl 1 rfl) ?_
    refine lv_if_ne (tgt := 425) hx hb dL_law_410 (by decide) (fun h410 => ?_) (fun h410 => ?_)
    · refine lv_goto (tgt := 1106) hx hb dL_law_425 (by decide) ?_
      exact kk _ _ _ _ _ _ _ ls (lv_sub (l' := [(0, .ref b), (1, .ref ax), (2, .ref hm), (3, .ref hu), (4, .int (nI i))]) hl [2, 3, 4, 5, 6] rfl) ⟨_, _, _, _, _, _, _, _, _, _, hXR, hM, hP, hD, hS⟩
    · have h0 := cd_z (cdSlice_le _ _ _ _ _ _ _) h410
      have hq9 := hpo h0
      have hr9 := e392 h0
      refine lv_aload_n hx hb dL_law_413 rfl (lv_at hl 5 rfl) ?_
      refine lv_iconst (v := nI 0) hx hb dL_law_414 (by decide +kernel) ?_
      refine va_lald hx hb hK hP 3 3 rfl rfl (vp_in_nI (by omega) (by decide)) dL_law_415 ?_
      refine lv_topl (fun v415 e415 => ?_)
      obtain rfl : v415 = ou' 0 := e415.trans (by rw [nI_clamp (by omega)])
      refine lv_iload hx hb dL_law_416 (lv_at hl 0 rfl) ?_
      refine lv_i2l hx hb dL_law_418 rfl ?_
      refine lv_topl (fun v418 e418 => ?_)
      refine W.lcmp hx hb dL_law_419 ?_
      refine lv_topi (fun v419 e419 => ?_)
      obtain rfl : v419 = nI 0 := e419.trans ((lg_cmp_eq _ _).mpr (by rw [hq9, e418, hr9]))
      refine lv_if_eq (tgt := 425) hx hb dL_law_420 (by decide) (fun h420 => ?_) (fun h420 => ?_)
      · refine lv_goto (tgt := 1106) hx hb dL_law_425 (by decide) ?_
        exact kk _ _ _ _ _ _ _ ls (lv_sub (l' := [(0, .ref b), (1, .ref ax), (2, .ref hm), (3, .ref hu), (4, .int (nI i))]) hl [2, 3, 4, 5, 6] rfl) ⟨_, _, _, _, _, _, _, _, _, _, hXR, hM, hP, hD, hS⟩
      · exfalso
        first | exact h420 (by decide +kernel) | exact absurd h420 (by decide +kernel)
  · exfalso
    exact h403 rfl

set_option maxHeartbeats 4000000 in
set_option maxRecDepth 100000 in
theorem lc_whole (C : LC p l s m c b L xs dC dI sa cR cI cZ cJ A) (hl : lv_has ls 8 [(0, .ref b), (1, .ref ax), (2, .ref hm), (3, .ref hu), (4, .int (nI i))]) (hi : i + 5 ≤ L) (hI : lI A s.heap dC dI cR cI cZ cJ ax hfm hq hu ha pw ps po pk hm ml mw mb ms mn ns its wss sbs nu H locs) (hcs : cells + 1 ≤ 601024) (hss : slots + 6 ≤ 7293034)
    (kk : ∀ (ns : Nat → Nat) (its wss : Nat → Nat → Nat) (sbs : Nat → Nat → Bool) (nu : Nat → Int64) (H : Heap) (locs : List Loc) (ls : Array Slot), lv_has ls 8 [(0, .ref b), (1, .ref ax), (2, .ref hm), (3, .ref hu), (4, .int (nI i))] → lI A s.heap dC dI cR cI cZ cJ ax hfm hq hu ha pw ps po pk hm ml mw mb ms mn ns its wss sbs nu H locs → W p l e room_1 s m #[Value.ref b] below meth c H locs (cells + 1) (slots + 6) Q (F0 m 1106 ls [])) :
    W p l e room_1 s m #[Value.ref b] below meth c H locs cells slots Q (F0 m 428 ls []) := by
  obtain ⟨hx, hb, hml, hown, hw, hX, hbl, hK, hV, hZ0, hN, hl0, hL, hA, hAn⟩ := C
  have hbA := hAn b hbl
  obtain ⟨wd, sg, ow, co, ou, er, ln, wh, bi, si, hXR, hM, hP, hD, hS⟩ := hI
  have hZ : xZ s H := hZ0.kept (fun z hz => hS.2.1 z hz (hAn z hz))
  refine lv_aload_n hx hb dL_law_428 rfl (lv_at hl 1 rfl) ?_
  refine lv_aload_n hx hb dL_law_429 rfl (lv_at hl 0 rfl) ?_
  refine lv_iload hx hb dL_law_430 (lv_at hl 4 rfl) ?_
  refine lv_iconst (v := nI 1) hx hb dL_law_432 (by decide +kernel) ?_
  refine lv_iadd hx hb dL_law_433 ?_
  refine lv_topi (fun v433 e433 => ?_)
  obtain rfl : v433 = nI (i + 1) := e433.trans (nI_add _ _)
  refine va_sld hx hb hX hbl hbA hS (vp_in_nI (by omega) (by omega)) dL_law_434 ?_
  refine lv_topi (fun v434 e434 => ?_)
  obtain rfl : v434 = xs (i + 1) := e434.trans (by rw [nI_clamp (by omega)])
  refine lv_aload_n hx hb dL_law_435 rfl (lv_at hl 3 rfl) ?_
  have hFc := A_sub (D_left hD) hS hA
  refine va_calli (sw_run (n := 3) (As := [.ref ax, .int (xs (i + 1)), .ref hu]) (rest := []) ⟨hx, hb, hml, hown, hw⟩ (h_whole l hl0 dC dI H.size sa cR cI cZ cJ ax hfm hq hu ha pw ps po pk ns its wss sbs wd sg ow co nu ou hXR (xs (i + 1))) rfl rfl ⟨Nat.le_of_ble_eq_true rfl, Nat.le_of_ble_eq_true rfl⟩ (pay_in hw (gI kw_255)) List.mem_cons_self (hw _ kw_13) (hw _ kw_253) (hw _ kw_254) (by decide +kernel) (xl_preS hK (P_left hP) (D_left hD) hV hZ hN) rfl rfl hl.1 rfl (lv_room (Nat.le_of_ble_eq_true rfl)) dL_law_436 ⟨hcs, hss⟩) hS (fun q _ h => hFc q h) hFc (fun v436 u t H1 locs ht hvm e436 hB hz1 hk1 hS => ?_)
  obtain ⟨wd', sg', ow', co', ou', hXR, hpo, hP1, hK1, hD1⟩ := hB
  rw [ht] at hP1
  obtain ⟨hP, hD⟩ := join_pre hP hD hk1 hFc hP1 hD1
  obtain rfl : v436 = nI (cdClear (xs (i + 1))) := e436
  refine lv_istore hx hb dL_law_439 hl (by decide) rfl (fun ls hl => ?_)
  have hl : lv_has ls 8 [(5, .int (nI (cdClear (xs (i + 1))))), (0, .ref b), (1, .ref ax), (2, .ref hm), (3, .ref hu), (4, .int (nI i))] := hl
  refine lv_aload_n hx hb dL_law_441 rfl (lv_at hl 3 rfl) ?_
  refine lv_aload_n hx hb dL_law_442 rfl (lv_at hl 1 rfl) ?_
  refine lv_iload hx hb dL_law_443 (lv_at hl 5 rfl) ?_
  refine lv_iconst (v := nI 1) hx hb dL_law_445 (by decide +kernel) ?_
  refine lv_iadd hx hb dL_law_446 ?_
  refine lv_topi (fun v446 e446 => ?_)
  obtain rfl : v446 = nI (i + 1) := e446.trans (nI_add _ _)
  refine va_sld hx hb hX hbl hbA hS (vp_in_nI (by omega) (by omega)) dL_law_447 ?_
  refine lv_topi (fun v447 e447 => ?_)
  obtain rfl : v447 = xs (i + 1) := e447.trans (by rw [nI_clamp (by omega)])
  have hFm := A_sub (D_right hD) hS hA
  refine va_calli (va_runV (As := [.int (xs (i + 1))]) (rest := []) ⟨hx, hb, hml, hown, hw⟩ (c_M_whole l dC dI H1.size cI cZ cJ hm ml mw mb ms mn er ln wh bi si nu ns its wss sbs hM (xs (i + 1))) (cwV 1 hw (gV kw_456 kw_457 kw_458 kw_16 kw_459) rfl rfl rfl (by decide +kernel) ⟨Nat.le_of_ble_eq_true rfl, Nat.le_of_ble_eq_true rfl⟩) (rw_preV (q0 := 0) (hK.sub (tys' := [(cI, .int), (cZ, .boolean), (cJ, .long)]) [1, 2, 3] rfl) (P_right hP) (D_right hD) rfl rfl) rfl rfl hl.1 rfl (lv_room (Nat.le_of_ble_eq_true rfl)) dL_law_448 ⟨hcs, hss⟩) hS (fun q _ h => hFm q h) hFm (fun v448 u2 t2 H2 locs ht2 hvm2 e448 hB2 hz2 hk2 hS => ?_)
  obtain ⟨hP2, hK2, hD2⟩ := hB2
  rw [ht2] at hP2
  obtain ⟨hP, hD⟩ := join_suf hP hD hk2 hFm hP2 hD2
  refine lv_istore hx hb dL_law_451 hl (by decide) rfl (fun ls hl => ?_)
  have hl : lv_has ls 8 [(6, .int v448), (5, .int (nI (cdClear (xs (i + 1))))), (0, .ref b), (1, .ref ax), (2, .ref hm), (3, .ref hu), (4, .int (nI i))] := hl
  refine lv_aload_n hx hb dL_law_453 rfl (lv_at hl 4 rfl) ?_
  refine vp_callSi (W.runV (As := []) (rest := []) ⟨hx, hb, hml, hown, hw⟩ (c_M_thrown l dC dI cI cZ cJ hm ml mw mb ms mn (nI (cdClear (xs (i + 1)))) ln wh bi si nu ns its wss sbs hM) (cwV 0 hw (gV kw_405 kw_406 kw_407 kw_16 kw_408) rfl rfl rfl (by decide +kernel) ⟨Nat.le_of_ble_eq_true rfl, Nat.le_of_ble_eq_true rfl⟩) (ro_preV (q0 := 0) (hK.sub (tys' := [(cI, .int), (cZ, .boolean), (cJ, .long)]) [1, 2, 3] rfl) (P_right hP) rfl rfl) rfl rfl hl.1 rfl (lv_room (Nat.le_of_ble_eq_true rfl)) dL_law_454 ⟨hcs, hss⟩) (fun v454 e454 => ?_)
  obtain rfl : v454 = nI (cdClear (xs (i + 1))) := e454
  refine lv_iload hx hb dL_law_457 (lv_at hl 1 rfl) ?_
  refine lv_icmp_eq (tgt := 464) hx hb dL_law_459 (by decide) (fun h459 => ?_) (fun h459 => ?_)
  · refine lv_iload hx hb dL_law_464 (lv_at hl 1 rfl) ?_
    refine lv_if_ne (tgt := 488) hx hb dL_law_466 (by decide) (fun h466 => ?_) (fun h466 => ?_)
    · refine lv_goto (tgt := 1106) hx hb dL_law_488 (by decide) ?_
      exact kk _ _ _ _ _ _ _ ls (lv_sub (l' := [(0, .ref b), (1, .ref ax), (2, .ref hm), (3, .ref hu), (4, .int (nI i))]) hl [2, 3, 4, 5, 6] rfl) ⟨_, _, _, _, _, _, _, _, _, _, hXR, hM, hP, hD, hS⟩
    · have h0 := cd_z (cdClear_le _) h466
      have hq9 := hpo h0
      have hr9 := e448 h0
      refine lv_aload_n hx hb dL_law_469 rfl (lv_at hl 5 rfl) ?_
      refine lv_iconst (v := nI 0) hx hb dL_law_470 (by decide +kernel) ?_
      refine va_lald hx hb hK hP 3 3 rfl rfl (vp_in_nI (by omega) (by decide)) dL_law_471 ?_
      refine lv_topl (fun v471 e471 => ?_)
      obtain rfl : v471 = ou' 0 := e471.trans (by rw [nI_clamp (by omega)])
      refine lv_iload hx hb dL_law_472 (lv_at hl 0 rfl) ?_
      refine lv_if_eq (tgt := 481) hx hb dL_law_474 (by decide) (fun h474 => ?_) (fun h474 => ?_)
      · refine lv_lconst (v := lN 0) hx hb dL_law_481 (by decide +kernel) ?_
        refine W.lcmp hx hb dL_law_482 ?_
        refine lv_topi (fun v482 e482 => ?_)
        obtain rfl : v482 = nI 0 := e482.trans ((lg_cmp_eq _ _).mpr (by first | (rw [hq9, (b_nat0 _).mp (hr9.symm.trans h474)]; rfl) | (rw [hq9, b_nf (fun q => h474 (hr9.trans q))]; rfl)))
        refine lv_if_eq (tgt := 488) hx hb dL_law_483 (by decide) (fun h483 => ?_) (fun h483 => ?_)
        · refine lv_goto (tgt := 1106) hx hb dL_law_488 (by decide) ?_
          exact kk _ _ _ _ _ _ _ ls (lv_sub (l' := [(0, .ref b), (1, .ref ax), (2, .ref hm), (3, .ref hu), (4, .int (nI i))]) hl [2, 3, 4, 5, 6] rfl) ⟨_, _, _, _, _, _, _, _, _, _, hXR, hM, hP, hD, hS⟩
        · exfalso
          first | exact h483 (by decide +kernel) | exact absurd h483 (by decide +kernel)
      · refine lv_lconst (v := lN 1) hx hb dL_law_477 (by decide +kernel) ?_
        refine lv_goto (tgt := 482) hx hb dL_law_478 (by decide) ?_
        refine W.lcmp hx hb dL_law_482 ?_
        refine lv_topi (fun v482 e482 => ?_)
        obtain rfl : v482 = nI 0 := e482.trans ((lg_cmp_eq _ _).mpr (by first | (rw [hq9, (b_nat0 _).mp (hr9.symm.trans h474)]; rfl) | (rw [hq9, b_nf (fun q => h474 (hr9.trans q))]; rfl)))
        refine lv_if_eq (tgt := 488) hx hb dL_law_483 (by decide) (fun h483 => ?_) (fun h483 => ?_)
        · refine lv_goto (tgt := 1106) hx hb dL_law_488 (by decide) ?_
          exact kk _ _ _ _ _ _ _ ls (lv_sub (l' := [(0, .ref b), (1, .ref ax), (2, .ref hm), (3, .ref hu), (4, .int (nI i))]) hl [2, 3, 4, 5, 6] rfl) ⟨_, _, _, _, _, _, _, _, _, _, hXR, hM, hP, hD, hS⟩
        · exfalso
          first | exact h483 (by decide +kernel) | exact absurd h483 (by decide +kernel)
  · exfalso
    exact h459 rfl

set_option maxHeartbeats 4000000 in
set_option maxRecDepth 100000 in
theorem lc_number (C : LC p l s m c b L xs dC dI sa cR cI cZ cJ A) (hl : lv_has ls 8 [(0, .ref b), (1, .ref ax), (2, .ref hm), (3, .ref hu), (4, .int (nI i))]) (hi : i + 5 ≤ L) (hI : lI A s.heap dC dI cR cI cZ cJ ax hfm hq hu ha pw ps po pk hm ml mw mb ms mn ns its wss sbs nu H locs) (hcs : cells + 1 ≤ 601024) (hss : slots + 6 ≤ 7293034)
    (kk : ∀ (ns : Nat → Nat) (its wss : Nat → Nat → Nat) (sbs : Nat → Nat → Bool) (nu : Nat → Int64) (H : Heap) (locs : List Loc) (ls : Array Slot), lv_has ls 8 [(0, .ref b), (1, .ref ax), (2, .ref hm), (3, .ref hu), (4, .int (nI i))] → lI A s.heap dC dI cR cI cZ cJ ax hfm hq hu ha pw ps po pk hm ml mw mb ms mn ns its wss sbs nu H locs → W p l e room_1 s m #[Value.ref b] below meth c H locs (cells + 1) (slots + 6) Q (F0 m 1106 ls [])) :
    W p l e room_1 s m #[Value.ref b] below meth c H locs cells slots Q (F0 m 491 ls []) := by
  obtain ⟨hx, hb, hml, hown, hw, hX, hbl, hK, hV, hZ0, hN, hl0, hL, hA, hAn⟩ := C
  have hbA := hAn b hbl
  obtain ⟨wd, sg, ow, co, ou, er, ln, wh, bi, si, hXR, hM, hP, hD, hS⟩ := hI
  have hZ : xZ s H := hZ0.kept (fun z hz => hS.2.1 z hz (hAn z hz))
  refine lv_aload_n hx hb dL_law_491 rfl (lv_at hl 1 rfl) ?_
  refine lv_aload_n hx hb dL_law_492 rfl (lv_at hl 0 rfl) ?_
  refine lv_iload hx hb dL_law_493 (lv_at hl 4 rfl) ?_
  refine lv_iconst (v := nI 1) hx hb dL_law_495 (by decide +kernel) ?_
  refine lv_iadd hx hb dL_law_496 ?_
  refine lv_topi (fun v496 e496 => ?_)
  obtain rfl : v496 = nI (i + 1) := e496.trans (nI_add _ _)
  refine va_sld hx hb hX hbl hbA hS (vp_in_nI (by omega) (by omega)) dL_law_497 ?_
  refine lv_topi (fun v497 e497 => ?_)
  obtain rfl : v497 = xs (i + 1) := e497.trans (by rw [nI_clamp (by omega)])
  refine lv_aload_n hx hb dL_law_498 rfl (lv_at hl 0 rfl) ?_
  refine lv_iload hx hb dL_law_499 (lv_at hl 4 rfl) ?_
  refine lv_iconst (v := nI 2) hx hb dL_law_501 (by decide +kernel) ?_
  refine lv_iadd hx hb dL_law_502 ?_
  refine lv_topi (fun v502 e502 => ?_)
  obtain rfl : v502 = nI (i + 2) := e502.trans (nI_add _ _)
  refine va_sld hx hb hX hbl hbA hS (vp_in_nI (by omega) (by omega)) dL_law_503 ?_
  refine lv_topi (fun v503 e503 => ?_)
  obtain rfl : v503 = xs (i + 2) := e503.trans (by rw [nI_clamp (by omega)])
  refine lv_i2l hx hb dL_law_504 rfl ?_
  refine lv_topl (fun v504 e504 => ?_)
  refine lv_bipush (v := nI 32) hx hb dL_law_505 (by decide +kernel) ?_
  refine lv_lshl hx hb dL_law_507 rfl ?_
  refine lv_topl (fun v507 e507 => ?_)
  refine lv_aload_n hx hb dL_law_508 rfl (lv_at hl 0 rfl) ?_
  refine lv_iload hx hb dL_law_509 (lv_at hl 4 rfl) ?_
  refine lv_iconst (v := nI 3) hx hb dL_law_511 (by decide +kernel) ?_
  refine lv_iadd hx hb dL_law_512 ?_
  refine lv_topi (fun v512 e512 => ?_)
  obtain rfl : v512 = nI (i + 3) := e512.trans (nI_add _ _)
  refine va_sld hx hb hX hbl hbA hS (vp_in_nI (by omega) (by omega)) dL_law_513 ?_
  refine lv_topi (fun v513 e513 => ?_)
  obtain rfl : v513 = xs (i + 3) := e513.trans (by rw [nI_clamp (by omega)])
  refine lv_i2l hx hb dL_law_514 rfl ?_
  refine lv_topl (fun v514 e514 => ?_)
  refine lv_ldc2 (v := lN 4294967295) hx hb hown (hw _ kw_505) dL_law_515 ?_
  refine lv_land hx hb dL_law_518 ?_
  refine lv_topl (fun v518 e518 => ?_)
  refine lv_lor hx hb dL_law_519 ?_
  refine lv_topl (fun v519 e519 => ?_)
  obtain rfl : v519 = wdl (xs (i + 2)) (xs (i + 3)) := e519.trans (by rw [e518, e507, e504, e514]; rfl)
  have hFc := A_sub (D_left hD) hS hA
  refine va_calli (sw_run (n := 3) (As := [.ref ax, .int (xs (i + 1)), .long (wdl (xs (i + 2)) (xs (i + 3)))]) (rest := []) ⟨hx, hb, hml, hown, hw⟩ (h_number l hl0 dC dI H.size sa cR cI cZ cJ ax hfm hq hu ha pw ps po pk ns its wss sbs wd sg ow co nu ou hXR (xs (i + 1)) (wdl (xs (i + 2)) (xs (i + 3)))) rfl rfl ⟨Nat.le_of_ble_eq_true rfl, Nat.le_of_ble_eq_true rfl⟩ (pay_in hw (gI kw_274)) List.mem_cons_self (hw _ kw_13) (hw _ kw_272) (hw _ kw_273) (by decide +kernel) (xl_preS hK (P_left hP) (D_left hD) hV hZ hN) rfl rfl hl.1 rfl (lv_room (Nat.le_of_ble_eq_true rfl)) dL_law_520 ⟨hcs, hss⟩) hS (fun q _ h => hFc q h) hFc (fun v520 u t H1 locs ht hvm e520 hB hz1 hk1 hS => ?_)
  obtain ⟨wd', sg', ow', co', ou', hXR, hpo, hP1, hK1, hD1⟩ := hB
  rw [ht] at hP1
  obtain ⟨hP, hD⟩ := join_pre hP hD hk1 hFc hP1 hD1
  obtain rfl : v520 = nI (cdNum (xs (i + 1))) := e520
  refine lv_istore hx hb dL_law_523 hl (by decide) rfl (fun ls hl => ?_)
  have hl : lv_has ls 8 [(5, .int (nI (cdNum (xs (i + 1))))), (0, .ref b), (1, .ref ax), (2, .ref hm), (3, .ref hu), (4, .int (nI i))] := hl
  refine lv_aload_n hx hb dL_law_525 rfl (lv_at hl 3 rfl) ?_
  refine lv_aload_n hx hb dL_law_526 rfl (lv_at hl 1 rfl) ?_
  refine lv_iload hx hb dL_law_527 (lv_at hl 5 rfl) ?_
  refine lv_iconst (v := nI 1) hx hb dL_law_529 (by decide +kernel) ?_
  refine lv_iadd hx hb dL_law_530 ?_
  refine lv_topi (fun v530 e530 => ?_)
  obtain rfl : v530 = nI (i + 1) := e530.trans (nI_add _ _)
  refine va_sld hx hb hX hbl hbA hS (vp_in_nI (by omega) (by omega)) dL_law_531 ?_
  refine lv_topi (fun v531 e531 => ?_)
  obtain rfl : v531 = xs (i + 1) := e531.trans (by rw [nI_clamp (by omega)])
  refine lv_aload_n hx hb dL_law_532 rfl (lv_at hl 1 rfl) ?_
  refine lv_iload hx hb dL_law_533 (lv_at hl 5 rfl) ?_
  refine lv_iconst (v := nI 2) hx hb dL_law_535 (by decide +kernel) ?_
  refine lv_iadd hx hb dL_law_536 ?_
  refine lv_topi (fun v536 e536 => ?_)
  obtain rfl : v536 = nI (i + 2) := e536.trans (nI_add _ _)
  refine va_sld hx hb hX hbl hbA hS (vp_in_nI (by omega) (by omega)) dL_law_537 ?_
  refine lv_topi (fun v537 e537 => ?_)
  obtain rfl : v537 = xs (i + 2) := e537.trans (by rw [nI_clamp (by omega)])
  refine lv_i2l hx hb dL_law_538 rfl ?_
  refine lv_topl (fun v538 e538 => ?_)
  refine lv_bipush (v := nI 32) hx hb dL_law_539 (by decide +kernel) ?_
  refine lv_lshl hx hb dL_law_541 rfl ?_
  refine lv_topl (fun v541 e541 => ?_)
  refine lv_aload_n hx hb dL_law_542 rfl (lv_at hl 1 rfl) ?_
  refine lv_iload hx hb dL_law_543 (lv_at hl 5 rfl) ?_
  refine lv_iconst (v := nI 3) hx hb dL_law_545 (by decide +kernel) ?_
  refine lv_iadd hx hb dL_law_546 ?_
  refine lv_topi (fun v546 e546 => ?_)
  obtain rfl : v546 = nI (i + 3) := e546.trans (nI_add _ _)
  refine va_sld hx hb hX hbl hbA hS (vp_in_nI (by omega) (by omega)) dL_law_547 ?_
  refine lv_topi (fun v547 e547 => ?_)
  obtain rfl : v547 = xs (i + 3) := e547.trans (by rw [nI_clamp (by omega)])
  refine lv_i2l hx hb dL_law_548 rfl ?_
  refine lv_topl (fun v548 e548 => ?_)
  refine lv_ldc2 (v := lN 4294967295) hx hb hown (hw _ kw_505) dL_law_549 ?_
  refine lv_land hx hb dL_law_552 ?_
  refine lv_topl (fun v552 e552 => ?_)
  refine lv_lor hx hb dL_law_553 ?_
  refine lv_topl (fun v553 e553 => ?_)
  obtain rfl : v553 = wdl (xs (i + 2)) (xs (i + 3)) := e553.trans (by rw [e552, e541, e538, e548]; rfl)
  have hFm := A_sub (D_right hD) hS hA
  refine va_callv (va_runV (As := [.int (xs (i + 1)), .long (wdl (xs (i + 2)) (xs (i + 3)))]) (rest := []) ⟨hx, hb, hml, hown, hw⟩ (c_M_number l dC dI H1.size cI cZ cJ hm ml mw mb ms mn er ln wh bi si nu ns its wss sbs hM (xs (i + 1)) (wdl (xs (i + 2)) (xs (i + 3)))) (cwV 2 hw (gV kw_464 kw_465 kw_466 kw_16 kw_467) rfl rfl rfl (by decide +kernel) ⟨Nat.le_of_ble_eq_true rfl, Nat.le_of_ble_eq_true rfl⟩) (rw_preV (q0 := 0) (hK.sub (tys' := [(cI, .int), (cZ, .boolean), (cJ, .long)]) [1, 2, 3] rfl) (P_right hP) (D_right hD) rfl rfl) rfl rfl hl.1 rfl (lv_room (Nat.le_of_ble_eq_true rfl)) dL_law_554 ⟨hcs, hss⟩) hS (fun q _ h => hFm q h) hFm (fun u2 t2 H2 locs ht2 hvm2 e554 hB2 hz2 hk2 hS => ?_)
  obtain ⟨hP2, hK2, hD2⟩ := hB2
  rw [ht2] at hP2
  obtain ⟨hP, hD⟩ := join_suf hP hD hk2 hFm hP2 hD2
  refine lv_aload_n hx hb dL_law_557 rfl (lv_at hl 3 rfl) ?_
  refine vp_callSi (W.runV (As := []) (rest := []) ⟨hx, hb, hml, hown, hw⟩ (c_M_thrown l dC dI cI cZ cJ hm ml mw mb ms mn (nI (cdNum (xs (i + 1)))) ln wh bi si (stp (cdNum (xs (i + 1))) (vp_updL nu (fi (xs (i + 1))) (wdl (xs (i + 2)) (xs (i + 3)))) nu) ns its wss sbs hM) (cwV 0 hw (gV kw_405 kw_406 kw_407 kw_16 kw_408) rfl rfl rfl (by decide +kernel) ⟨Nat.le_of_ble_eq_true rfl, Nat.le_of_ble_eq_true rfl⟩) (ro_preV (q0 := 0) (hK.sub (tys' := [(cI, .int), (cZ, .boolean), (cJ, .long)]) [1, 2, 3] rfl) (P_right hP) rfl rfl) rfl rfl hl.1 rfl (lv_room (Nat.le_of_ble_eq_true rfl)) dL_law_558 ⟨hcs, hss⟩) (fun v558 e558 => ?_)
  obtain rfl : v558 = nI (cdNum (xs (i + 1))) := e558
  refine lv_iload hx hb dL_law_561 (lv_at hl 0 rfl) ?_
  refine lv_icmp_eq (tgt := 568) hx hb dL_law_563 (by decide) (fun h563 => ?_) (fun h563 => ?_)
  · refine lv_goto (tgt := 1106) hx hb dL_law_568 (by decide) ?_
    exact kk _ _ _ _ _ _ _ ls (lv_sub (l' := [(0, .ref b), (1, .ref ax), (2, .ref hm), (3, .ref hu), (4, .int (nI i))]) hl [1, 2, 3, 4, 5] rfl) ⟨_, _, _, _, _, _, _, _, _, _, hXR, hM, hP, hD, hS⟩
  · exfalso
    exact h563 rfl

set_option maxHeartbeats 4000000 in
set_option maxRecDepth 100000 in
theorem lc_fits (C : LC p l s m c b L xs dC dI sa cR cI cZ cJ A) (hl : lv_has ls 8 [(0, .ref b), (1, .ref ax), (2, .ref hm), (3, .ref hu), (4, .int (nI i))]) (hi : i + 5 ≤ L) (hI : lI A s.heap dC dI cR cI cZ cJ ax hfm hq hu ha pw ps po pk hm ml mw mb ms mn ns its wss sbs nu H locs) (hcs : cells + 1 ≤ 601024) (hss : slots + 6 ≤ 7293034)
    (kk : ∀ (ns : Nat → Nat) (its wss : Nat → Nat → Nat) (sbs : Nat → Nat → Bool) (nu : Nat → Int64) (H : Heap) (locs : List Loc) (ls : Array Slot), lv_has ls 8 [(0, .ref b), (1, .ref ax), (2, .ref hm), (3, .ref hu), (4, .int (nI i))] → lI A s.heap dC dI cR cI cZ cJ ax hfm hq hu ha pw ps po pk hm ml mw mb ms mn ns its wss sbs nu H locs → W p l e room_1 s m #[Value.ref b] below meth c H locs (cells + 1) (slots + 6) Q (F0 m 1106 ls [])) :
    W p l e room_1 s m #[Value.ref b] below meth c H locs cells slots Q (F0 m 571 ls []) := by
  obtain ⟨hx, hb, hml, hown, hw, hX, hbl, hK, hV, hZ0, hN, hl0, hL, hA, hAn⟩ := C
  have hbA := hAn b hbl
  obtain ⟨wd, sg, ow, co, ou, er, ln, wh, bi, si, hXR, hM, hP, hD, hS⟩ := hI
  have hZ : xZ s H := hZ0.kept (fun z hz => hS.2.1 z hz (hAn z hz))
  refine lv_aload_n hx hb dL_law_571 rfl (lv_at hl 1 rfl) ?_
  refine lv_aload_n hx hb dL_law_572 rfl (lv_at hl 0 rfl) ?_
  refine lv_iload hx hb dL_law_573 (lv_at hl 4 rfl) ?_
  refine lv_iconst (v := nI 1) hx hb dL_law_575 (by decide +kernel) ?_
  refine lv_iadd hx hb dL_law_576 ?_
  refine lv_topi (fun v576 e576 => ?_)
  obtain rfl : v576 = nI (i + 1) := e576.trans (nI_add _ _)
  refine va_sld hx hb hX hbl hbA hS (vp_in_nI (by omega) (by omega)) dL_law_577 ?_
  refine lv_topi (fun v577 e577 => ?_)
  obtain rfl : v577 = xs (i + 1) := e577.trans (by rw [nI_clamp (by omega)])
  refine lv_aload_n hx hb dL_law_578 rfl (lv_at hl 0 rfl) ?_
  refine lv_iload hx hb dL_law_579 (lv_at hl 4 rfl) ?_
  refine lv_iconst (v := nI 2) hx hb dL_law_581 (by decide +kernel) ?_
  refine lv_iadd hx hb dL_law_582 ?_
  refine lv_topi (fun v582 e582 => ?_)
  obtain rfl : v582 = nI (i + 2) := e582.trans (nI_add _ _)
  refine va_sld hx hb hX hbl hbA hS (vp_in_nI (by omega) (by omega)) dL_law_583 ?_
  refine lv_topi (fun v583 e583 => ?_)
  obtain rfl : v583 = xs (i + 2) := e583.trans (by rw [nI_clamp (by omega)])
  refine lv_aload_n hx hb dL_law_584 rfl (lv_at hl 0 rfl) ?_
  refine lv_iload hx hb dL_law_585 (lv_at hl 4 rfl) ?_
  refine lv_iconst (v := nI 3) hx hb dL_law_587 (by decide +kernel) ?_
  refine lv_iadd hx hb dL_law_588 ?_
  refine lv_topi (fun v588 e588 => ?_)
  obtain rfl : v588 = nI (i + 3) := e588.trans (nI_add _ _)
  refine va_sld hx hb hX hbl hbA hS (vp_in_nI (by omega) (by omega)) dL_law_589 ?_
  refine lv_topi (fun v589 e589 => ?_)
  obtain rfl : v589 = xs (i + 3) := e589.trans (by rw [nI_clamp (by omega)])
  refine lv_i2l hx hb dL_law_590 rfl ?_
  refine lv_topl (fun v590 e590 => ?_)
  refine lv_bipush (v := nI 32) hx hb dL_law_591 (by decide +kernel) ?_
  refine lv_lshl hx hb dL_law_593 rfl ?_
  refine lv_topl (fun v593 e593 => ?_)
  refine lv_aload_n hx hb dL_law_594 rfl (lv_at hl 0 rfl) ?_
  refine lv_iload hx hb dL_law_595 (lv_at hl 4 rfl) ?_
  refine lv_iconst (v := nI 4) hx hb dL_law_597 (by decide +kernel) ?_
  refine lv_iadd hx hb dL_law_598 ?_
  refine lv_topi (fun v598 e598 => ?_)
  obtain rfl : v598 = nI (i + 4) := e598.trans (nI_add _ _)
  refine va_sld hx hb hX hbl hbA hS (vp_in_nI (by omega) (by omega)) dL_law_599 ?_
  refine lv_topi (fun v599 e599 => ?_)
  obtain rfl : v599 = xs (i + 4) := e599.trans (by rw [nI_clamp (by omega)])
  refine lv_i2l hx hb dL_law_600 rfl ?_
  refine lv_topl (fun v600 e600 => ?_)
  refine lv_ldc2 (v := lN 4294967295) hx hb hown (hw _ kw_505) dL_law_601 ?_
  refine lv_land hx hb dL_law_604 ?_
  refine lv_topl (fun v604 e604 => ?_)
  refine lv_lor hx hb dL_law_605 ?_
  refine lv_topl (fun v605 e605 => ?_)
  obtain rfl : v605 = wdl (xs (i + 3)) (xs (i + 4)) := e605.trans (by rw [e604, e593, e590, e600]; rfl)
  refine lv_aload_n hx hb dL_law_606 rfl (lv_at hl 3 rfl) ?_
  have hFc := A_sub (D_left hD) hS hA
  refine va_calli (sw_run (n := 5) (As := [.ref ax, .int (xs (i + 1)), .int (xs (i + 2)), .long (wdl (xs (i + 3)) (xs (i + 4))), .ref hu]) (rest := []) ⟨hx, hb, hml, hown, hw⟩ (h_fits l hl0 dC dI H.size sa cR cI cZ cJ ax hfm hq hu ha pw ps po pk ns its wss sbs wd sg ow co nu ou hXR (xs (i + 1)) (xs (i + 2)) (wdl (xs (i + 3)) (xs (i + 4)))) rfl rfl ⟨Nat.le_of_ble_eq_true rfl, Nat.le_of_ble_eq_true rfl⟩ (pay_in hw (gI kw_281)) List.mem_cons_self (hw _ kw_13) (hw _ kw_279) (hw _ kw_280) (by decide +kernel) (xl_preS hK (P_left hP) (D_left hD) hV hZ hN) rfl rfl hl.1 rfl (lv_room (Nat.le_of_ble_eq_true rfl)) dL_law_607 ⟨hcs, hss⟩) hS (fun q _ h => hFc q h) hFc (fun v607 u t H1 locs ht hvm e607 hB hz1 hk1 hS => ?_)
  obtain ⟨wd', sg', ow', co', ou', hXR, hpo, hP1, hK1, hD1⟩ := hB
  rw [ht] at hP1
  obtain ⟨hP, hD⟩ := join_pre hP hD hk1 hFc hP1 hD1
  obtain rfl : v607 = nI (cdFits wss (xs (i + 1)) (xs (i + 2))) := e607
  refine lv_istore hx hb dL_law_610 hl (by decide) rfl (fun ls hl => ?_)
  have hl : lv_has ls 8 [(5, .int (nI (cdFits wss (xs (i + 1)) (xs (i + 2))))), (0, .ref b), (1, .ref ax), (2, .ref hm), (3, .ref hu), (4, .int (nI i))] := hl
  refine lv_aload_n hx hb dL_law_612 rfl (lv_at hl 3 rfl) ?_
  refine lv_aload_n hx hb dL_law_613 rfl (lv_at hl 1 rfl) ?_
  refine lv_iload hx hb dL_law_614 (lv_at hl 5 rfl) ?_
  refine lv_iconst (v := nI 1) hx hb dL_law_616 (by decide +kernel) ?_
  refine lv_iadd hx hb dL_law_617 ?_
  refine lv_topi (fun v617 e617 => ?_)
  obtain rfl : v617 = nI (i + 1) := e617.trans (nI_add _ _)
  refine va_sld hx hb hX hbl hbA hS (vp_in_nI (by omega) (by omega)) dL_law_618 ?_
  refine lv_topi (fun v618 e618 => ?_)
  obtain rfl : v618 = xs (i + 1) := e618.trans (by rw [nI_clamp (by omega)])
  refine lv_aload_n hx hb dL_law_619 rfl (lv_at hl 1 rfl) ?_
  refine lv_iload hx hb dL_law_620 (lv_at hl 5 rfl) ?_
  refine lv_iconst (v := nI 2) hx hb dL_law_622 (by decide +kernel) ?_
  refine lv_iadd hx hb dL_law_623 ?_
  refine lv_topi (fun v623 e623 => ?_)
  obtain rfl : v623 = nI (i + 2) := e623.trans (nI_add _ _)
  refine va_sld hx hb hX hbl hbA hS (vp_in_nI (by omega) (by omega)) dL_law_624 ?_
  refine lv_topi (fun v624 e624 => ?_)
  obtain rfl : v624 = xs (i + 2) := e624.trans (by rw [nI_clamp (by omega)])
  refine lv_aload_n hx hb dL_law_625 rfl (lv_at hl 1 rfl) ?_
  refine lv_iload hx hb dL_law_626 (lv_at hl 5 rfl) ?_
  refine lv_iconst (v := nI 3) hx hb dL_law_628 (by decide +kernel) ?_
  refine lv_iadd hx hb dL_law_629 ?_
  refine lv_topi (fun v629 e629 => ?_)
  obtain rfl : v629 = nI (i + 3) := e629.trans (nI_add _ _)
  refine va_sld hx hb hX hbl hbA hS (vp_in_nI (by omega) (by omega)) dL_law_630 ?_
  refine lv_topi (fun v630 e630 => ?_)
  obtain rfl : v630 = xs (i + 3) := e630.trans (by rw [nI_clamp (by omega)])
  refine lv_i2l hx hb dL_law_631 rfl ?_
  refine lv_topl (fun v631 e631 => ?_)
  refine lv_bipush (v := nI 32) hx hb dL_law_632 (by decide +kernel) ?_
  refine lv_lshl hx hb dL_law_634 rfl ?_
  refine lv_topl (fun v634 e634 => ?_)
  refine lv_aload_n hx hb dL_law_635 rfl (lv_at hl 1 rfl) ?_
  refine lv_iload hx hb dL_law_636 (lv_at hl 5 rfl) ?_
  refine lv_iconst (v := nI 4) hx hb dL_law_638 (by decide +kernel) ?_
  refine lv_iadd hx hb dL_law_639 ?_
  refine lv_topi (fun v639 e639 => ?_)
  obtain rfl : v639 = nI (i + 4) := e639.trans (nI_add _ _)
  refine va_sld hx hb hX hbl hbA hS (vp_in_nI (by omega) (by omega)) dL_law_640 ?_
  refine lv_topi (fun v640 e640 => ?_)
  obtain rfl : v640 = xs (i + 4) := e640.trans (by rw [nI_clamp (by omega)])
  refine lv_i2l hx hb dL_law_641 rfl ?_
  refine lv_topl (fun v641 e641 => ?_)
  refine lv_ldc2 (v := lN 4294967295) hx hb hown (hw _ kw_505) dL_law_642 ?_
  refine lv_land hx hb dL_law_645 ?_
  refine lv_topl (fun v645 e645 => ?_)
  refine lv_lor hx hb dL_law_646 ?_
  refine lv_topl (fun v646 e646 => ?_)
  obtain rfl : v646 = wdl (xs (i + 3)) (xs (i + 4)) := e646.trans (by rw [e645, e634, e631, e641]; rfl)
  have hFm := A_sub (D_right hD) hS hA
  refine va_calli (va_runV (As := [.int (xs (i + 1)), .int (xs (i + 2)), .long (wdl (xs (i + 3)) (xs (i + 4)))]) (rest := []) ⟨hx, hb, hml, hown, hw⟩ (c_M_fits l dC dI H1.size cI cZ cJ hm ml mw mb ms mn er ln wh bi si nu ns its wss sbs hM (xs (i + 1)) (xs (i + 2)) (wdl (xs (i + 3)) (xs (i + 4)))) (cwV 3 hw (gV kw_468 kw_469 kw_470 kw_16 kw_471) rfl rfl rfl (by decide +kernel) ⟨Nat.le_of_ble_eq_true rfl, Nat.le_of_ble_eq_true rfl⟩) (rw_preV (q0 := 0) (hK.sub (tys' := [(cI, .int), (cZ, .boolean), (cJ, .long)]) [1, 2, 3] rfl) (P_right hP) (D_right hD) rfl rfl) rfl rfl hl.1 rfl (lv_room (Nat.le_of_ble_eq_true rfl)) dL_law_647 ⟨hcs, hss⟩) hS (fun q _ h => hFm q h) hFm (fun v647 u2 t2 H2 locs ht2 hvm2 e647 hB2 hz2 hk2 hS => ?_)
  obtain ⟨hP2, hK2, hD2⟩ := hB2
  rw [ht2] at hP2
  obtain ⟨hP, hD⟩ := join_suf hP hD hk2 hFm hP2 hD2
  refine lv_istore hx hb dL_law_650 hl (by decide) rfl (fun ls hl => ?_)
  have hl : lv_has ls 8 [(6, .int v647), (5, .int (nI (cdFits wss (xs (i + 1)) (xs (i + 2))))), (0, .ref b), (1, .ref ax), (2, .ref hm), (3, .ref hu), (4, .int (nI i))] := hl
  refine lv_aload_n hx hb dL_law_652 rfl (lv_at hl 4 rfl) ?_
  refine vp_callSi (W.runV (As := []) (rest := []) ⟨hx, hb, hml, hown, hw⟩ (c_M_thrown l dC dI cI cZ cJ hm ml mw mb ms mn (nI (cdFits wss (xs (i + 1)) (xs (i + 2)))) ln wh bi si nu ns its wss sbs hM) (cwV 0 hw (gV kw_405 kw_406 kw_407 kw_16 kw_408) rfl rfl rfl (by decide +kernel) ⟨Nat.le_of_ble_eq_true rfl, Nat.le_of_ble_eq_true rfl⟩) (ro_preV (q0 := 0) (hK.sub (tys' := [(cI, .int), (cZ, .boolean), (cJ, .long)]) [1, 2, 3] rfl) (P_right hP) rfl rfl) rfl rfl hl.1 rfl (lv_room (Nat.le_of_ble_eq_true rfl)) dL_law_653 ⟨hcs, hss⟩) (fun v653 e653 => ?_)
  obtain rfl : v653 = nI (cdFits wss (xs (i + 1)) (xs (i + 2))) := e653
  refine lv_iload hx hb dL_law_656 (lv_at hl 1 rfl) ?_
  refine lv_icmp_eq (tgt := 663) hx hb dL_law_658 (by decide) (fun h658 => ?_) (fun h658 => ?_)
  · refine lv_iload hx hb dL_law_663 (lv_at hl 1 rfl) ?_
    refine lv_if_ne (tgt := 687) hx hb dL_law_665 (by decide) (fun h665 => ?_) (fun h665 => ?_)
    · refine lv_goto (tgt := 1106) hx hb dL_law_687 (by decide) ?_
      exact kk _ _ _ _ _ _ _ ls (lv_sub (l' := [(0, .ref b), (1, .ref ax), (2, .ref hm), (3, .ref hu), (4, .int (nI i))]) hl [2, 3, 4, 5, 6] rfl) ⟨_, _, _, _, _, _, _, _, _, _, hXR, hM, hP, hD, hS⟩
    · have h0 := cd_z (cdFits_le _ _ _) h665
      have hq9 := hpo h0
      have hr9 := e647 h0
      refine lv_aload_n hx hb dL_law_668 rfl (lv_at hl 5 rfl) ?_
      refine lv_iconst (v := nI 0) hx hb dL_law_669 (by decide +kernel) ?_
      refine va_lald hx hb hK hP 3 3 rfl rfl (vp_in_nI (by omega) (by decide)) dL_law_670 ?_
      refine lv_topl (fun v670 e670 => ?_)
      obtain rfl : v670 = ou' 0 := e670.trans (by rw [nI_clamp (by omega)])
      refine lv_iload hx hb dL_law_671 (lv_at hl 0 rfl) ?_
      refine lv_if_eq (tgt := 680) hx hb dL_law_673 (by decide) (fun h673 => ?_) (fun h673 => ?_)
      · refine lv_lconst (v := lN 0) hx hb dL_law_680 (by decide +kernel) ?_
        refine W.lcmp hx hb dL_law_681 ?_
        refine lv_topi (fun v681 e681 => ?_)
        obtain rfl : v681 = nI 0 := e681.trans ((lg_cmp_eq _ _).mpr (by first | (rw [hq9, (b_nat0 _).mp (hr9.symm.trans h673)]; rfl) | (rw [hq9, b_nf (fun q => h673 (hr9.trans q))]; rfl)))
        refine lv_if_eq (tgt := 687) hx hb dL_law_682 (by decide) (fun h682 => ?_) (fun h682 => ?_)
        · refine lv_goto (tgt := 1106) hx hb dL_law_687 (by decide) ?_
          exact kk _ _ _ _ _ _ _ ls (lv_sub (l' := [(0, .ref b), (1, .ref ax), (2, .ref hm), (3, .ref hu), (4, .int (nI i))]) hl [2, 3, 4, 5, 6] rfl) ⟨_, _, _, _, _, _, _, _, _, _, hXR, hM, hP, hD, hS⟩
        · exfalso
          first | exact h682 (by decide +kernel) | exact absurd h682 (by decide +kernel)
      · refine lv_lconst (v := lN 1) hx hb dL_law_676 (by decide +kernel) ?_
        refine lv_goto (tgt := 681) hx hb dL_law_677 (by decide) ?_
        refine W.lcmp hx hb dL_law_681 ?_
        refine lv_topi (fun v681 e681 => ?_)
        obtain rfl : v681 = nI 0 := e681.trans ((lg_cmp_eq _ _).mpr (by first | (rw [hq9, (b_nat0 _).mp (hr9.symm.trans h673)]; rfl) | (rw [hq9, b_nf (fun q => h673 (hr9.trans q))]; rfl)))
        refine lv_if_eq (tgt := 687) hx hb dL_law_682 (by decide) (fun h682 => ?_) (fun h682 => ?_)
        · refine lv_goto (tgt := 1106) hx hb dL_law_687 (by decide) ?_
          exact kk _ _ _ _ _ _ _ ls (lv_sub (l' := [(0, .ref b), (1, .ref ax), (2, .ref hm), (3, .ref hu), (4, .int (nI i))]) hl [2, 3, 4, 5, 6] rfl) ⟨_, _, _, _, _, _, _, _, _, _, hXR, hM, hP, hD, hS⟩
        · exfalso
          first | exact h682 (by decide +kernel) | exact absurd h682 (by decide +kernel)
  · exfalso
    exact h658 rfl

set_option maxHeartbeats 4000000 in
set_option maxRecDepth 100000 in
theorem lc_encode (C : LC p l s m c b L xs dC dI sa cR cI cZ cJ A) (hl : lv_has ls 8 [(0, .ref b), (1, .ref ax), (2, .ref hm), (3, .ref hu), (4, .int (nI i))]) (hi : i + 5 ≤ L) (hI : lI A s.heap dC dI cR cI cZ cJ ax hfm hq hu ha pw ps po pk hm ml mw mb ms mn ns its wss sbs nu H locs) (hcs : cells + 1 ≤ 601024) (hss : slots + 6 ≤ 7293034)
    (kk : ∀ (ns : Nat → Nat) (its wss : Nat → Nat → Nat) (sbs : Nat → Nat → Bool) (nu : Nat → Int64) (H : Heap) (locs : List Loc) (ls : Array Slot), lv_has ls 8 [(0, .ref b), (1, .ref ax), (2, .ref hm), (3, .ref hu), (4, .int (nI i))] → lI A s.heap dC dI cR cI cZ cJ ax hfm hq hu ha pw ps po pk hm ml mw mb ms mn ns its wss sbs nu H locs → W p l e room_1 s m #[Value.ref b] below meth c H locs (cells + 1) (slots + 6) Q (F0 m 1106 ls [])) :
    W p l e room_1 s m #[Value.ref b] below meth c H locs cells slots Q (F0 m 690 ls []) := by
  obtain ⟨hx, hb, hml, hown, hw, hX, hbl, hK, hV, hZ0, hN, hl0, hL, hA, hAn⟩ := C
  have hbA := hAn b hbl
  obtain ⟨wd, sg, ow, co, ou, er, ln, wh, bi, si, hXR, hM, hP, hD, hS⟩ := hI
  have hZ : xZ s H := hZ0.kept (fun z hz => hS.2.1 z hz (hAn z hz))
  refine lv_aload_n hx hb dL_law_690 rfl (lv_at hl 1 rfl) ?_
  refine lv_aload_n hx hb dL_law_691 rfl (lv_at hl 0 rfl) ?_
  refine lv_iload hx hb dL_law_692 (lv_at hl 4 rfl) ?_
  refine lv_iconst (v := nI 1) hx hb dL_law_694 (by decide +kernel) ?_
  refine lv_iadd hx hb dL_law_695 ?_
  refine lv_topi (fun v695 e695 => ?_)
  obtain rfl : v695 = nI (i + 1) := e695.trans (nI_add _ _)
  refine va_sld hx hb hX hbl hbA hS (vp_in_nI (by omega) (by omega)) dL_law_696 ?_
  refine lv_topi (fun v696 e696 => ?_)
  obtain rfl : v696 = xs (i + 1) := e696.trans (by rw [nI_clamp (by omega)])
  refine lv_aload_n hx hb dL_law_697 rfl (lv_at hl 3 rfl) ?_
  have hFc := A_sub (D_left hD) hS hA
  refine va_calli (sw_run (n := 3) (As := [.ref ax, .int (xs (i + 1)), .ref hu]) (rest := []) ⟨hx, hb, hml, hown, hw⟩ (h_encode l hl0 dC dI H.size sa cR cI cZ cJ ax hfm hq hu ha pw ps po pk ns its wss sbs wd sg ow co nu ou hXR (xs (i + 1))) rfl rfl ⟨Nat.le_of_ble_eq_true rfl, Nat.le_of_ble_eq_true rfl⟩ (pay_in hw (gI kw_293)) List.mem_cons_self (hw _ kw_13) (hw _ kw_291) (hw _ kw_292) (by decide +kernel) (xl_preS hK (P_left hP) (D_left hD) hV hZ hN) rfl rfl hl.1 rfl (lv_room (Nat.le_of_ble_eq_true rfl)) dL_law_698 ⟨hcs, hss⟩) hS (fun q _ h => hFc q h) hFc (fun v698 u t H1 locs ht hvm e698 hB hz1 hk1 hS => ?_)
  obtain ⟨wd', sg', ow', co', ou', hXR, hpo, hP1, hK1, hD1⟩ := hB
  rw [ht] at hP1
  obtain ⟨hP, hD⟩ := join_pre hP hD hk1 hFc hP1 hD1
  obtain rfl : v698 = nI (cdEnc ns its wss sbs nu (xs (i + 1))) := e698
  refine lv_istore hx hb dL_law_701 hl (by decide) rfl (fun ls hl => ?_)
  have hl : lv_has ls 8 [(5, .int (nI (cdEnc ns its wss sbs nu (xs (i + 1))))), (0, .ref b), (1, .ref ax), (2, .ref hm), (3, .ref hu), (4, .int (nI i))] := hl
  refine lv_aload_n hx hb dL_law_703 rfl (lv_at hl 3 rfl) ?_
  refine lv_aload_n hx hb dL_law_704 rfl (lv_at hl 1 rfl) ?_
  refine lv_iload hx hb dL_law_705 (lv_at hl 5 rfl) ?_
  refine lv_iconst (v := nI 1) hx hb dL_law_707 (by decide +kernel) ?_
  refine lv_iadd hx hb dL_law_708 ?_
  refine lv_topi (fun v708 e708 => ?_)
  obtain rfl : v708 = nI (i + 1) := e708.trans (nI_add _ _)
  refine va_sld hx hb hX hbl hbA hS (vp_in_nI (by omega) (by omega)) dL_law_709 ?_
  refine lv_topi (fun v709 e709 => ?_)
  obtain rfl : v709 = xs (i + 1) := e709.trans (by rw [nI_clamp (by omega)])
  have hFm := A_sub (D_right hD) hS hA
  refine va_calll (va_runV (As := [.int (xs (i + 1))]) (rest := []) ⟨hx, hb, hml, hown, hw⟩ (c_M_encode l dC dI H1.size cI cZ cJ hm ml mw mb ms mn er ln wh bi si nu ns its wss sbs hM (xs (i + 1))) (cwV 1 hw (gV kw_476 kw_477 kw_478 kw_16 kw_479) rfl rfl rfl (by decide +kernel) ⟨Nat.le_of_ble_eq_true rfl, Nat.le_of_ble_eq_true rfl⟩) (rw_preV (q0 := 0) (hK.sub (tys' := [(cI, .int), (cZ, .boolean), (cJ, .long)]) [1, 2, 3] rfl) (P_right hP) (D_right hD) rfl rfl) rfl rfl hl.1 rfl (lv_room (Nat.le_of_ble_eq_true rfl)) dL_law_710 ⟨hcs, hss⟩) hS (fun q _ h => hFm q h) hFm (fun v710 u2 t2 H2 locs ht2 hvm2 e710 hB2 hz2 hk2 hS => ?_)
  obtain ⟨hP2, hK2, hD2⟩ := hB2
  rw [ht2] at hP2
  obtain ⟨hP, hD⟩ := join_suf hP hD hk2 hFm hP2 hD2
  refine lv_lstore hx hb dL_law_713 hl (by decide) rfl (fun ls hl => ?_)
  have hl : lv_has ls 8 [(6, .long v710), (5, .int (nI (cdEnc ns its wss sbs nu (xs (i + 1))))), (0, .ref b), (1, .ref ax), (2, .ref hm), (3, .ref hu), (4, .int (nI i))] := hl
  refine lv_aload_n hx hb dL_law_715 rfl (lv_at hl 4 rfl) ?_
  refine vp_callSi (W.runV (As := []) (rest := []) ⟨hx, hb, hml, hown, hw⟩ (c_M_thrown l dC dI cI cZ cJ hm ml mw mb ms mn (nI (cdEnc ns its wss sbs nu (xs (i + 1)))) ln wh bi si nu ns its wss sbs hM) (cwV 0 hw (gV kw_405 kw_406 kw_407 kw_16 kw_408) rfl rfl rfl (by decide +kernel) ⟨Nat.le_of_ble_eq_true rfl, Nat.le_of_ble_eq_true rfl⟩) (ro_preV (q0 := 0) (hK.sub (tys' := [(cI, .int), (cZ, .boolean), (cJ, .long)]) [1, 2, 3] rfl) (P_right hP) rfl rfl) rfl rfl hl.1 rfl (lv_room (Nat.le_of_ble_eq_true rfl)) dL_law_716 ⟨hcs, hss⟩) (fun v716 e716 => ?_)
  obtain rfl : v716 = nI (cdEnc ns its wss sbs nu (xs (i + 1))) := e716
  refine lv_iload hx hb dL_law_719 (lv_at hl 1 rfl) ?_
  refine lv_icmp_eq (tgt := 726) hx hb dL_law_721 (by decide) (fun h721 => ?_) (fun h721 => ?_)
  · refine lv_iload hx hb dL_law_726 (lv_at hl 1 rfl) ?_
    refine lv_if_ne (tgt := 742) hx hb dL_law_728 (by decide) (fun h728 => ?_) (fun h728 => ?_)
    · refine lv_goto (tgt := 1106) hx hb dL_law_742 (by decide) ?_
      exact kk _ _ _ _ _ _ _ ls (lv_sub (l' := [(0, .ref b), (1, .ref ax), (2, .ref hm), (3, .ref hu), (4, .int (nI i))]) hl [2, 3, 4, 5, 6] rfl) ⟨_, _, _, _, _, _, _, _, _, _, hXR, hM, hP, hD, hS⟩
    · have h0 := cd_z (cdEnc_le _ _ _ _ _ _) h728
      have hq9 := hpo h0
      have hr9 := e710 h0
      refine lv_aload_n hx hb dL_law_731 rfl (lv_at hl 5 rfl) ?_
      refine lv_iconst (v := nI 0) hx hb dL_law_732 (by decide +kernel) ?_
      refine va_lald hx hb hK hP 3 3 rfl rfl (vp_in_nI (by omega) (by decide)) dL_law_733 ?_
      refine lv_topl (fun v733 e733 => ?_)
      obtain rfl : v733 = ou' 0 := e733.trans (by rw [nI_clamp (by omega)])
      refine lv_lload hx hb dL_law_734 (lv_at hl 0 rfl) ?_
      refine W.lcmp hx hb dL_law_736 ?_
      refine lv_topi (fun v736 e736 => ?_)
      obtain rfl : v736 = nI 0 := e736.trans ((lg_cmp_eq _ _).mpr (hq9.trans hr9.symm))
      refine lv_if_eq (tgt := 742) hx hb dL_law_737 (by decide) (fun h737 => ?_) (fun h737 => ?_)
      · refine lv_goto (tgt := 1106) hx hb dL_law_742 (by decide) ?_
        exact kk _ _ _ _ _ _ _ ls (lv_sub (l' := [(0, .ref b), (1, .ref ax), (2, .ref hm), (3, .ref hu), (4, .int (nI i))]) hl [2, 3, 4, 5, 6] rfl) ⟨_, _, _, _, _, _, _, _, _, _, hXR, hM, hP, hD, hS⟩
      · exfalso
        first | exact h737 (by decide +kernel) | exact absurd h737 (by decide +kernel)
  · exfalso
    exact h721 rfl

set_option maxHeartbeats 4000000 in
set_option maxRecDepth 100000 in
theorem lc_is (C : LC p l s m c b L xs dC dI sa cR cI cZ cJ A) (hl : lv_has ls 8 [(0, .ref b), (1, .ref ax), (2, .ref hm), (3, .ref hu), (4, .int (nI i))]) (hi : i + 5 ≤ L) (hI : lI A s.heap dC dI cR cI cZ cJ ax hfm hq hu ha pw ps po pk hm ml mw mb ms mn ns its wss sbs nu H locs) (hcs : cells + 1 ≤ 601024) (hss : slots + 6 ≤ 7293034)
    (kk : ∀ (ns : Nat → Nat) (its wss : Nat → Nat → Nat) (sbs : Nat → Nat → Bool) (nu : Nat → Int64) (H : Heap) (locs : List Loc) (ls : Array Slot), lv_has ls 8 [(0, .ref b), (1, .ref ax), (2, .ref hm), (3, .ref hu), (4, .int (nI i))] → lI A s.heap dC dI cR cI cZ cJ ax hfm hq hu ha pw ps po pk hm ml mw mb ms mn ns its wss sbs nu H locs → W p l e room_1 s m #[Value.ref b] below meth c H locs (cells + 1) (slots + 6) Q (F0 m 1106 ls [])) :
    W p l e room_1 s m #[Value.ref b] below meth c H locs cells slots Q (F0 m 745 ls []) := by
  obtain ⟨hx, hb, hml, hown, hw, hX, hbl, hK, hV, hZ0, hN, hl0, hL, hA, hAn⟩ := C
  have hbA := hAn b hbl
  obtain ⟨wd, sg, ow, co, ou, er, ln, wh, bi, si, hXR, hM, hP, hD, hS⟩ := hI
  have hZ : xZ s H := hZ0.kept (fun z hz => hS.2.1 z hz (hAn z hz))
  refine lv_aload_n hx hb dL_law_745 rfl (lv_at hl 1 rfl) ?_
  refine lv_aload_n hx hb dL_law_746 rfl (lv_at hl 0 rfl) ?_
  refine lv_iload hx hb dL_law_747 (lv_at hl 4 rfl) ?_
  refine lv_iconst (v := nI 1) hx hb dL_law_749 (by decide +kernel) ?_
  refine lv_iadd hx hb dL_law_750 ?_
  refine lv_topi (fun v750 e750 => ?_)
  obtain rfl : v750 = nI (i + 1) := e750.trans (nI_add _ _)
  refine va_sld hx hb hX hbl hbA hS (vp_in_nI (by omega) (by omega)) dL_law_751 ?_
  refine lv_topi (fun v751 e751 => ?_)
  obtain rfl : v751 = xs (i + 1) := e751.trans (by rw [nI_clamp (by omega)])
  refine lv_aload_n hx hb dL_law_752 rfl (lv_at hl 0 rfl) ?_
  refine lv_iload hx hb dL_law_753 (lv_at hl 4 rfl) ?_
  refine lv_iconst (v := nI 2) hx hb dL_law_755 (by decide +kernel) ?_
  refine lv_iadd hx hb dL_law_756 ?_
  refine lv_topi (fun v756 e756 => ?_)
  obtain rfl : v756 = nI (i + 2) := e756.trans (nI_add _ _)
  refine va_sld hx hb hX hbl hbA hS (vp_in_nI (by omega) (by omega)) dL_law_757 ?_
  refine lv_topi (fun v757 e757 => ?_)
  obtain rfl : v757 = xs (i + 2) := e757.trans (by rw [nI_clamp (by omega)])
  refine lv_i2l hx hb dL_law_758 rfl ?_
  refine lv_topl (fun v758 e758 => ?_)
  refine lv_bipush (v := nI 32) hx hb dL_law_759 (by decide +kernel) ?_
  refine lv_lshl hx hb dL_law_761 rfl ?_
  refine lv_topl (fun v761 e761 => ?_)
  refine lv_aload_n hx hb dL_law_762 rfl (lv_at hl 0 rfl) ?_
  refine lv_iload hx hb dL_law_763 (lv_at hl 4 rfl) ?_
  refine lv_iconst (v := nI 3) hx hb dL_law_765 (by decide +kernel) ?_
  refine lv_iadd hx hb dL_law_766 ?_
  refine lv_topi (fun v766 e766 => ?_)
  obtain rfl : v766 = nI (i + 3) := e766.trans (nI_add _ _)
  refine va_sld hx hb hX hbl hbA hS (vp_in_nI (by omega) (by omega)) dL_law_767 ?_
  refine lv_topi (fun v767 e767 => ?_)
  obtain rfl : v767 = xs (i + 3) := e767.trans (by rw [nI_clamp (by omega)])
  refine lv_i2l hx hb dL_law_768 rfl ?_
  refine lv_topl (fun v768 e768 => ?_)
  refine lv_ldc2 (v := lN 4294967295) hx hb hown (hw _ kw_505) dL_law_769 ?_
  refine lv_land hx hb dL_law_772 ?_
  refine lv_topl (fun v772 e772 => ?_)
  refine lv_lor hx hb dL_law_773 ?_
  refine lv_topl (fun v773 e773 => ?_)
  obtain rfl : v773 = wdl (xs (i + 2)) (xs (i + 3)) := e773.trans (by rw [e772, e761, e758, e768]; rfl)
  refine lv_aload_n hx hb dL_law_774 rfl (lv_at hl 3 rfl) ?_
  have hFc := A_sub (D_left hD) hS hA
  refine va_calli (sw_run (n := 4) (As := [.ref ax, .int (xs (i + 1)), .long (wdl (xs (i + 2)) (xs (i + 3))), .ref hu]) (rest := []) ⟨hx, hb, hml, hown, hw⟩ (h_is l hl0 dC dI H.size sa cR cI cZ cJ ax hfm hq hu ha pw ps po pk ns its wss sbs wd sg ow co nu ou hXR (xs (i + 1)) (wdl (xs (i + 2)) (xs (i + 3)))) rfl rfl ⟨Nat.le_of_ble_eq_true rfl, Nat.le_of_ble_eq_true rfl⟩ (pay_in hw (gI kw_330)) List.mem_cons_self (hw _ kw_13) (hw _ kw_328) (hw _ kw_329) (by decide +kernel) (xl_preS hK (P_left hP) (D_left hD) hV hZ hN) rfl rfl hl.1 rfl (lv_room (Nat.le_of_ble_eq_true rfl)) dL_law_775 ⟨hcs, hss⟩) hS (fun q _ h => hFc q h) hFc (fun v775 u t H1 locs ht hvm e775 hB hz1 hk1 hS => ?_)
  obtain ⟨wd', sg', ow', co', ou', hXR, hpo, hP1, hK1, hD1⟩ := hB
  rw [ht] at hP1
  obtain ⟨hP, hD⟩ := join_pre hP hD hk1 hFc hP1 hD1
  obtain rfl : v775 = nI (cdClear (xs (i + 1))) := e775
  refine lv_istore hx hb dL_law_778 hl (by decide) rfl (fun ls hl => ?_)
  have hl : lv_has ls 8 [(5, .int (nI (cdClear (xs (i + 1))))), (0, .ref b), (1, .ref ax), (2, .ref hm), (3, .ref hu), (4, .int (nI i))] := hl
  refine lv_aload_n hx hb dL_law_780 rfl (lv_at hl 3 rfl) ?_
  refine lv_aload_n hx hb dL_law_781 rfl (lv_at hl 1 rfl) ?_
  refine lv_iload hx hb dL_law_782 (lv_at hl 5 rfl) ?_
  refine lv_iconst (v := nI 1) hx hb dL_law_784 (by decide +kernel) ?_
  refine lv_iadd hx hb dL_law_785 ?_
  refine lv_topi (fun v785 e785 => ?_)
  obtain rfl : v785 = nI (i + 1) := e785.trans (nI_add _ _)
  refine va_sld hx hb hX hbl hbA hS (vp_in_nI (by omega) (by omega)) dL_law_786 ?_
  refine lv_topi (fun v786 e786 => ?_)
  obtain rfl : v786 = xs (i + 1) := e786.trans (by rw [nI_clamp (by omega)])
  refine lv_aload_n hx hb dL_law_787 rfl (lv_at hl 1 rfl) ?_
  refine lv_iload hx hb dL_law_788 (lv_at hl 5 rfl) ?_
  refine lv_iconst (v := nI 2) hx hb dL_law_790 (by decide +kernel) ?_
  refine lv_iadd hx hb dL_law_791 ?_
  refine lv_topi (fun v791 e791 => ?_)
  obtain rfl : v791 = nI (i + 2) := e791.trans (nI_add _ _)
  refine va_sld hx hb hX hbl hbA hS (vp_in_nI (by omega) (by omega)) dL_law_792 ?_
  refine lv_topi (fun v792 e792 => ?_)
  obtain rfl : v792 = xs (i + 2) := e792.trans (by rw [nI_clamp (by omega)])
  refine lv_i2l hx hb dL_law_793 rfl ?_
  refine lv_topl (fun v793 e793 => ?_)
  refine lv_bipush (v := nI 32) hx hb dL_law_794 (by decide +kernel) ?_
  refine lv_lshl hx hb dL_law_796 rfl ?_
  refine lv_topl (fun v796 e796 => ?_)
  refine lv_aload_n hx hb dL_law_797 rfl (lv_at hl 1 rfl) ?_
  refine lv_iload hx hb dL_law_798 (lv_at hl 5 rfl) ?_
  refine lv_iconst (v := nI 3) hx hb dL_law_800 (by decide +kernel) ?_
  refine lv_iadd hx hb dL_law_801 ?_
  refine lv_topi (fun v801 e801 => ?_)
  obtain rfl : v801 = nI (i + 3) := e801.trans (nI_add _ _)
  refine va_sld hx hb hX hbl hbA hS (vp_in_nI (by omega) (by omega)) dL_law_802 ?_
  refine lv_topi (fun v802 e802 => ?_)
  obtain rfl : v802 = xs (i + 3) := e802.trans (by rw [nI_clamp (by omega)])
  refine lv_i2l hx hb dL_law_803 rfl ?_
  refine lv_topl (fun v803 e803 => ?_)
  refine lv_ldc2 (v := lN 4294967295) hx hb hown (hw _ kw_505) dL_law_804 ?_
  refine lv_land hx hb dL_law_807 ?_
  refine lv_topl (fun v807 e807 => ?_)
  refine lv_lor hx hb dL_law_808 ?_
  refine lv_topl (fun v808 e808 => ?_)
  obtain rfl : v808 = wdl (xs (i + 2)) (xs (i + 3)) := e808.trans (by rw [e807, e796, e793, e803]; rfl)
  have hFm := A_sub (D_right hD) hS hA
  refine va_calli (va_runV (As := [.int (xs (i + 1)), .long (wdl (xs (i + 2)) (xs (i + 3)))]) (rest := []) ⟨hx, hb, hml, hown, hw⟩ (c_M_is l dC dI H1.size cI cZ cJ hm ml mw mb ms mn er ln wh bi si nu ns its wss sbs hM (xs (i + 1)) (wdl (xs (i + 2)) (xs (i + 3)))) (cwV 2 hw (gV kw_484 kw_485 kw_486 kw_16 kw_487) rfl rfl rfl (by decide +kernel) ⟨Nat.le_of_ble_eq_true rfl, Nat.le_of_ble_eq_true rfl⟩) (rw_preV (q0 := 0) (hK.sub (tys' := [(cI, .int), (cZ, .boolean), (cJ, .long)]) [1, 2, 3] rfl) (P_right hP) (D_right hD) rfl rfl) rfl rfl hl.1 rfl (lv_room (Nat.le_of_ble_eq_true rfl)) dL_law_809 ⟨hcs, hss⟩) hS (fun q _ h => hFm q h) hFm (fun v809 u2 t2 H2 locs ht2 hvm2 e809 hB2 hz2 hk2 hS => ?_)
  obtain ⟨hP2, hK2, hD2⟩ := hB2
  rw [ht2] at hP2
  obtain ⟨hP, hD⟩ := join_suf hP hD hk2 hFm hP2 hD2
  refine lv_istore hx hb dL_law_812 hl (by decide) rfl (fun ls hl => ?_)
  have hl : lv_has ls 8 [(6, .int v809), (5, .int (nI (cdClear (xs (i + 1))))), (0, .ref b), (1, .ref ax), (2, .ref hm), (3, .ref hu), (4, .int (nI i))] := hl
  refine lv_aload_n hx hb dL_law_814 rfl (lv_at hl 4 rfl) ?_
  refine vp_callSi (W.runV (As := []) (rest := []) ⟨hx, hb, hml, hown, hw⟩ (c_M_thrown l dC dI cI cZ cJ hm ml mw mb ms mn (nI (cdClear (xs (i + 1)))) ln wh bi si nu ns its wss sbs hM) (cwV 0 hw (gV kw_405 kw_406 kw_407 kw_16 kw_408) rfl rfl rfl (by decide +kernel) ⟨Nat.le_of_ble_eq_true rfl, Nat.le_of_ble_eq_true rfl⟩) (ro_preV (q0 := 0) (hK.sub (tys' := [(cI, .int), (cZ, .boolean), (cJ, .long)]) [1, 2, 3] rfl) (P_right hP) rfl rfl) rfl rfl hl.1 rfl (lv_room (Nat.le_of_ble_eq_true rfl)) dL_law_815 ⟨hcs, hss⟩) (fun v815 e815 => ?_)
  obtain rfl : v815 = nI (cdClear (xs (i + 1))) := e815
  refine lv_iload hx hb dL_law_818 (lv_at hl 1 rfl) ?_
  refine lv_icmp_eq (tgt := 825) hx hb dL_law_820 (by decide) (fun h820 => ?_) (fun h820 => ?_)
  · refine lv_iload hx hb dL_law_825 (lv_at hl 1 rfl) ?_
    refine lv_if_ne (tgt := 849) hx hb dL_law_827 (by decide) (fun h827 => ?_) (fun h827 => ?_)
    · refine lv_goto (tgt := 1106) hx hb dL_law_849 (by decide) ?_
      exact kk _ _ _ _ _ _ _ ls (lv_sub (l' := [(0, .ref b), (1, .ref ax), (2, .ref hm), (3, .ref hu), (4, .int (nI i))]) hl [2, 3, 4, 5, 6] rfl) ⟨_, _, _, _, _, _, _, _, _, _, hXR, hM, hP, hD, hS⟩
    · have h0 := cd_z (cdClear_le _) h827
      have hq9 := hpo h0
      have hr9 := e809 h0
      refine lv_aload_n hx hb dL_law_830 rfl (lv_at hl 5 rfl) ?_
      refine lv_iconst (v := nI 0) hx hb dL_law_831 (by decide +kernel) ?_
      refine va_lald hx hb hK hP 3 3 rfl rfl (vp_in_nI (by omega) (by decide)) dL_law_832 ?_
      refine lv_topl (fun v832 e832 => ?_)
      obtain rfl : v832 = ou' 0 := e832.trans (by rw [nI_clamp (by omega)])
      refine lv_iload hx hb dL_law_833 (lv_at hl 0 rfl) ?_
      refine lv_if_eq (tgt := 842) hx hb dL_law_835 (by decide) (fun h835 => ?_) (fun h835 => ?_)
      · refine lv_lconst (v := lN 0) hx hb dL_law_842 (by decide +kernel) ?_
        refine W.lcmp hx hb dL_law_843 ?_
        refine lv_topi (fun v843 e843 => ?_)
        obtain rfl : v843 = nI 0 := e843.trans ((lg_cmp_eq _ _).mpr (by first | (rw [hq9, (b_nat0 _).mp (hr9.symm.trans h835)]; rfl) | (rw [hq9, b_nf (fun q => h835 (hr9.trans q))]; rfl)))
        refine lv_if_eq (tgt := 849) hx hb dL_law_844 (by decide) (fun h844 => ?_) (fun h844 => ?_)
        · refine lv_goto (tgt := 1106) hx hb dL_law_849 (by decide) ?_
          exact kk _ _ _ _ _ _ _ ls (lv_sub (l' := [(0, .ref b), (1, .ref ax), (2, .ref hm), (3, .ref hu), (4, .int (nI i))]) hl [2, 3, 4, 5, 6] rfl) ⟨_, _, _, _, _, _, _, _, _, _, hXR, hM, hP, hD, hS⟩
        · exfalso
          first | exact h844 (by decide +kernel) | exact absurd h844 (by decide +kernel)
      · refine lv_lconst (v := lN 1) hx hb dL_law_838 (by decide +kernel) ?_
        refine lv_goto (tgt := 843) hx hb dL_law_839 (by decide) ?_
        refine W.lcmp hx hb dL_law_843 ?_
        refine lv_topi (fun v843 e843 => ?_)
        obtain rfl : v843 = nI 0 := e843.trans ((lg_cmp_eq _ _).mpr (by first | (rw [hq9, (b_nat0 _).mp (hr9.symm.trans h835)]; rfl) | (rw [hq9, b_nf (fun q => h835 (hr9.trans q))]; rfl)))
        refine lv_if_eq (tgt := 849) hx hb dL_law_844 (by decide) (fun h844 => ?_) (fun h844 => ?_)
        · refine lv_goto (tgt := 1106) hx hb dL_law_849 (by decide) ?_
          exact kk _ _ _ _ _ _ _ ls (lv_sub (l' := [(0, .ref b), (1, .ref ax), (2, .ref hm), (3, .ref hu), (4, .int (nI i))]) hl [2, 3, 4, 5, 6] rfl) ⟨_, _, _, _, _, _, _, _, _, _, hXR, hM, hP, hD, hS⟩
        · exfalso
          first | exact h844 (by decide +kernel) | exact absurd h844 (by decide +kernel)
  · exfalso
    exact h820 rfl

set_option maxHeartbeats 4000000 in
set_option maxRecDepth 100000 in
theorem lc_decode (C : LC p l s m c b L xs dC dI sa cR cI cZ cJ A) (hl : lv_has ls 8 [(0, .ref b), (1, .ref ax), (2, .ref hm), (3, .ref hu), (4, .int (nI i))]) (hi : i + 5 ≤ L) (hI : lI A s.heap dC dI cR cI cZ cJ ax hfm hq hu ha pw ps po pk hm ml mw mb ms mn ns its wss sbs nu H locs) (hcs : cells + 1 ≤ 601024) (hss : slots + 6 ≤ 7293034)
    (kk : ∀ (ns : Nat → Nat) (its wss : Nat → Nat → Nat) (sbs : Nat → Nat → Bool) (nu : Nat → Int64) (H : Heap) (locs : List Loc) (ls : Array Slot), lv_has ls 8 [(0, .ref b), (1, .ref ax), (2, .ref hm), (3, .ref hu), (4, .int (nI i))] → lI A s.heap dC dI cR cI cZ cJ ax hfm hq hu ha pw ps po pk hm ml mw mb ms mn ns its wss sbs nu H locs → W p l e room_1 s m #[Value.ref b] below meth c H locs (cells + 1) (slots + 6) Q (F0 m 1106 ls [])) :
    W p l e room_1 s m #[Value.ref b] below meth c H locs cells slots Q (F0 m 852 ls []) := by
  obtain ⟨hx, hb, hml, hown, hw, hX, hbl, hK, hV, hZ0, hN, hl0, hL, hA, hAn⟩ := C
  have hbA := hAn b hbl
  obtain ⟨wd, sg, ow, co, ou, er, ln, wh, bi, si, hXR, hM, hP, hD, hS⟩ := hI
  have hZ : xZ s H := hZ0.kept (fun z hz => hS.2.1 z hz (hAn z hz))
  refine lv_aload_n hx hb dL_law_852 rfl (lv_at hl 1 rfl) ?_
  refine lv_aload_n hx hb dL_law_853 rfl (lv_at hl 0 rfl) ?_
  refine lv_iload hx hb dL_law_854 (lv_at hl 4 rfl) ?_
  refine lv_iconst (v := nI 1) hx hb dL_law_856 (by decide +kernel) ?_
  refine lv_iadd hx hb dL_law_857 ?_
  refine lv_topi (fun v857 e857 => ?_)
  obtain rfl : v857 = nI (i + 1) := e857.trans (nI_add _ _)
  refine va_sld hx hb hX hbl hbA hS (vp_in_nI (by omega) (by omega)) dL_law_858 ?_
  refine lv_topi (fun v858 e858 => ?_)
  obtain rfl : v858 = xs (i + 1) := e858.trans (by rw [nI_clamp (by omega)])
  refine lv_aload_n hx hb dL_law_859 rfl (lv_at hl 0 rfl) ?_
  refine lv_iload hx hb dL_law_860 (lv_at hl 4 rfl) ?_
  refine lv_iconst (v := nI 2) hx hb dL_law_862 (by decide +kernel) ?_
  refine lv_iadd hx hb dL_law_863 ?_
  refine lv_topi (fun v863 e863 => ?_)
  obtain rfl : v863 = nI (i + 2) := e863.trans (nI_add _ _)
  refine va_sld hx hb hX hbl hbA hS (vp_in_nI (by omega) (by omega)) dL_law_864 ?_
  refine lv_topi (fun v864 e864 => ?_)
  obtain rfl : v864 = xs (i + 2) := e864.trans (by rw [nI_clamp (by omega)])
  refine lv_aload_n hx hb dL_law_865 rfl (lv_at hl 0 rfl) ?_
  refine lv_iload hx hb dL_law_866 (lv_at hl 4 rfl) ?_
  refine lv_iconst (v := nI 3) hx hb dL_law_868 (by decide +kernel) ?_
  refine lv_iadd hx hb dL_law_869 ?_
  refine lv_topi (fun v869 e869 => ?_)
  obtain rfl : v869 = nI (i + 3) := e869.trans (nI_add _ _)
  refine va_sld hx hb hX hbl hbA hS (vp_in_nI (by omega) (by omega)) dL_law_870 ?_
  refine lv_topi (fun v870 e870 => ?_)
  obtain rfl : v870 = xs (i + 3) := e870.trans (by rw [nI_clamp (by omega)])
  refine lv_i2l hx hb dL_law_871 rfl ?_
  refine lv_topl (fun v871 e871 => ?_)
  refine lv_bipush (v := nI 32) hx hb dL_law_872 (by decide +kernel) ?_
  refine lv_lshl hx hb dL_law_874 rfl ?_
  refine lv_topl (fun v874 e874 => ?_)
  refine lv_aload_n hx hb dL_law_875 rfl (lv_at hl 0 rfl) ?_
  refine lv_iload hx hb dL_law_876 (lv_at hl 4 rfl) ?_
  refine lv_iconst (v := nI 4) hx hb dL_law_878 (by decide +kernel) ?_
  refine lv_iadd hx hb dL_law_879 ?_
  refine lv_topi (fun v879 e879 => ?_)
  obtain rfl : v879 = nI (i + 4) := e879.trans (nI_add _ _)
  refine va_sld hx hb hX hbl hbA hS (vp_in_nI (by omega) (by omega)) dL_law_880 ?_
  refine lv_topi (fun v880 e880 => ?_)
  obtain rfl : v880 = xs (i + 4) := e880.trans (by rw [nI_clamp (by omega)])
  refine lv_i2l hx hb dL_law_881 rfl ?_
  refine lv_topl (fun v881 e881 => ?_)
  refine lv_ldc2 (v := lN 4294967295) hx hb hown (hw _ kw_505) dL_law_882 ?_
  refine lv_land hx hb dL_law_885 ?_
  refine lv_topl (fun v885 e885 => ?_)
  refine lv_lor hx hb dL_law_886 ?_
  refine lv_topl (fun v886 e886 => ?_)
  obtain rfl : v886 = wdl (xs (i + 3)) (xs (i + 4)) := e886.trans (by rw [e885, e874, e871, e881]; rfl)
  refine lv_aload_n hx hb dL_law_887 rfl (lv_at hl 3 rfl) ?_
  have hFc := A_sub (D_left hD) hS hA
  refine va_calli (sw_run (n := 5) (As := [.ref ax, .int (xs (i + 1)), .int (xs (i + 2)), .long (wdl (xs (i + 3)) (xs (i + 4))), .ref hu]) (rest := []) ⟨hx, hb, hml, hown, hw⟩ (h_decode l hl0 dC dI H.size sa cR cI cZ cJ ax hfm hq hu ha pw ps po pk ns its wss sbs wd sg ow co nu ou hXR (xs (i + 1)) (xs (i + 2)) (wdl (xs (i + 3)) (xs (i + 4)))) rfl rfl ⟨Nat.le_of_ble_eq_true rfl, Nat.le_of_ble_eq_true rfl⟩ (pay_in hw (gI kw_345)) List.mem_cons_self (hw _ kw_13) (hw _ kw_343) (hw _ kw_344) (by decide +kernel) (xl_preS hK (P_left hP) (D_left hD) hV hZ hN) rfl rfl hl.1 rfl (lv_room (Nat.le_of_ble_eq_true rfl)) dL_law_888 ⟨hcs, hss⟩) hS (fun q _ h => hFc q h) hFc (fun v888 u t H1 locs ht hvm e888 hB hz1 hk1 hS => ?_)
  obtain ⟨wd', sg', ow', co', ou', hXR, hpo, hP1, hK1, hD1⟩ := hB
  rw [ht] at hP1
  obtain ⟨hP, hD⟩ := join_pre hP hD hk1 hFc hP1 hD1
  obtain rfl : v888 = nI (cdDec ns its wss (xs (i + 1)) (xs (i + 2)) (wdl (xs (i + 3)) (xs (i + 4)))) := e888
  refine lv_istore hx hb dL_law_891 hl (by decide) rfl (fun ls hl => ?_)
  have hl : lv_has ls 8 [(5, .int (nI (cdDec ns its wss (xs (i + 1)) (xs (i + 2)) (wdl (xs (i + 3)) (xs (i + 4)))))), (0, .ref b), (1, .ref ax), (2, .ref hm), (3, .ref hu), (4, .int (nI i))] := hl
  refine lv_aload_n hx hb dL_law_893 rfl (lv_at hl 3 rfl) ?_
  refine lv_aload_n hx hb dL_law_894 rfl (lv_at hl 1 rfl) ?_
  refine lv_iload hx hb dL_law_895 (lv_at hl 5 rfl) ?_
  refine lv_iconst (v := nI 1) hx hb dL_law_897 (by decide +kernel) ?_
  refine lv_iadd hx hb dL_law_898 ?_
  refine lv_topi (fun v898 e898 => ?_)
  obtain rfl : v898 = nI (i + 1) := e898.trans (nI_add _ _)
  refine va_sld hx hb hX hbl hbA hS (vp_in_nI (by omega) (by omega)) dL_law_899 ?_
  refine lv_topi (fun v899 e899 => ?_)
  obtain rfl : v899 = xs (i + 1) := e899.trans (by rw [nI_clamp (by omega)])
  refine lv_aload_n hx hb dL_law_900 rfl (lv_at hl 1 rfl) ?_
  refine lv_iload hx hb dL_law_901 (lv_at hl 5 rfl) ?_
  refine lv_iconst (v := nI 2) hx hb dL_law_903 (by decide +kernel) ?_
  refine lv_iadd hx hb dL_law_904 ?_
  refine lv_topi (fun v904 e904 => ?_)
  obtain rfl : v904 = nI (i + 2) := e904.trans (nI_add _ _)
  refine va_sld hx hb hX hbl hbA hS (vp_in_nI (by omega) (by omega)) dL_law_905 ?_
  refine lv_topi (fun v905 e905 => ?_)
  obtain rfl : v905 = xs (i + 2) := e905.trans (by rw [nI_clamp (by omega)])
  refine lv_aload_n hx hb dL_law_906 rfl (lv_at hl 1 rfl) ?_
  refine lv_iload hx hb dL_law_907 (lv_at hl 5 rfl) ?_
  refine lv_iconst (v := nI 3) hx hb dL_law_909 (by decide +kernel) ?_
  refine lv_iadd hx hb dL_law_910 ?_
  refine lv_topi (fun v910 e910 => ?_)
  obtain rfl : v910 = nI (i + 3) := e910.trans (nI_add _ _)
  refine va_sld hx hb hX hbl hbA hS (vp_in_nI (by omega) (by omega)) dL_law_911 ?_
  refine lv_topi (fun v911 e911 => ?_)
  obtain rfl : v911 = xs (i + 3) := e911.trans (by rw [nI_clamp (by omega)])
  refine lv_i2l hx hb dL_law_912 rfl ?_
  refine lv_topl (fun v912 e912 => ?_)
  refine lv_bipush (v := nI 32) hx hb dL_law_913 (by decide +kernel) ?_
  refine lv_lshl hx hb dL_law_915 rfl ?_
  refine lv_topl (fun v915 e915 => ?_)
  refine lv_aload_n hx hb dL_law_916 rfl (lv_at hl 1 rfl) ?_
  refine lv_iload hx hb dL_law_917 (lv_at hl 5 rfl) ?_
  refine lv_iconst (v := nI 4) hx hb dL_law_919 (by decide +kernel) ?_
  refine lv_iadd hx hb dL_law_920 ?_
  refine lv_topi (fun v920 e920 => ?_)
  obtain rfl : v920 = nI (i + 4) := e920.trans (nI_add _ _)
  refine va_sld hx hb hX hbl hbA hS (vp_in_nI (by omega) (by omega)) dL_law_921 ?_
  refine lv_topi (fun v921 e921 => ?_)
  obtain rfl : v921 = xs (i + 4) := e921.trans (by rw [nI_clamp (by omega)])
  refine lv_i2l hx hb dL_law_922 rfl ?_
  refine lv_topl (fun v922 e922 => ?_)
  refine lv_ldc2 (v := lN 4294967295) hx hb hown (hw _ kw_505) dL_law_923 ?_
  refine lv_land hx hb dL_law_926 ?_
  refine lv_topl (fun v926 e926 => ?_)
  refine lv_lor hx hb dL_law_927 ?_
  refine lv_topl (fun v927 e927 => ?_)
  obtain rfl : v927 = wdl (xs (i + 3)) (xs (i + 4)) := e927.trans (by rw [e926, e915, e912, e922]; rfl)
  have hFm := A_sub (D_right hD) hS hA
  refine va_calll (va_runV (As := [.int (xs (i + 1)), .int (xs (i + 2)), .long (wdl (xs (i + 3)) (xs (i + 4)))]) (rest := []) ⟨hx, hb, hml, hown, hw⟩ (c_M_decode l dC dI H1.size cI cZ cJ hm ml mw mb ms mn er ln wh bi si nu ns its wss sbs hM (xs (i + 1)) (xs (i + 2)) (wdl (xs (i + 3)) (xs (i + 4)))) (cwV 3 hw (gV kw_492 kw_493 kw_494 kw_16 kw_495) rfl rfl rfl (by decide +kernel) ⟨Nat.le_of_ble_eq_true rfl, Nat.le_of_ble_eq_true rfl⟩) (rw_preV (q0 := 0) (hK.sub (tys' := [(cI, .int), (cZ, .boolean), (cJ, .long)]) [1, 2, 3] rfl) (P_right hP) (D_right hD) rfl rfl) rfl rfl hl.1 rfl (lv_room (Nat.le_of_ble_eq_true rfl)) dL_law_928 ⟨hcs, hss⟩) hS (fun q _ h => hFm q h) hFm (fun v928 u2 t2 H2 locs ht2 hvm2 e928 hB2 hz2 hk2 hS => ?_)
  obtain ⟨hP2, hK2, hD2⟩ := hB2
  rw [ht2] at hP2
  obtain ⟨hP, hD⟩ := join_suf hP hD hk2 hFm hP2 hD2
  refine lv_lstore hx hb dL_law_931 hl (by decide) rfl (fun ls hl => ?_)
  have hl : lv_has ls 8 [(6, .long v928), (5, .int (nI (cdDec ns its wss (xs (i + 1)) (xs (i + 2)) (wdl (xs (i + 3)) (xs (i + 4)))))), (0, .ref b), (1, .ref ax), (2, .ref hm), (3, .ref hu), (4, .int (nI i))] := hl
  refine lv_aload_n hx hb dL_law_933 rfl (lv_at hl 4 rfl) ?_
  refine vp_callSi (W.runV (As := []) (rest := []) ⟨hx, hb, hml, hown, hw⟩ (c_M_thrown l dC dI cI cZ cJ hm ml mw mb ms mn (nI (cdDec ns its wss (xs (i + 1)) (xs (i + 2)) (wdl (xs (i + 3)) (xs (i + 4))))) ln wh bi si nu ns its wss sbs hM) (cwV 0 hw (gV kw_405 kw_406 kw_407 kw_16 kw_408) rfl rfl rfl (by decide +kernel) ⟨Nat.le_of_ble_eq_true rfl, Nat.le_of_ble_eq_true rfl⟩) (ro_preV (q0 := 0) (hK.sub (tys' := [(cI, .int), (cZ, .boolean), (cJ, .long)]) [1, 2, 3] rfl) (P_right hP) rfl rfl) rfl rfl hl.1 rfl (lv_room (Nat.le_of_ble_eq_true rfl)) dL_law_934 ⟨hcs, hss⟩) (fun v934 e934 => ?_)
  obtain rfl : v934 = nI (cdDec ns its wss (xs (i + 1)) (xs (i + 2)) (wdl (xs (i + 3)) (xs (i + 4)))) := e934
  refine lv_iload hx hb dL_law_937 (lv_at hl 1 rfl) ?_
  refine lv_icmp_eq (tgt := 944) hx hb dL_law_939 (by decide) (fun h939 => ?_) (fun h939 => ?_)
  · refine lv_iload hx hb dL_law_944 (lv_at hl 1 rfl) ?_
    refine lv_if_ne (tgt := 960) hx hb dL_law_946 (by decide) (fun h946 => ?_) (fun h946 => ?_)
    · refine lv_goto (tgt := 1106) hx hb dL_law_960 (by decide) ?_
      exact kk _ _ _ _ _ _ _ ls (lv_sub (l' := [(0, .ref b), (1, .ref ax), (2, .ref hm), (3, .ref hu), (4, .int (nI i))]) hl [2, 3, 4, 5, 6] rfl) ⟨_, _, _, _, _, _, _, _, _, _, hXR, hM, hP, hD, hS⟩
    · have h0 := cd_z (cdDec_le _ _ _ _ _ _) h946
      have hq9 := hpo h0
      have hr9 := e928 h0
      refine lv_aload_n hx hb dL_law_949 rfl (lv_at hl 5 rfl) ?_
      refine lv_iconst (v := nI 0) hx hb dL_law_950 (by decide +kernel) ?_
      refine va_lald hx hb hK hP 3 3 rfl rfl (vp_in_nI (by omega) (by decide)) dL_law_951 ?_
      refine lv_topl (fun v951 e951 => ?_)
      obtain rfl : v951 = ou' 0 := e951.trans (by rw [nI_clamp (by omega)])
      refine lv_lload hx hb dL_law_952 (lv_at hl 0 rfl) ?_
      refine W.lcmp hx hb dL_law_954 ?_
      refine lv_topi (fun v954 e954 => ?_)
      obtain rfl : v954 = nI 0 := e954.trans ((lg_cmp_eq _ _).mpr (dcP_eq h0 hq9 hr9))
      refine lv_if_eq (tgt := 960) hx hb dL_law_955 (by decide) (fun h955 => ?_) (fun h955 => ?_)
      · refine lv_goto (tgt := 1106) hx hb dL_law_960 (by decide) ?_
        exact kk _ _ _ _ _ _ _ ls (lv_sub (l' := [(0, .ref b), (1, .ref ax), (2, .ref hm), (3, .ref hu), (4, .int (nI i))]) hl [2, 3, 4, 5, 6] rfl) ⟨_, _, _, _, _, _, _, _, _, _, hXR, hM, hP, hD, hS⟩
      · exfalso
        first | exact h955 (by decide +kernel) | exact absurd h955 (by decide +kernel)
  · exfalso
    exact h939 rfl

set_option maxHeartbeats 4000000 in
set_option maxRecDepth 100000 in
theorem lc_meet (C : LC p l s m c b L xs dC dI sa cR cI cZ cJ A) (hl : lv_has ls 8 [(0, .ref b), (1, .ref ax), (2, .ref hm), (3, .ref hu), (4, .int (nI i))]) (hi : i + 5 ≤ L) (hI : lI A s.heap dC dI cR cI cZ cJ ax hfm hq hu ha pw ps po pk hm ml mw mb ms mn ns its wss sbs nu H locs) (hcs : cells + 1 ≤ 601024) (hss : slots + 6 ≤ 7293034)
    (kk : ∀ (ns : Nat → Nat) (its wss : Nat → Nat → Nat) (sbs : Nat → Nat → Bool) (nu : Nat → Int64) (H : Heap) (locs : List Loc) (ls : Array Slot), lv_has ls 8 [(0, .ref b), (1, .ref ax), (2, .ref hm), (3, .ref hu), (4, .int (nI i))] → lI A s.heap dC dI cR cI cZ cJ ax hfm hq hu ha pw ps po pk hm ml mw mb ms mn ns its wss sbs nu H locs → W p l e room_1 s m #[Value.ref b] below meth c H locs (cells + 1) (slots + 6) Q (F0 m 1106 ls [])) :
    W p l e room_1 s m #[Value.ref b] below meth c H locs cells slots Q (F0 m 963 ls []) := by
  obtain ⟨hx, hb, hml, hown, hw, hX, hbl, hK, hV, hZ0, hN, hl0, hL, hA, hAn⟩ := C
  have hbA := hAn b hbl
  obtain ⟨wd, sg, ow, co, ou, er, ln, wh, bi, si, hXR, hM, hP, hD, hS⟩ := hI
  have hZ : xZ s H := hZ0.kept (fun z hz => hS.2.1 z hz (hAn z hz))
  refine lv_aload_n hx hb dL_law_963 rfl (lv_at hl 1 rfl) ?_
  refine lv_aload_n hx hb dL_law_964 rfl (lv_at hl 0 rfl) ?_
  refine lv_iload hx hb dL_law_965 (lv_at hl 4 rfl) ?_
  refine lv_iconst (v := nI 1) hx hb dL_law_967 (by decide +kernel) ?_
  refine lv_iadd hx hb dL_law_968 ?_
  refine lv_topi (fun v968 e968 => ?_)
  obtain rfl : v968 = nI (i + 1) := e968.trans (nI_add _ _)
  refine va_sld hx hb hX hbl hbA hS (vp_in_nI (by omega) (by omega)) dL_law_969 ?_
  refine lv_topi (fun v969 e969 => ?_)
  obtain rfl : v969 = xs (i + 1) := e969.trans (by rw [nI_clamp (by omega)])
  refine lv_aload_n hx hb dL_law_970 rfl (lv_at hl 0 rfl) ?_
  refine lv_iload hx hb dL_law_971 (lv_at hl 4 rfl) ?_
  refine lv_iconst (v := nI 2) hx hb dL_law_973 (by decide +kernel) ?_
  refine lv_iadd hx hb dL_law_974 ?_
  refine lv_topi (fun v974 e974 => ?_)
  obtain rfl : v974 = nI (i + 2) := e974.trans (nI_add _ _)
  refine va_sld hx hb hX hbl hbA hS (vp_in_nI (by omega) (by omega)) dL_law_975 ?_
  refine lv_topi (fun v975 e975 => ?_)
  obtain rfl : v975 = xs (i + 2) := e975.trans (by rw [nI_clamp (by omega)])
  refine lv_aload_n hx hb dL_law_976 rfl (lv_at hl 3 rfl) ?_
  have hFc := A_sub (D_left hD) hS hA
  refine va_calli (sw_run (n := 4) (As := [.ref ax, .int (xs (i + 1)), .int (xs (i + 2)), .ref hu]) (rest := []) ⟨hx, hb, hml, hown, hw⟩ (h_meet l hl0 dC dI H.size sa cR cI cZ cJ ax hfm hq hu ha pw ps po pk ns its wss sbs wd sg ow co nu ou hXR (xs (i + 1)) (xs (i + 2))) rfl rfl ⟨Nat.le_of_ble_eq_true rfl, Nat.le_of_ble_eq_true rfl⟩ (pay_in hw (gI kw_357)) List.mem_cons_self (hw _ kw_13) (hw _ kw_355) (hw _ kw_356) (by decide +kernel) (xl_preS hK (P_left hP) (D_left hD) hV hZ hN) rfl rfl hl.1 rfl (lv_room (Nat.le_of_ble_eq_true rfl)) dL_law_977 ⟨hcs, hss⟩) hS (fun q _ h => hFc q h) hFc (fun v977 u t H1 locs ht hvm e977 hB hz1 hk1 hS => ?_)
  obtain ⟨wd', sg', ow', co', ou', hXR, hpo, hP1, hK1, hD1⟩ := hB
  rw [ht] at hP1
  obtain ⟨hP, hD⟩ := join_pre hP hD hk1 hFc hP1 hD1
  obtain rfl : v977 = nI (cdMeet (xs (i + 1)) (xs (i + 2))) := e977
  refine lv_istore hx hb dL_law_980 hl (by decide) rfl (fun ls hl => ?_)
  have hl : lv_has ls 8 [(5, .int (nI (cdMeet (xs (i + 1)) (xs (i + 2))))), (0, .ref b), (1, .ref ax), (2, .ref hm), (3, .ref hu), (4, .int (nI i))] := hl
  refine lv_aload_n hx hb dL_law_982 rfl (lv_at hl 3 rfl) ?_
  refine lv_aload_n hx hb dL_law_983 rfl (lv_at hl 1 rfl) ?_
  refine lv_iload hx hb dL_law_984 (lv_at hl 5 rfl) ?_
  refine lv_iconst (v := nI 1) hx hb dL_law_986 (by decide +kernel) ?_
  refine lv_iadd hx hb dL_law_987 ?_
  refine lv_topi (fun v987 e987 => ?_)
  obtain rfl : v987 = nI (i + 1) := e987.trans (nI_add _ _)
  refine va_sld hx hb hX hbl hbA hS (vp_in_nI (by omega) (by omega)) dL_law_988 ?_
  refine lv_topi (fun v988 e988 => ?_)
  obtain rfl : v988 = xs (i + 1) := e988.trans (by rw [nI_clamp (by omega)])
  refine lv_aload_n hx hb dL_law_989 rfl (lv_at hl 1 rfl) ?_
  refine lv_iload hx hb dL_law_990 (lv_at hl 5 rfl) ?_
  refine lv_iconst (v := nI 2) hx hb dL_law_992 (by decide +kernel) ?_
  refine lv_iadd hx hb dL_law_993 ?_
  refine lv_topi (fun v993 e993 => ?_)
  obtain rfl : v993 = nI (i + 2) := e993.trans (nI_add _ _)
  refine va_sld hx hb hX hbl hbA hS (vp_in_nI (by omega) (by omega)) dL_law_994 ?_
  refine lv_topi (fun v994 e994 => ?_)
  obtain rfl : v994 = xs (i + 2) := e994.trans (by rw [nI_clamp (by omega)])
  have hFm := A_sub (D_right hD) hS hA
  refine va_calli (va_runV (As := [.int (xs (i + 1)), .int (xs (i + 2))]) (rest := []) ⟨hx, hb, hml, hown, hw⟩ (c_M_meet l dC dI H1.size cI cZ cJ hm ml mw mb ms mn er ln wh bi si nu ns its wss sbs hM (xs (i + 1)) (xs (i + 2))) (cwV 2 hw (gV kw_496 kw_497 kw_498 kw_16 kw_499) rfl rfl rfl (by decide +kernel) ⟨Nat.le_of_ble_eq_true rfl, Nat.le_of_ble_eq_true rfl⟩) (rw_preV (q0 := 0) (hK.sub (tys' := [(cI, .int), (cZ, .boolean), (cJ, .long)]) [1, 2, 3] rfl) (P_right hP) (D_right hD) rfl rfl) rfl rfl hl.1 rfl (lv_room (Nat.le_of_ble_eq_true rfl)) dL_law_995 ⟨hcs, hss⟩) hS (fun q _ h => hFm q h) hFm (fun v995 u2 t2 H2 locs ht2 hvm2 e995 hB2 hz2 hk2 hS => ?_)
  obtain ⟨hP2, hK2, hD2⟩ := hB2
  rw [ht2] at hP2
  obtain ⟨hP, hD⟩ := join_suf hP hD hk2 hFm hP2 hD2
  refine lv_istore hx hb dL_law_998 hl (by decide) rfl (fun ls hl => ?_)
  have hl : lv_has ls 8 [(6, .int v995), (5, .int (nI (cdMeet (xs (i + 1)) (xs (i + 2))))), (0, .ref b), (1, .ref ax), (2, .ref hm), (3, .ref hu), (4, .int (nI i))] := hl
  refine lv_aload_n hx hb dL_law_1000 rfl (lv_at hl 4 rfl) ?_
  refine vp_callSi (W.runV (As := []) (rest := []) ⟨hx, hb, hml, hown, hw⟩ (c_M_thrown l dC dI cI cZ cJ hm ml mw mb ms mn (nI (cdMeet (xs (i + 1)) (xs (i + 2)))) ln wh bi si nu ns its wss sbs hM) (cwV 0 hw (gV kw_405 kw_406 kw_407 kw_16 kw_408) rfl rfl rfl (by decide +kernel) ⟨Nat.le_of_ble_eq_true rfl, Nat.le_of_ble_eq_true rfl⟩) (ro_preV (q0 := 0) (hK.sub (tys' := [(cI, .int), (cZ, .boolean), (cJ, .long)]) [1, 2, 3] rfl) (P_right hP) rfl rfl) rfl rfl hl.1 rfl (lv_room (Nat.le_of_ble_eq_true rfl)) dL_law_1001 ⟨hcs, hss⟩) (fun v1001 e1001 => ?_)
  obtain rfl : v1001 = nI (cdMeet (xs (i + 1)) (xs (i + 2))) := e1001
  refine lv_iload hx hb dL_law_1004 (lv_at hl 1 rfl) ?_
  refine lv_icmp_eq (tgt := 1011) hx hb dL_law_1006 (by decide) (fun h1006 => ?_) (fun h1006 => ?_)
  · refine lv_iload hx hb dL_law_1011 (lv_at hl 1 rfl) ?_
    refine lv_if_ne (tgt := 1035) hx hb dL_law_1013 (by decide) (fun h1013 => ?_) (fun h1013 => ?_)
    · refine lv_goto (tgt := 1106) hx hb dL_law_1035 (by decide) ?_
      exact kk _ _ _ _ _ _ _ ls (lv_sub (l' := [(0, .ref b), (1, .ref ax), (2, .ref hm), (3, .ref hu), (4, .int (nI i))]) hl [2, 3, 4, 5, 6] rfl) ⟨_, _, _, _, _, _, _, _, _, _, hXR, hM, hP, hD, hS⟩
    · have h0 := cd_z (cdMeet_le _ _) h1013
      have hq9 := hpo h0
      have hr9 := e995 h0
      refine lv_aload_n hx hb dL_law_1016 rfl (lv_at hl 5 rfl) ?_
      refine lv_iconst (v := nI 0) hx hb dL_law_1017 (by decide +kernel) ?_
      refine va_lald hx hb hK hP 3 3 rfl rfl (vp_in_nI (by omega) (by decide)) dL_law_1018 ?_
      refine lv_topl (fun v1018 e1018 => ?_)
      obtain rfl : v1018 = ou' 0 := e1018.trans (by rw [nI_clamp (by omega)])
      refine lv_iload hx hb dL_law_1019 (lv_at hl 0 rfl) ?_
      refine lv_if_eq (tgt := 1028) hx hb dL_law_1021 (by decide) (fun h1021 => ?_) (fun h1021 => ?_)
      · refine lv_lconst (v := lN 0) hx hb dL_law_1028 (by decide +kernel) ?_
        refine W.lcmp hx hb dL_law_1029 ?_
        refine lv_topi (fun v1029 e1029 => ?_)
        obtain rfl : v1029 = nI 0 := e1029.trans ((lg_cmp_eq _ _).mpr (by first | (rw [hq9, (b_nat0 _).mp (hr9.symm.trans h1021)]; rfl) | (rw [hq9, b_nf (fun q => h1021 (hr9.trans q))]; rfl)))
        refine lv_if_eq (tgt := 1035) hx hb dL_law_1030 (by decide) (fun h1030 => ?_) (fun h1030 => ?_)
        · refine lv_goto (tgt := 1106) hx hb dL_law_1035 (by decide) ?_
          exact kk _ _ _ _ _ _ _ ls (lv_sub (l' := [(0, .ref b), (1, .ref ax), (2, .ref hm), (3, .ref hu), (4, .int (nI i))]) hl [2, 3, 4, 5, 6] rfl) ⟨_, _, _, _, _, _, _, _, _, _, hXR, hM, hP, hD, hS⟩
        · exfalso
          first | exact h1030 (by decide +kernel) | exact absurd h1030 (by decide +kernel)
      · refine lv_lconst (v := lN 1) hx hb dL_law_1024 (by decide +kernel) ?_
        refine lv_goto (tgt := 1029) hx hb dL_law_1025 (by decide) ?_
        refine W.lcmp hx hb dL_law_1029 ?_
        refine lv_topi (fun v1029 e1029 => ?_)
        obtain rfl : v1029 = nI 0 := e1029.trans ((lg_cmp_eq _ _).mpr (by first | (rw [hq9, (b_nat0 _).mp (hr9.symm.trans h1021)]; rfl) | (rw [hq9, b_nf (fun q => h1021 (hr9.trans q))]; rfl)))
        refine lv_if_eq (tgt := 1035) hx hb dL_law_1030 (by decide) (fun h1030 => ?_) (fun h1030 => ?_)
        · refine lv_goto (tgt := 1106) hx hb dL_law_1035 (by decide) ?_
          exact kk _ _ _ _ _ _ _ ls (lv_sub (l' := [(0, .ref b), (1, .ref ax), (2, .ref hm), (3, .ref hu), (4, .int (nI i))]) hl [2, 3, 4, 5, 6] rfl) ⟨_, _, _, _, _, _, _, _, _, _, hXR, hM, hP, hD, hS⟩
        · exfalso
          first | exact h1030 (by decide +kernel) | exact absurd h1030 (by decide +kernel)
  · exfalso
    exact h1006 rfl

set_option maxHeartbeats 4000000 in
set_option maxRecDepth 100000 in
theorem lc_count (C : LC p l s m c b L xs dC dI sa cR cI cZ cJ A) (hl : lv_has ls 8 [(0, .ref b), (1, .ref ax), (2, .ref hm), (3, .ref hu), (4, .int (nI i))]) (hi : i + 5 ≤ L) (hI : lI A s.heap dC dI cR cI cZ cJ ax hfm hq hu ha pw ps po pk hm ml mw mb ms mn ns its wss sbs nu H locs) (hcs : cells + 1 ≤ 601024) (hss : slots + 6 ≤ 7293034)
    (kk : ∀ (ns : Nat → Nat) (its wss : Nat → Nat → Nat) (sbs : Nat → Nat → Bool) (nu : Nat → Int64) (H : Heap) (locs : List Loc) (ls : Array Slot), lv_has ls 8 [(0, .ref b), (1, .ref ax), (2, .ref hm), (3, .ref hu), (4, .int (nI i))] → lI A s.heap dC dI cR cI cZ cJ ax hfm hq hu ha pw ps po pk hm ml mw mb ms mn ns its wss sbs nu H locs → W p l e room_1 s m #[Value.ref b] below meth c H locs (cells + 1) (slots + 6) Q (F0 m 1106 ls [])) :
    W p l e room_1 s m #[Value.ref b] below meth c H locs cells slots Q (F0 m 1038 ls []) := by
  obtain ⟨hx, hb, hml, hown, hw, hX, hbl, hK, hV, hZ0, hN, hl0, hL, hA, hAn⟩ := C
  have hbA := hAn b hbl
  obtain ⟨wd, sg, ow, co, ou, er, ln, wh, bi, si, hXR, hM, hP, hD, hS⟩ := hI
  have hZ : xZ s H := hZ0.kept (fun z hz => hS.2.1 z hz (hAn z hz))
  refine lv_aload_n hx hb dL_law_1038 rfl (lv_at hl 1 rfl) ?_
  refine lv_aload_n hx hb dL_law_1039 rfl (lv_at hl 0 rfl) ?_
  refine lv_iload hx hb dL_law_1040 (lv_at hl 4 rfl) ?_
  refine lv_iconst (v := nI 1) hx hb dL_law_1042 (by decide +kernel) ?_
  refine lv_iadd hx hb dL_law_1043 ?_
  refine lv_topi (fun v1043 e1043 => ?_)
  obtain rfl : v1043 = nI (i + 1) := e1043.trans (nI_add _ _)
  refine va_sld hx hb hX hbl hbA hS (vp_in_nI (by omega) (by omega)) dL_law_1044 ?_
  refine lv_topi (fun v1044 e1044 => ?_)
  obtain rfl : v1044 = xs (i + 1) := e1044.trans (by rw [nI_clamp (by omega)])
  refine lv_aload_n hx hb dL_law_1045 rfl (lv_at hl 0 rfl) ?_
  refine lv_iload hx hb dL_law_1046 (lv_at hl 4 rfl) ?_
  refine lv_iconst (v := nI 2) hx hb dL_law_1048 (by decide +kernel) ?_
  refine lv_iadd hx hb dL_law_1049 ?_
  refine lv_topi (fun v1049 e1049 => ?_)
  obtain rfl : v1049 = nI (i + 2) := e1049.trans (nI_add _ _)
  refine va_sld hx hb hX hbl hbA hS (vp_in_nI (by omega) (by omega)) dL_law_1050 ?_
  refine lv_topi (fun v1050 e1050 => ?_)
  obtain rfl : v1050 = xs (i + 2) := e1050.trans (by rw [nI_clamp (by omega)])
  refine lv_aload_n hx hb dL_law_1051 rfl (lv_at hl 3 rfl) ?_
  have hFc := A_sub (D_left hD) hS hA
  refine va_calli (sw_run (n := 4) (As := [.ref ax, .int (xs (i + 1)), .int (xs (i + 2)), .ref hu]) (rest := []) ⟨hx, hb, hml, hown, hw⟩ (h_count l hl0 dC dI H.size sa cR cI cZ cJ ax hfm hq hu ha pw ps po pk ns its wss sbs wd sg ow co nu ou hXR (xs (i + 1)) (xs (i + 2))) rfl rfl ⟨Nat.le_of_ble_eq_true rfl, Nat.le_of_ble_eq_true rfl⟩ (pay_in hw (gI kw_368)) List.mem_cons_self (hw _ kw_13) (hw _ kw_366) (hw _ kw_367) (by decide +kernel) (xl_preS hK (P_left hP) (D_left hD) hV hZ hN) rfl rfl hl.1 rfl (lv_room (Nat.le_of_ble_eq_true rfl)) dL_law_1052 ⟨hcs, hss⟩) hS (fun q _ h => hFc q h) hFc (fun v1052 u t H1 locs ht hvm e1052 hB hz1 hk1 hS => ?_)
  obtain ⟨wd', sg', ow', co', ou', hXR, hpo, hP1, hK1, hD1⟩ := hB
  rw [ht] at hP1
  obtain ⟨hP, hD⟩ := join_pre hP hD hk1 hFc hP1 hD1
  obtain rfl : v1052 = nI (cdCnt (xs (i + 1)) (xs (i + 2))) := e1052
  refine lv_istore hx hb dL_law_1055 hl (by decide) rfl (fun ls hl => ?_)
  have hl : lv_has ls 8 [(5, .int (nI (cdCnt (xs (i + 1)) (xs (i + 2))))), (0, .ref b), (1, .ref ax), (2, .ref hm), (3, .ref hu), (4, .int (nI i))] := hl
  refine lv_aload_n hx hb dL_law_1057 rfl (lv_at hl 3 rfl) ?_
  refine lv_aload_n hx hb dL_law_1058 rfl (lv_at hl 1 rfl) ?_
  refine lv_iload hx hb dL_law_1059 (lv_at hl 5 rfl) ?_
  refine lv_iconst (v := nI 1) hx hb dL_law_1061 (by decide +kernel) ?_
  refine lv_iadd hx hb dL_law_1062 ?_
  refine lv_topi (fun v1062 e1062 => ?_)
  obtain rfl : v1062 = nI (i + 1) := e1062.trans (nI_add _ _)
  refine va_sld hx hb hX hbl hbA hS (vp_in_nI (by omega) (by omega)) dL_law_1063 ?_
  refine lv_topi (fun v1063 e1063 => ?_)
  obtain rfl : v1063 = xs (i + 1) := e1063.trans (by rw [nI_clamp (by omega)])
  refine lv_aload_n hx hb dL_law_1064 rfl (lv_at hl 1 rfl) ?_
  refine lv_iload hx hb dL_law_1065 (lv_at hl 5 rfl) ?_
  refine lv_iconst (v := nI 2) hx hb dL_law_1067 (by decide +kernel) ?_
  refine lv_iadd hx hb dL_law_1068 ?_
  refine lv_topi (fun v1068 e1068 => ?_)
  obtain rfl : v1068 = nI (i + 2) := e1068.trans (nI_add _ _)
  refine va_sld hx hb hX hbl hbA hS (vp_in_nI (by omega) (by omega)) dL_law_1069 ?_
  refine lv_topi (fun v1069 e1069 => ?_)
  obtain rfl : v1069 = xs (i + 2) := e1069.trans (by rw [nI_clamp (by omega)])
  have hFm := A_sub (D_right hD) hS hA
  refine va_calli (va_runV (As := [.int (xs (i + 1)), .int (xs (i + 2))]) (rest := []) ⟨hx, hb, hml, hown, hw⟩ (c_M_count l dC dI H1.size cI cZ cJ hm ml mw mb ms mn er ln wh bi si nu ns its wss sbs hM (xs (i + 1)) (xs (i + 2))) (cwV 2 hw (gV kw_500 kw_501 kw_502 kw_16 kw_503) rfl rfl rfl (by decide +kernel) ⟨Nat.le_of_ble_eq_true rfl, Nat.le_of_ble_eq_true rfl⟩) (rw_preV (q0 := 0) (hK.sub (tys' := [(cI, .int), (cZ, .boolean), (cJ, .long)]) [1, 2, 3] rfl) (P_right hP) (D_right hD) rfl rfl) rfl rfl hl.1 rfl (lv_room (Nat.le_of_ble_eq_true rfl)) dL_law_1070 ⟨hcs, hss⟩) hS (fun q _ h => hFm q h) hFm (fun v1070 u2 t2 H2 locs ht2 hvm2 e1070 hB2 hz2 hk2 hS => ?_)
  obtain ⟨hP2, hK2, hD2⟩ := hB2
  rw [ht2] at hP2
  obtain ⟨hP, hD⟩ := join_suf hP hD hk2 hFm hP2 hD2
  refine lv_istore hx hb dL_law_1073 hl (by decide) rfl (fun ls hl => ?_)
  have hl : lv_has ls 8 [(6, .int v1070), (5, .int (nI (cdCnt (xs (i + 1)) (xs (i + 2))))), (0, .ref b), (1, .ref ax), (2, .ref hm), (3, .ref hu), (4, .int (nI i))] := hl
  refine lv_aload_n hx hb dL_law_1075 rfl (lv_at hl 4 rfl) ?_
  refine vp_callSi (W.runV (As := []) (rest := []) ⟨hx, hb, hml, hown, hw⟩ (c_M_thrown l dC dI cI cZ cJ hm ml mw mb ms mn (nI (cdCnt (xs (i + 1)) (xs (i + 2)))) ln wh bi si nu ns its wss sbs hM) (cwV 0 hw (gV kw_405 kw_406 kw_407 kw_16 kw_408) rfl rfl rfl (by decide +kernel) ⟨Nat.le_of_ble_eq_true rfl, Nat.le_of_ble_eq_true rfl⟩) (ro_preV (q0 := 0) (hK.sub (tys' := [(cI, .int), (cZ, .boolean), (cJ, .long)]) [1, 2, 3] rfl) (P_right hP) rfl rfl) rfl rfl hl.1 rfl (lv_room (Nat.le_of_ble_eq_true rfl)) dL_law_1076 ⟨hcs, hss⟩) (fun v1076 e1076 => ?_)
  obtain rfl : v1076 = nI (cdCnt (xs (i + 1)) (xs (i + 2))) := e1076
  refine lv_iload hx hb dL_law_1079 (lv_at hl 1 rfl) ?_
  refine lv_icmp_eq (tgt := 1086) hx hb dL_law_1081 (by decide) (fun h1081 => ?_) (fun h1081 => ?_)
  · refine lv_iload hx hb dL_law_1086 (lv_at hl 1 rfl) ?_
    refine lv_if_ne (tgt := 1103) hx hb dL_law_1088 (by decide) (fun h1088 => ?_) (fun h1088 => ?_)
    · refine lv_goto (tgt := 1106) hx hb dL_law_1103 (by decide) ?_
      exact kk _ _ _ _ _ _ _ ls (lv_sub (l' := [(0, .ref b), (1, .ref ax), (2, .ref hm), (3, .ref hu), (4, .int (nI i))]) hl [2, 3, 4, 5, 6] rfl) ⟨_, _, _, _, _, _, _, _, _, _, hXR, hM, hP, hD, hS⟩
    · have h0 := cd_z (cdCnt_le _ _) h1088
      have hq9 := hpo h0
      have hr9 := e1070 h0
      refine lv_aload_n hx hb dL_law_1091 rfl (lv_at hl 5 rfl) ?_
      refine lv_iconst (v := nI 0) hx hb dL_law_1092 (by decide +kernel) ?_
      refine va_lald hx hb hK hP 3 3 rfl rfl (vp_in_nI (by omega) (by decide)) dL_law_1093 ?_
      refine lv_topl (fun v1093 e1093 => ?_)
      obtain rfl : v1093 = ou' 0 := e1093.trans (by rw [nI_clamp (by omega)])
      refine lv_iload hx hb dL_law_1094 (lv_at hl 0 rfl) ?_
      refine lv_i2l hx hb dL_law_1096 rfl ?_
      refine lv_topl (fun v1096 e1096 => ?_)
      refine W.lcmp hx hb dL_law_1097 ?_
      refine lv_topi (fun v1097 e1097 => ?_)
      obtain rfl : v1097 = nI 0 := e1097.trans ((lg_cmp_eq _ _).mpr (by rw [hq9, e1096, hr9]))
      refine lv_if_eq (tgt := 1103) hx hb dL_law_1098 (by decide) (fun h1098 => ?_) (fun h1098 => ?_)
      · refine lv_goto (tgt := 1106) hx hb dL_law_1103 (by decide) ?_
        exact kk _ _ _ _ _ _ _ ls (lv_sub (l' := [(0, .ref b), (1, .ref ax), (2, .ref hm), (3, .ref hu), (4, .int (nI i))]) hl [2, 3, 4, 5, 6] rfl) ⟨_, _, _, _, _, _, _, _, _, _, hXR, hM, hP, hD, hS⟩
      · exfalso
        first | exact h1098 (by decide +kernel) | exact absurd h1098 (by decide +kernel)
  · exfalso
    exact h1081 rfl

end LAWCASES
