theorem thr_t {wss : Nat → Nat → Nat} {f o : Nat} (hf : f < 8) (ho : o < 6) (h : 0 < wss f o) : thr wss (nI f) (nI o) = true := by rw [thr_nI hf ho]; exact decide_eq_true h
theorem atS_b {it : Nat → Nat} {n : Nat} (h : ∀ j, j < n → it j < 386) (j : Nat) : atS it n j < 386 := by
  unfold atS; split
  · exact h _ (by omega)
  · omega
/-- the fixed bits, counted from the lowest place on -/
def cw_fxr (it : Nat → Nat) (n : Nat) : Nat → Nat
  | 0 => 0
  | j + 1 => cw_fxr it n j + if it (n - 1 - j) < 2 then 1 else 0
theorem cw_fxr_fix (it : Nat → Nat) (n : Nat) : ∀ j, j ≤ n → cw_fix it (n - j) + cw_fxr it n j = cw_fix it n := by
  intro j
  induction j with
  | zero => intro _; rfl
  | succ j ih =>
    intro hj
    have h1 := ih (by omega)
    rw [show n - j = (n - (j + 1)) + 1 by omega] at h1
    simp only [cw_fix] at h1
    simp only [cw_fxr]
    rw [show n - 1 - j = n - (j + 1) by omega]
    omega
theorem cw_fxr_all (it : Nat → Nat) (n : Nat) : cw_fxr it n n = cw_fix it n := by
  have h := cw_fxr_fix it n n (Nat.le_refl _)
  rw [Nat.sub_self] at h
  simp only [cw_fix] at h
  omega
set_option maxHeartbeats 4000000 in
set_option maxRecDepth 100000 in
theorem c_M_whole (l : Launch) (dC : Nat → ClassId) (dI : Nat → Nat → Nat) (sz : Nat) (cI cZ cJ : ClassId) (hm ml mw mb ms mn : Nat) (er : Int32) (ln wh bi si : Nat → Int32) (nu : Nat → Int64) (ns : Nat → Nat) (its wss : Nat → Nat → Nat) (sbs : Nat → Nat → Bool) (hM : mR ns its wss sbs ln wh bi si) (x : Int32) : Met l yM_whole wM_whole { frames := 2, cells := 0, slots := 0, locals := 48 } (rw_Pc (dC, dI) cls3 [(hm, .inr (2, [.int er, .ref ml, .ref mw, .ref mb, .ref ms, .ref mn])), (ml, .inl (cI, 8, .inl ln)), (mw, .inl (cI, 512, .inl wh)), (mb, .inl (cI, 48, .inl bi)), (ms, .inl (cZ, 48, .inl si)), (mn, .inl (cJ, 6, .inr (.inl nu)))] [(cI, .int), (cZ, .boolean), (cJ, .long)] sz [.ref hm, .int x]) (va_Qi (fun (r : Int32) (_ : Unit) => cdClear x = 0 → r = nI (decide (cw_lft (its (fi x)) (ns (fi x)) (wss (fi x)) 6 = 0)).toNat) (fun _ t => va_P (dC, dI) cls3 [(hm, .inr (2, [.int (nI (cdClear x)), .ref ml, .ref mw, .ref mb, .ref ms, .ref mn])), (ml, .inl (cI, 8, .inl ln)), (mw, .inl (cI, 512, .inl wh)), (mb, .inl (cI, 48, .inl bi)), (ms, .inl (cZ, 48, .inl si)), (mn, .inl (cJ, 6, .inr (.inl nu)))] t.heap ∧ va_K (dC, dI) cls3 [(cI, .int), (cZ, .boolean), (cJ, .long)] t ∧ va_D (va_A [(hm, .inr (2, [.int er, .ref ml, .ref mw, .ref mb, .ref ms, .ref mn])), (ml, .inl (cI, 8, .inl ln)), (mw, .inl (cI, 512, .inl wh)), (mb, .inl (cI, 48, .inl bi)), (ms, .inl (cZ, 48, .inl si)), (mn, .inl (cJ, 6, .inr (.inl nu)))] sz) [(hm, .inr (2, [.int (nI (cdClear x)), .ref ml, .ref mw, .ref mb, .ref ms, .ref mn])), (ml, .inl (cI, 8, .inl ln)), (mw, .inl (cI, 512, .inl wh)), (mb, .inl (cI, 48, .inl bi)), (ms, .inl (cZ, 48, .inl si)), (mn, .inl (cJ, 6, .inr (.inl nu)))]) (va_A [(hm, .inr (2, [.int er, .ref ml, .ref mw, .ref mb, .ref ms, .ref mn])), (ml, .inl (cI, 8, .inl ln)), (mw, .inl (cI, 512, .inl wh)), (mb, .inl (cI, 48, .inl bi)), (ms, .inl (cZ, 48, .inl si)), (mn, .inl (cJ, 6, .inr (.inl nu)))] sz)) 0 0 (va_A [(hm, .inr (2, [.int er, .ref ml, .ref mw, .ref mb, .ref ms, .ref mn])), (ml, .inl (cI, 8, .inl ln)), (mw, .inl (cI, 512, .inl wh)), (mb, .inl (cI, 48, .inl bi)), (ms, .inl (cZ, 48, .inl si)), (mn, .inl (cJ, 6, .inr (.inl nu)))] sz) := by
  refine Met.ofW (cc := cM_whole) (maxL := 2) (ret := (some .boolean)) (by decide) rfl ?_
  intro p e s m args below meth c s₁ B hml hv
  obtain ⟨rfl, hsz, hP, hK, hD0⟩ := hv
  have hx := B.exec
  have hb := B.bytes
  have hr := B.returns
  have hts := atoms_spec (ws := wM_whole) B.pre
  have hw : ∀ w ∈ wA, w.before _ s = true := fun w h => hts w (List.mem_cons_of_mem _ h)
  have hown : s.vm.findClass RM = some m.cls := findClass_of_methodNamed B.named
  have hlocks := B.notSynchronized
  subst hsz
  have hD := hD0.self (sz := s.heap.size)
  generalize hAe : va_A [(hm, .inr (2, [.int er, .ref ml, .ref mw, .ref mb, .ref ms, .ref mn])), (ml, .inl (cI, 8, .inl ln)), (mw, .inl (cI, 512, .inl wh)), (mb, .inl (cI, 48, .inl bi)), (ms, .inl (cZ, 48, .inl si)), (mn, .inl (cJ, 6, .inr (.inl nu)))] s.heap.size = A at hD ⊢
  have hA : ∀ q : Nat, s.heap.size ≤ q → A q := fun q h => by rw [← hAe]; exact Or.inr h
  have hS : va_S A s.heap s.heap [] := va_S.rf
  have hl := lv_entry ([.ref hm, .int x]) (n := 2) (Nat.le_of_ble_eq_true rfl)
  rw [lg_entry_eq]
  generalize (lg_sl ([.ref hm, .int x]) ++ List.replicate (2 - (lg_sl ([.ref hm, .int x])).length) Slot.unset).toArray = ls at hl ⊢
  have hl : lv_has ls 2 [(0, .ref hm), (1, .int x)] := hl
  refine lv_aload_n hx hb dM_whole_0 rfl (lv_at hl 0 rfl) ?_
  refine lv_iconst (v := nI 0) hx hb dM_whole_1 (by decide +kernel) ?_
  refine va_put (D := (dC, dI)) (ci := 2) (v := .int (nI 0)) (ty := .int) (C := RM) (T := TM) (N := 6) hx hb hw inM tM tM_ok nM hown hK hP hD hS 0 rfl rfl 0 (by decide) (hw _ kw_386) (fun _ h9 => h9) rfl (by decide +kernel) rfl rfl (Nat.le_of_ble_eq_true rfl) dM_whole_2 (fun H locs hP hD hS => ?_)
  have hP : va_P (dC, dI) cls3 [(hm, .inr (2, [.int (nI 0), .ref ml, .ref mw, .ref mb, .ref ms, .ref mn])), (ml, .inl (cI, 8, .inl ln)), (mw, .inl (cI, 512, .inl wh)), (mb, .inl (cI, 48, .inl bi)), (ms, .inl (cZ, 48, .inl si)), (mn, .inl (cJ, 6, .inr (.inl nu)))] H := hP
  have hD : va_D A [(hm, .inr (2, [.int (nI 0), .ref ml, .ref mw, .ref mb, .ref ms, .ref mn])), (ml, .inl (cI, 8, .inl ln)), (mw, .inl (cI, 512, .inl wh)), (mb, .inl (cI, 48, .inl bi)), (ms, .inl (cZ, 48, .inl si)), (mn, .inl (cJ, 6, .inr (.inl nu)))] := hD
  refine lv_aload_n hx hb dM_whole_5 rfl (lv_at hl 0 rfl) ?_
  refine lv_iload_n hx hb dM_whole_6 rfl (lv_at hl 1 rfl) ?_
  refine vp_callSi (W.runS (As := [.int x]) (rest := [.ref hm]) ⟨hx, hb, hml, hown, hw⟩ (c_M_isForm l x) (cwS 1 hw (gS kw_413 kw_414 kw_16 kw_415) rfl rfl rfl (by decide +kernel) ⟨Nat.le_of_ble_eq_true rfl, Nat.le_of_ble_eq_true rfl⟩) preEq rfl rfl hl.1 rfl (lv_room (Nat.le_of_ble_eq_true rfl)) dM_whole_7 ⟨Nat.zero_le _, Nat.zero_le _⟩) (fun v7 e7 => ?_)
  obtain rfl : v7 = nI (isF x).toNat := e7
  refine lv_if_ne (tgt := 17) hx hb dM_whole_10 (by decide) (fun h10 => ?_) (fun h10 => ?_)
  · obtain ⟨f, hf, rfl⟩ := isF_of (b_nf h10)
    have hff : fi (nI f) = f := fi_nI (by omega)
    have hok := (hM f hf).1
    have hn := hok.1
    have hw64 := hok.2.1
    have hit := cw_it hok
    have hlf : cw_lft (its f) (ns f) (wss f) 6 ≤ 384 := by have := cw_missing (its f) (wss f) (ns f) hok; have := cw_sum_le (wss f) 6 hw64; omega
    refine lv_iconst (v := nI 0) hx hb dM_whole_17 (by decide +kernel) ?_
    refine lv_iconst (v := nI 1) hx hb dM_whole_18 (by decide +kernel) ?_
    have hPc := hP.sub (ws' := [(hm, .inr (2, [.int (nI 0), .ref ml, .ref mw, .ref mb, .ref ms, .ref mn])), (ml, .inl (cI, 8, .inl ln)), (mw, .inl (cI, 512, .inl wh)), (mb, .inl (cI, 48, .inl bi)), (ms, .inl (cZ, 48, .inl si)), (mn, .inl (cJ, 6, .inr (.inl nu)))]) [0, 1, 2, 3, 4, 5] rfl
    have hDc := hD.sub (ws' := [(hm, .inr (2, [.int (nI 0), .ref ml, .ref mw, .ref mb, .ref ms, .ref mn])), (ml, .inl (cI, 8, .inl ln)), (mw, .inl (cI, 512, .inl wh)), (mb, .inl (cI, 48, .inl bi)), (ms, .inl (cZ, 48, .inl si)), (mn, .inl (cJ, 6, .inr (.inl nu)))]) [0, 1, 2, 3, 4, 5] (by decide) rfl
    have hKc := hK.sub (tys' := [(cI, .int), (cZ, .boolean), (cJ, .long)]) [0, 1, 2] rfl
    have hFc := va_free (wc := [(hm, .inr (2, [.int (nI 0), .ref ml, .ref mw, .ref mb, .ref ms, .ref mn])), (ml, .inl (cI, 8, .inl ln)), (mw, .inl (cI, 512, .inl wh)), (mb, .inl (cI, 48, .inl bi)), (ms, .inl (cZ, 48, .inl si)), (mn, .inl (cJ, 6, .inr (.inl nu)))]) hD hS hA [0, 1, 2, 3, 4, 5] rfl
    refine va_calli (va_runV (As := [.int (nI 0), .int (nI 1)]) (rest := []) ⟨hx, hb, hml, hown, hw⟩ (c_M_fails0 l dC dI _ cI cZ cJ hm ml mw mb ms mn ln wh bi si nu 1 (by decide)) (cwV 2 hw (gV kw_420 kw_422 kw_5 kw_16 kw_423) rfl rfl rfl (by decide +kernel) ⟨Nat.le_of_ble_eq_true rfl, Nat.le_of_ble_eq_true rfl⟩) (rw_preV (q0 := 0) hKc hPc hDc rfl rfl) rfl rfl hl.1 rfl (lv_room (Nat.le_of_ble_eq_true rfl)) dM_whole_19 ⟨Nat.zero_le _, Nat.zero_le _⟩) hS (fun q _ h => hFc q h) hFc (fun v19 u t H1 locs ht hvm e19 hB hz1 hk1 hS => ?_)
    obtain ⟨hP1, hK1, hD1⟩ := hB
    rw [ht] at hP1
    obtain ⟨hP, hD⟩ := va_join (wr := []) (w1 := [(hm, .inr (2, [.int (nI 0), .ref ml, .ref mw, .ref mb, .ref ms, .ref mn])), (ml, .inl (cI, 8, .inl ln)), (mw, .inl (cI, 512, .inl wh)), (mb, .inl (cI, 48, .inl bi)), (ms, .inl (cZ, 48, .inl si)), (mn, .inl (cJ, 6, .inr (.inl nu)))]) hP hD [0, 1, 2, 3, 4, 5] [] rfl rfl (by decide) (by decide) hk1 hFc hP1 hD1
    generalize H1 = H at hP hS ⊢
    have hP : va_P (dC, dI) cls3 [(hm, .inr (2, [.int (nI 0), .ref ml, .ref mw, .ref mb, .ref ms, .ref mn])), (ml, .inl (cI, 8, .inl ln)), (mw, .inl (cI, 512, .inl wh)), (mb, .inl (cI, 48, .inl bi)), (ms, .inl (cZ, 48, .inl si)), (mn, .inl (cJ, 6, .inr (.inl nu)))] H := hP
    have hD : va_D A [(hm, .inr (2, [.int (nI 0), .ref ml, .ref mw, .ref mb, .ref ms, .ref mn])), (ml, .inl (cI, 8, .inl ln)), (mw, .inl (cI, 512, .inl wh)), (mb, .inl (cI, 48, .inl bi)), (ms, .inl (cZ, 48, .inl si)), (mn, .inl (cJ, 6, .inr (.inl nu)))] := hD
    obtain rfl : v19 = nI 0 := e19
    refine lv_if_ne (tgt := 37) hx hb dM_whole_22 (by decide) (fun h22 => ?_) (fun h22 => ?_)
    · exfalso
      first | exact h22 (by decide +kernel) | exact absurd h22 (by decide +kernel)
    · refine lv_aload_n hx hb dM_whole_25 rfl (lv_at hl 0 rfl) ?_
      refine lv_iload_n hx hb dM_whole_26 rfl (lv_at hl 1 rfl) ?_
      refine vp_callSi (W.runV (As := [.int (nI f)]) (rest := []) ⟨hx, hb, hml, hown, hw⟩ (c_M_left l dC dI cI cZ cJ hm ml mw mb ms mn (nI 0) ln wh bi si nu ns its wss sbs hM f hf) (cwV 1 hw (gV kw_460 kw_462 kw_9 kw_16 kw_463) rfl rfl rfl (by decide +kernel) ⟨Nat.le_of_ble_eq_true rfl, Nat.le_of_ble_eq_true rfl⟩) (ro_preV (q0 := 0) hK hP rfl rfl) rfl rfl hl.1 rfl (lv_room (Nat.le_of_ble_eq_true rfl)) dM_whole_27 ⟨Nat.zero_le _, Nat.zero_le _⟩) (fun v27 e27 => ?_)
      obtain rfl : v27 = nI (cw_lft (its f) (ns f) (wss f) 6) := e27
      refine lv_if_ne (tgt := 37) hx hb dM_whole_30 (by decide) (fun h30 => ?_) (fun h30 => ?_)
      · rw [nI_eq0 (by omega)] at h30
        refine lv_iconst (v := nI 0) hx hb dM_whole_37 (by decide +kernel) ?_
        have hcd : cdClear (nI f) = 0 := by unfold cdClear; first | (rw [h10]; rfl) | (rw [isF_nI hf]; rfl)
        exact W.zret (v := nI 0) hx hb hr (by first | exact b_nar _ | decide +kernel) (fun t ht hW => ⟨⟨_, (), rfl, (by intro h0; first | exact absurd (hcd.symm.trans h0) (by decide) | (rw [hff]; first | (rw [decide_eq_false h30]; rfl) | (rw [decide_eq_true h30]; rfl))), by rw [ht, hcd]; exact hP, va_K.moved hW.alike hK, by rw [hcd]; exact hD⟩, hS.F ht⟩) hS.2.2 dM_whole_38
      · rw [nI_eq0 (by omega)] at h30
        refine lv_iconst (v := nI 1) hx hb dM_whole_33 (by decide +kernel) ?_
        refine lv_goto (tgt := 38) hx hb dM_whole_34 (by decide) ?_
        have hcd : cdClear (nI f) = 0 := by unfold cdClear; first | (rw [h10]; rfl) | (rw [isF_nI hf]; rfl)
        exact W.zret (v := nI 1) hx hb hr (by first | exact b_nar _ | decide +kernel) (fun t ht hW => ⟨⟨_, (), rfl, (by intro h0; first | exact absurd (hcd.symm.trans h0) (by decide) | (rw [hff]; first | (rw [decide_eq_false h30]; rfl) | (rw [decide_eq_true h30]; rfl))), by rw [ht, hcd]; exact hP, va_K.moved hW.alike hK, by rw [hcd]; exact hD⟩, hS.F ht⟩) hS.2.2 dM_whole_38
  · rw [b_nat0] at h10
    refine lv_iconst (v := nI 1) hx hb dM_whole_13 (by decide +kernel) ?_
    refine lv_goto (tgt := 18) hx hb dM_whole_14 (by decide) ?_
    refine lv_iconst (v := nI 1) hx hb dM_whole_18 (by decide +kernel) ?_
    have hPc := hP.sub (ws' := [(hm, .inr (2, [.int (nI 0), .ref ml, .ref mw, .ref mb, .ref ms, .ref mn])), (ml, .inl (cI, 8, .inl ln)), (mw, .inl (cI, 512, .inl wh)), (mb, .inl (cI, 48, .inl bi)), (ms, .inl (cZ, 48, .inl si)), (mn, .inl (cJ, 6, .inr (.inl nu)))]) [0, 1, 2, 3, 4, 5] rfl
    have hDc := hD.sub (ws' := [(hm, .inr (2, [.int (nI 0), .ref ml, .ref mw, .ref mb, .ref ms, .ref mn])), (ml, .inl (cI, 8, .inl ln)), (mw, .inl (cI, 512, .inl wh)), (mb, .inl (cI, 48, .inl bi)), (ms, .inl (cZ, 48, .inl si)), (mn, .inl (cJ, 6, .inr (.inl nu)))]) [0, 1, 2, 3, 4, 5] (by decide) rfl
    have hKc := hK.sub (tys' := [(cI, .int), (cZ, .boolean), (cJ, .long)]) [0, 1, 2] rfl
    have hFc := va_free (wc := [(hm, .inr (2, [.int (nI 0), .ref ml, .ref mw, .ref mb, .ref ms, .ref mn])), (ml, .inl (cI, 8, .inl ln)), (mw, .inl (cI, 512, .inl wh)), (mb, .inl (cI, 48, .inl bi)), (ms, .inl (cZ, 48, .inl si)), (mn, .inl (cJ, 6, .inr (.inl nu)))]) hD hS hA [0, 1, 2, 3, 4, 5] rfl
    refine va_calli (va_runV (As := [.int (nI 1), .int (nI 1)]) (rest := []) ⟨hx, hb, hml, hown, hw⟩ (c_M_fails1 l dC dI _ cI cZ cJ hm ml mw mb ms mn ln wh bi si nu 1 (by decide)) (cwV 2 hw (gV kw_420 kw_422 kw_5 kw_16 kw_423) rfl rfl rfl (by decide +kernel) ⟨Nat.le_of_ble_eq_true rfl, Nat.le_of_ble_eq_true rfl⟩) (rw_preV (q0 := 0) hKc hPc hDc rfl rfl) rfl rfl hl.1 rfl (lv_room (Nat.le_of_ble_eq_true rfl)) dM_whole_19 ⟨Nat.zero_le _, Nat.zero_le _⟩) hS (fun q _ h => hFc q h) hFc (fun v19 u t H1 locs ht hvm e19 hB hz1 hk1 hS => ?_)
    obtain ⟨hP1, hK1, hD1⟩ := hB
    rw [ht] at hP1
    obtain ⟨hP, hD⟩ := va_join (wr := []) (w1 := [(hm, .inr (2, [.int (nI 1), .ref ml, .ref mw, .ref mb, .ref ms, .ref mn])), (ml, .inl (cI, 8, .inl ln)), (mw, .inl (cI, 512, .inl wh)), (mb, .inl (cI, 48, .inl bi)), (ms, .inl (cZ, 48, .inl si)), (mn, .inl (cJ, 6, .inr (.inl nu)))]) hP hD [0, 1, 2, 3, 4, 5] [] rfl rfl (by decide) (by decide) hk1 hFc hP1 hD1
    generalize H1 = H at hP hS ⊢
    have hP : va_P (dC, dI) cls3 [(hm, .inr (2, [.int (nI 1), .ref ml, .ref mw, .ref mb, .ref ms, .ref mn])), (ml, .inl (cI, 8, .inl ln)), (mw, .inl (cI, 512, .inl wh)), (mb, .inl (cI, 48, .inl bi)), (ms, .inl (cZ, 48, .inl si)), (mn, .inl (cJ, 6, .inr (.inl nu)))] H := hP
    have hD : va_D A [(hm, .inr (2, [.int (nI 1), .ref ml, .ref mw, .ref mb, .ref ms, .ref mn])), (ml, .inl (cI, 8, .inl ln)), (mw, .inl (cI, 512, .inl wh)), (mb, .inl (cI, 48, .inl bi)), (ms, .inl (cZ, 48, .inl si)), (mn, .inl (cJ, 6, .inr (.inl nu)))] := hD
    obtain rfl : v19 = nI 1 := e19
    refine lv_if_ne (tgt := 37) hx hb dM_whole_22 (by decide) (fun h22 => ?_) (fun h22 => ?_)
    · refine lv_iconst (v := nI 0) hx hb dM_whole_37 (by decide +kernel) ?_
      have hcd : cdClear x = 1 := by unfold cdClear; first | (rw [h10]; rfl) | (rw [isF_nI hf]; rfl)
      exact W.zret (v := nI 0) hx hb hr (by first | exact b_nar _ | decide +kernel) (fun t ht hW => ⟨⟨_, (), rfl, (by intro h0; first | exact absurd (hcd.symm.trans h0) (by decide) | (rw [hff]; first | (rw [decide_eq_false h30]; rfl) | (rw [decide_eq_true h30]; rfl))), by rw [ht, hcd]; exact hP, va_K.moved hW.alike hK, by rw [hcd]; exact hD⟩, hS.F ht⟩) hS.2.2 dM_whole_38
    · exfalso
      first | exact h22 (by decide +kernel) | exact absurd h22 (by decide +kernel)

set_option maxHeartbeats 4000000 in
set_option maxRecDepth 100000 in
theorem c_M_number (l : Launch) (dC : Nat → ClassId) (dI : Nat → Nat → Nat) (sz : Nat) (cI cZ cJ : ClassId) (hm ml mw mb ms mn : Nat) (er : Int32) (ln wh bi si : Nat → Int32) (nu : Nat → Int64) (ns : Nat → Nat) (its wss : Nat → Nat → Nat) (sbs : Nat → Nat → Bool) (hM : mR ns its wss sbs ln wh bi si) (x : Int32) (v : Int64) : Met l yM_number wM_number { frames := 2, cells := 0, slots := 0, locals := 45 } (rw_Pc (dC, dI) cls3 [(hm, .inr (2, [.int er, .ref ml, .ref mw, .ref mb, .ref ms, .ref mn])), (ml, .inl (cI, 8, .inl ln)), (mw, .inl (cI, 512, .inl wh)), (mb, .inl (cI, 48, .inl bi)), (ms, .inl (cZ, 48, .inl si)), (mn, .inl (cJ, 6, .inr (.inl nu)))] [(cI, .int), (cZ, .boolean), (cJ, .long)] sz [.ref hm, .int x, .long v]) (va_Qv (fun _ : Unit => True) (fun _ t => va_P (dC, dI) cls3 [(hm, .inr (2, [.int (nI (cdNum x)), .ref ml, .ref mw, .ref mb, .ref ms, .ref mn])), (ml, .inl (cI, 8, .inl ln)), (mw, .inl (cI, 512, .inl wh)), (mb, .inl (cI, 48, .inl bi)), (ms, .inl (cZ, 48, .inl si)), (mn, .inl (cJ, 6, .inr (.inl (stp (cdNum x) (vp_updL nu (fi x) v) nu))))] t.heap ∧ va_K (dC, dI) cls3 [(cI, .int), (cZ, .boolean), (cJ, .long)] t ∧ va_D (va_A [(hm, .inr (2, [.int er, .ref ml, .ref mw, .ref mb, .ref ms, .ref mn])), (ml, .inl (cI, 8, .inl ln)), (mw, .inl (cI, 512, .inl wh)), (mb, .inl (cI, 48, .inl bi)), (ms, .inl (cZ, 48, .inl si)), (mn, .inl (cJ, 6, .inr (.inl nu)))] sz) [(hm, .inr (2, [.int (nI (cdNum x)), .ref ml, .ref mw, .ref mb, .ref ms, .ref mn])), (ml, .inl (cI, 8, .inl ln)), (mw, .inl (cI, 512, .inl wh)), (mb, .inl (cI, 48, .inl bi)), (ms, .inl (cZ, 48, .inl si)), (mn, .inl (cJ, 6, .inr (.inl (stp (cdNum x) (vp_updL nu (fi x) v) nu))))]) (va_A [(hm, .inr (2, [.int er, .ref ml, .ref mw, .ref mb, .ref ms, .ref mn])), (ml, .inl (cI, 8, .inl ln)), (mw, .inl (cI, 512, .inl wh)), (mb, .inl (cI, 48, .inl bi)), (ms, .inl (cZ, 48, .inl si)), (mn, .inl (cJ, 6, .inr (.inl nu)))] sz)) 0 0 (va_A [(hm, .inr (2, [.int er, .ref ml, .ref mw, .ref mb, .ref ms, .ref mn])), (ml, .inl (cI, 8, .inl ln)), (mw, .inl (cI, 512, .inl wh)), (mb, .inl (cI, 48, .inl bi)), (ms, .inl (cZ, 48, .inl si)), (mn, .inl (cJ, 6, .inr (.inl nu)))] sz) := by
  refine Met.ofW (cc := cM_number) (maxL := 4) (ret := none) (by decide) rfl ?_
  intro p e s m args below meth c s₁ B hml hv
  obtain ⟨rfl, hsz, hP, hK, hD0⟩ := hv
  have hx := B.exec
  have hb := B.bytes
  have hr := B.returns
  have hts := atoms_spec (ws := wM_number) B.pre
  have hw : ∀ w ∈ wA, w.before _ s = true := fun w h => hts w (List.mem_cons_of_mem _ h)
  have hown : s.vm.findClass RM = some m.cls := findClass_of_methodNamed B.named
  have hlocks := B.notSynchronized
  subst hsz
  have hD := hD0.self (sz := s.heap.size)
  generalize hAe : va_A [(hm, .inr (2, [.int er, .ref ml, .ref mw, .ref mb, .ref ms, .ref mn])), (ml, .inl (cI, 8, .inl ln)), (mw, .inl (cI, 512, .inl wh)), (mb, .inl (cI, 48, .inl bi)), (ms, .inl (cZ, 48, .inl si)), (mn, .inl (cJ, 6, .inr (.inl nu)))] s.heap.size = A at hD ⊢
  have hA : ∀ q : Nat, s.heap.size ≤ q → A q := fun q h => by rw [← hAe]; exact Or.inr h
  have hS : va_S A s.heap s.heap [] := va_S.rf
  have hl := lv_entry ([.ref hm, .int x, .long v]) (n := 4) (Nat.le_of_ble_eq_true rfl)
  rw [lg_entry_eq]
  generalize (lg_sl ([.ref hm, .int x, .long v]) ++ List.replicate (4 - (lg_sl ([.ref hm, .int x, .long v])).length) Slot.unset).toArray = ls at hl ⊢
  have hl : lv_has ls 4 [(0, .ref hm), (1, .int x), (2, .long v)] := hl
  refine lv_aload_n hx hb dM_number_0 rfl (lv_at hl 0 rfl) ?_
  refine lv_iconst (v := nI 0) hx hb dM_number_1 (by decide +kernel) ?_
  refine va_put (D := (dC, dI)) (ci := 2) (v := .int (nI 0)) (ty := .int) (C := RM) (T := TM) (N := 6) hx hb hw inM tM tM_ok nM hown hK hP hD hS 0 rfl rfl 0 (by decide) (hw _ kw_386) (fun _ h9 => h9) rfl (by decide +kernel) rfl rfl (Nat.le_of_ble_eq_true rfl) dM_number_2 (fun H locs hP hD hS => ?_)
  have hP : va_P (dC, dI) cls3 [(hm, .inr (2, [.int (nI 0), .ref ml, .ref mw, .ref mb, .ref ms, .ref mn])), (ml, .inl (cI, 8, .inl ln)), (mw, .inl (cI, 512, .inl wh)), (mb, .inl (cI, 48, .inl bi)), (ms, .inl (cZ, 48, .inl si)), (mn, .inl (cJ, 6, .inr (.inl nu)))] H := hP
  have hD : va_D A [(hm, .inr (2, [.int (nI 0), .ref ml, .ref mw, .ref mb, .ref ms, .ref mn])), (ml, .inl (cI, 8, .inl ln)), (mw, .inl (cI, 512, .inl wh)), (mb, .inl (cI, 48, .inl bi)), (ms, .inl (cZ, 48, .inl si)), (mn, .inl (cJ, 6, .inr (.inl nu)))] := hD
  refine lv_aload_n hx hb dM_number_5 rfl (lv_at hl 0 rfl) ?_
  refine lv_iload_n hx hb dM_number_6 rfl (lv_at hl 1 rfl) ?_
  refine vp_callSi (W.runS (As := [.int x]) (rest := [.ref hm]) ⟨hx, hb, hml, hown, hw⟩ (c_M_isOperand l x) (cwS 1 hw (gS kw_428 kw_429 kw_16 kw_430) rfl rfl rfl (by decide +kernel) ⟨Nat.le_of_ble_eq_true rfl, Nat.le_of_ble_eq_true rfl⟩) preEq rfl rfl hl.1 rfl (lv_room (Nat.le_of_ble_eq_true rfl)) dM_number_7 ⟨Nat.zero_le _, Nat.zero_le _⟩) (fun v7 e7 => ?_)
  obtain rfl : v7 = nI (isO x).toNat := e7
  refine lv_if_ne (tgt := 17) hx hb dM_number_10 (by decide) (fun h10 => ?_) (fun h10 => ?_)
  · obtain ⟨f, hf, rfl⟩ := isO_of (b_nf h10)
    have hff : fi (nI f) = f := fi_nI (by omega)
    refine lv_iconst (v := nI 0) hx hb dM_number_17 (by decide +kernel) ?_
    refine lv_iconst (v := nI 1) hx hb dM_number_18 (by decide +kernel) ?_
    have hPc := hP.sub (ws' := [(hm, .inr (2, [.int (nI 0), .ref ml, .ref mw, .ref mb, .ref ms, .ref mn])), (ml, .inl (cI, 8, .inl ln)), (mw, .inl (cI, 512, .inl wh)), (mb, .inl (cI, 48, .inl bi)), (ms, .inl (cZ, 48, .inl si)), (mn, .inl (cJ, 6, .inr (.inl nu)))]) [0, 1, 2, 3, 4, 5] rfl
    have hDc := hD.sub (ws' := [(hm, .inr (2, [.int (nI 0), .ref ml, .ref mw, .ref mb, .ref ms, .ref mn])), (ml, .inl (cI, 8, .inl ln)), (mw, .inl (cI, 512, .inl wh)), (mb, .inl (cI, 48, .inl bi)), (ms, .inl (cZ, 48, .inl si)), (mn, .inl (cJ, 6, .inr (.inl nu)))]) [0, 1, 2, 3, 4, 5] (by decide) rfl
    have hKc := hK.sub (tys' := [(cI, .int), (cZ, .boolean), (cJ, .long)]) [0, 1, 2] rfl
    have hFc := va_free (wc := [(hm, .inr (2, [.int (nI 0), .ref ml, .ref mw, .ref mb, .ref ms, .ref mn])), (ml, .inl (cI, 8, .inl ln)), (mw, .inl (cI, 512, .inl wh)), (mb, .inl (cI, 48, .inl bi)), (ms, .inl (cZ, 48, .inl si)), (mn, .inl (cJ, 6, .inr (.inl nu)))]) hD hS hA [0, 1, 2, 3, 4, 5] rfl
    refine va_calli (va_runV (As := [.int (nI 0), .int (nI 1)]) (rest := []) ⟨hx, hb, hml, hown, hw⟩ (c_M_fails0 l dC dI _ cI cZ cJ hm ml mw mb ms mn ln wh bi si nu 1 (by decide)) (cwV 2 hw (gV kw_420 kw_422 kw_5 kw_16 kw_423) rfl rfl rfl (by decide +kernel) ⟨Nat.le_of_ble_eq_true rfl, Nat.le_of_ble_eq_true rfl⟩) (rw_preV (q0 := 0) hKc hPc hDc rfl rfl) rfl rfl hl.1 rfl (lv_room (Nat.le_of_ble_eq_true rfl)) dM_number_19 ⟨Nat.zero_le _, Nat.zero_le _⟩) hS (fun q _ h => hFc q h) hFc (fun v19 u t H1 locs ht hvm e19 hB hz1 hk1 hS => ?_)
    obtain ⟨hP1, hK1, hD1⟩ := hB
    rw [ht] at hP1
    obtain ⟨hP, hD⟩ := va_join (wr := []) (w1 := [(hm, .inr (2, [.int (nI 0), .ref ml, .ref mw, .ref mb, .ref ms, .ref mn])), (ml, .inl (cI, 8, .inl ln)), (mw, .inl (cI, 512, .inl wh)), (mb, .inl (cI, 48, .inl bi)), (ms, .inl (cZ, 48, .inl si)), (mn, .inl (cJ, 6, .inr (.inl nu)))]) hP hD [0, 1, 2, 3, 4, 5] [] rfl rfl (by decide) (by decide) hk1 hFc hP1 hD1
    generalize H1 = H at hP hS ⊢
    have hP : va_P (dC, dI) cls3 [(hm, .inr (2, [.int (nI 0), .ref ml, .ref mw, .ref mb, .ref ms, .ref mn])), (ml, .inl (cI, 8, .inl ln)), (mw, .inl (cI, 512, .inl wh)), (mb, .inl (cI, 48, .inl bi)), (ms, .inl (cZ, 48, .inl si)), (mn, .inl (cJ, 6, .inr (.inl nu)))] H := hP
    have hD : va_D A [(hm, .inr (2, [.int (nI 0), .ref ml, .ref mw, .ref mb, .ref ms, .ref mn])), (ml, .inl (cI, 8, .inl ln)), (mw, .inl (cI, 512, .inl wh)), (mb, .inl (cI, 48, .inl bi)), (ms, .inl (cZ, 48, .inl si)), (mn, .inl (cJ, 6, .inr (.inl nu)))] := hD
    obtain rfl : v19 = nI 0 := e19
    refine lv_if_eq (tgt := 26) hx hb dM_number_22 (by decide) (fun h22 => ?_) (fun h22 => ?_)
    · refine lv_aload_n hx hb dM_number_26 rfl (lv_at hl 0 rfl) ?_
      refine va_get (D := (dC, dI)) (ci := 2) (v := .ref mn) (C := RM) (T := TM) (N := 6) hx hb hw inM hown hK hP 0 rfl rfl 5 (by decide) (hw _ kw_391) (fun _ h9 => h9) rfl dM_number_27 ?_
      refine lv_iload_n hx hb dM_number_30 rfl (lv_at hl 1 rfl) ?_
      refine lv_lload_n hx hb dM_number_31 rfl (lv_at hl 2 rfl) ?_
      refine va_last hx hb hK hP hD hS 5 2 rfl rfl (vp_in_nI (by omega) (by decide)) dM_number_32 (fun H locs hP hD hS => ?_)
      rw [show (nI f).toNatClampNeg = f from nI_clamp (by omega)] at hP hD
      have hP : va_P (dC, dI) cls3 [(hm, .inr (2, [.int (nI 0), .ref ml, .ref mw, .ref mb, .ref ms, .ref mn])), (ml, .inl (cI, 8, .inl ln)), (mw, .inl (cI, 512, .inl wh)), (mb, .inl (cI, 48, .inl bi)), (ms, .inl (cZ, 48, .inl si)), (mn, .inl (cJ, 6, .inr (.inl (vp_updL nu f v))))] H := hP
      have hD : va_D A [(hm, .inr (2, [.int (nI 0), .ref ml, .ref mw, .ref mb, .ref ms, .ref mn])), (ml, .inl (cI, 8, .inl ln)), (mw, .inl (cI, 512, .inl wh)), (mb, .inl (cI, 48, .inl bi)), (ms, .inl (cZ, 48, .inl si)), (mn, .inl (cJ, 6, .inr (.inl (vp_updL nu f v))))] := hD
      have hcd : cdNum (nI f) = 0 := by unfold cdNum; first | (rw [h10]; rfl) | (rw [isO_nI hf]; rfl)
      exact W.vret hx hb hr (fun t ht hW => ⟨⟨(), rfl, trivial, by rw [ht, hcd, hff]; exact hP, va_K.moved hW.alike hK, by rw [hcd, hff]; exact hD⟩, hS.F ht⟩) hS.2.2 dM_number_33
    · exfalso
      first | exact h22 (by decide +kernel) | exact absurd h22 (by decide +kernel)
  · rw [b_nat0] at h10
    refine lv_iconst (v := nI 1) hx hb dM_number_13 (by decide +kernel) ?_
    refine lv_goto (tgt := 18) hx hb dM_number_14 (by decide) ?_
    refine lv_iconst (v := nI 1) hx hb dM_number_18 (by decide +kernel) ?_
    have hPc := hP.sub (ws' := [(hm, .inr (2, [.int (nI 0), .ref ml, .ref mw, .ref mb, .ref ms, .ref mn])), (ml, .inl (cI, 8, .inl ln)), (mw, .inl (cI, 512, .inl wh)), (mb, .inl (cI, 48, .inl bi)), (ms, .inl (cZ, 48, .inl si)), (mn, .inl (cJ, 6, .inr (.inl nu)))]) [0, 1, 2, 3, 4, 5] rfl
    have hDc := hD.sub (ws' := [(hm, .inr (2, [.int (nI 0), .ref ml, .ref mw, .ref mb, .ref ms, .ref mn])), (ml, .inl (cI, 8, .inl ln)), (mw, .inl (cI, 512, .inl wh)), (mb, .inl (cI, 48, .inl bi)), (ms, .inl (cZ, 48, .inl si)), (mn, .inl (cJ, 6, .inr (.inl nu)))]) [0, 1, 2, 3, 4, 5] (by decide) rfl
    have hKc := hK.sub (tys' := [(cI, .int), (cZ, .boolean), (cJ, .long)]) [0, 1, 2] rfl
    have hFc := va_free (wc := [(hm, .inr (2, [.int (nI 0), .ref ml, .ref mw, .ref mb, .ref ms, .ref mn])), (ml, .inl (cI, 8, .inl ln)), (mw, .inl (cI, 512, .inl wh)), (mb, .inl (cI, 48, .inl bi)), (ms, .inl (cZ, 48, .inl si)), (mn, .inl (cJ, 6, .inr (.inl nu)))]) hD hS hA [0, 1, 2, 3, 4, 5] rfl
    refine va_calli (va_runV (As := [.int (nI 1), .int (nI 1)]) (rest := []) ⟨hx, hb, hml, hown, hw⟩ (c_M_fails1 l dC dI _ cI cZ cJ hm ml mw mb ms mn ln wh bi si nu 1 (by decide)) (cwV 2 hw (gV kw_420 kw_422 kw_5 kw_16 kw_423) rfl rfl rfl (by decide +kernel) ⟨Nat.le_of_ble_eq_true rfl, Nat.le_of_ble_eq_true rfl⟩) (rw_preV (q0 := 0) hKc hPc hDc rfl rfl) rfl rfl hl.1 rfl (lv_room (Nat.le_of_ble_eq_true rfl)) dM_number_19 ⟨Nat.zero_le _, Nat.zero_le _⟩) hS (fun q _ h => hFc q h) hFc (fun v19 u t H1 locs ht hvm e19 hB hz1 hk1 hS => ?_)
    obtain ⟨hP1, hK1, hD1⟩ := hB
    rw [ht] at hP1
    obtain ⟨hP, hD⟩ := va_join (wr := []) (w1 := [(hm, .inr (2, [.int (nI 1), .ref ml, .ref mw, .ref mb, .ref ms, .ref mn])), (ml, .inl (cI, 8, .inl ln)), (mw, .inl (cI, 512, .inl wh)), (mb, .inl (cI, 48, .inl bi)), (ms, .inl (cZ, 48, .inl si)), (mn, .inl (cJ, 6, .inr (.inl nu)))]) hP hD [0, 1, 2, 3, 4, 5] [] rfl rfl (by decide) (by decide) hk1 hFc hP1 hD1
    generalize H1 = H at hP hS ⊢
    have hP : va_P (dC, dI) cls3 [(hm, .inr (2, [.int (nI 1), .ref ml, .ref mw, .ref mb, .ref ms, .ref mn])), (ml, .inl (cI, 8, .inl ln)), (mw, .inl (cI, 512, .inl wh)), (mb, .inl (cI, 48, .inl bi)), (ms, .inl (cZ, 48, .inl si)), (mn, .inl (cJ, 6, .inr (.inl nu)))] H := hP
    have hD : va_D A [(hm, .inr (2, [.int (nI 1), .ref ml, .ref mw, .ref mb, .ref ms, .ref mn])), (ml, .inl (cI, 8, .inl ln)), (mw, .inl (cI, 512, .inl wh)), (mb, .inl (cI, 48, .inl bi)), (ms, .inl (cZ, 48, .inl si)), (mn, .inl (cJ, 6, .inr (.inl nu)))] := hD
    obtain rfl : v19 = nI 1 := e19
    refine lv_if_eq (tgt := 26) hx hb dM_number_22 (by decide) (fun h22 => ?_) (fun h22 => ?_)
    · exfalso
      first | exact h22 (by decide +kernel) | exact absurd h22 (by decide +kernel)
    · have hcd : cdNum x = 1 := by unfold cdNum; first | (rw [h10]; rfl) | (rw [isO_nI hf]; rfl)
      exact W.vret hx hb hr (fun t ht hW => ⟨⟨(), rfl, trivial, by rw [ht, hcd]; exact hP, va_K.moved hW.alike hK, by rw [hcd]; exact hD⟩, hS.F ht⟩) hS.2.2 dM_number_25

set_option maxHeartbeats 4000000 in
set_option maxRecDepth 100000 in
theorem c_M_fits (l : Launch) (dC : Nat → ClassId) (dI : Nat → Nat → Nat) (sz : Nat) (cI cZ cJ : ClassId) (hm ml mw mb ms mn : Nat) (er : Int32) (ln wh bi si : Nat → Int32) (nu : Nat → Int64) (ns : Nat → Nat) (its wss : Nat → Nat → Nat) (sbs : Nat → Nat → Bool) (hM : mR ns its wss sbs ln wh bi si) (x y : Int32) (v : Int64) : Met l yM_fits wM_fits { frames := 3, cells := 0, slots := 0, locals := 67 } (rw_Pc (dC, dI) cls3 [(hm, .inr (2, [.int er, .ref ml, .ref mw, .ref mb, .ref ms, .ref mn])), (ml, .inl (cI, 8, .inl ln)), (mw, .inl (cI, 512, .inl wh)), (mb, .inl (cI, 48, .inl bi)), (ms, .inl (cZ, 48, .inl si)), (mn, .inl (cJ, 6, .inr (.inl nu)))] [(cI, .int), (cZ, .boolean), (cJ, .long)] sz [.ref hm, .int x, .int y, .long v]) (va_Qi (fun (r : Int32) (_ : Unit) => cdFits wss x y = 0 → r = nI (fitB (wss (fi x) (fi y)) (sbs (fi x) (fi y)) v).toNat) (fun _ t => va_P (dC, dI) cls3 [(hm, .inr (2, [.int (nI (cdFits wss x y)), .ref ml, .ref mw, .ref mb, .ref ms, .ref mn])), (ml, .inl (cI, 8, .inl ln)), (mw, .inl (cI, 512, .inl wh)), (mb, .inl (cI, 48, .inl bi)), (ms, .inl (cZ, 48, .inl si)), (mn, .inl (cJ, 6, .inr (.inl nu)))] t.heap ∧ va_K (dC, dI) cls3 [(cI, .int), (cZ, .boolean), (cJ, .long)] t ∧ va_D (va_A [(hm, .inr (2, [.int er, .ref ml, .ref mw, .ref mb, .ref ms, .ref mn])), (ml, .inl (cI, 8, .inl ln)), (mw, .inl (cI, 512, .inl wh)), (mb, .inl (cI, 48, .inl bi)), (ms, .inl (cZ, 48, .inl si)), (mn, .inl (cJ, 6, .inr (.inl nu)))] sz) [(hm, .inr (2, [.int (nI (cdFits wss x y)), .ref ml, .ref mw, .ref mb, .ref ms, .ref mn])), (ml, .inl (cI, 8, .inl ln)), (mw, .inl (cI, 512, .inl wh)), (mb, .inl (cI, 48, .inl bi)), (ms, .inl (cZ, 48, .inl si)), (mn, .inl (cJ, 6, .inr (.inl nu)))]) (va_A [(hm, .inr (2, [.int er, .ref ml, .ref mw, .ref mb, .ref ms, .ref mn])), (ml, .inl (cI, 8, .inl ln)), (mw, .inl (cI, 512, .inl wh)), (mb, .inl (cI, 48, .inl bi)), (ms, .inl (cZ, 48, .inl si)), (mn, .inl (cJ, 6, .inr (.inl nu)))] sz)) 0 0 (va_A [(hm, .inr (2, [.int er, .ref ml, .ref mw, .ref mb, .ref ms, .ref mn])), (ml, .inl (cI, 8, .inl ln)), (mw, .inl (cI, 512, .inl wh)), (mb, .inl (cI, 48, .inl bi)), (ms, .inl (cZ, 48, .inl si)), (mn, .inl (cJ, 6, .inr (.inl nu)))] sz) := by
  refine Met.ofW (cc := cM_fits) (maxL := 5) (ret := (some .boolean)) (by decide) rfl ?_
  intro p e s m args below meth c s₁ B hml hv
  obtain ⟨rfl, hsz, hP, hK, hD0⟩ := hv
  have hx := B.exec
  have hb := B.bytes
  have hr := B.returns
  have hts := atoms_spec (ws := wM_fits) B.pre
  have hw : ∀ w ∈ wA, w.before _ s = true := fun w h => hts w (List.mem_cons_of_mem _ h)
  have hown : s.vm.findClass RM = some m.cls := findClass_of_methodNamed B.named
  have hlocks := B.notSynchronized
  subst hsz
  have hD := hD0.self (sz := s.heap.size)
  generalize hAe : va_A [(hm, .inr (2, [.int er, .ref ml, .ref mw, .ref mb, .ref ms, .ref mn])), (ml, .inl (cI, 8, .inl ln)), (mw, .inl (cI, 512, .inl wh)), (mb, .inl (cI, 48, .inl bi)), (ms, .inl (cZ, 48, .inl si)), (mn, .inl (cJ, 6, .inr (.inl nu)))] s.heap.size = A at hD ⊢
  have hA : ∀ q : Nat, s.heap.size ≤ q → A q := fun q h => by rw [← hAe]; exact Or.inr h
  have hS : va_S A s.heap s.heap [] := va_S.rf
  have hl := lv_entry ([.ref hm, .int x, .int y, .long v]) (n := 5) (Nat.le_of_ble_eq_true rfl)
  rw [lg_entry_eq]
  generalize (lg_sl ([.ref hm, .int x, .int y, .long v]) ++ List.replicate (5 - (lg_sl ([.ref hm, .int x, .int y, .long v])).length) Slot.unset).toArray = ls at hl ⊢
  have hl : lv_has ls 5 [(0, .ref hm), (1, .int x), (2, .int y), (3, .long v)] := hl
  refine lv_aload_n hx hb dM_fits_0 rfl (lv_at hl 0 rfl) ?_
  refine lv_iconst (v := nI 0) hx hb dM_fits_1 (by decide +kernel) ?_
  refine va_put (D := (dC, dI)) (ci := 2) (v := .int (nI 0)) (ty := .int) (C := RM) (T := TM) (N := 6) hx hb hw inM tM tM_ok nM hown hK hP hD hS 0 rfl rfl 0 (by decide) (hw _ kw_386) (fun _ h9 => h9) rfl (by decide +kernel) rfl rfl (Nat.le_of_ble_eq_true rfl) dM_fits_2 (fun H locs hP hD hS => ?_)
  have hP : va_P (dC, dI) cls3 [(hm, .inr (2, [.int (nI 0), .ref ml, .ref mw, .ref mb, .ref ms, .ref mn])), (ml, .inl (cI, 8, .inl ln)), (mw, .inl (cI, 512, .inl wh)), (mb, .inl (cI, 48, .inl bi)), (ms, .inl (cZ, 48, .inl si)), (mn, .inl (cJ, 6, .inr (.inl nu)))] H := hP
  have hD : va_D A [(hm, .inr (2, [.int (nI 0), .ref ml, .ref mw, .ref mb, .ref ms, .ref mn])), (ml, .inl (cI, 8, .inl ln)), (mw, .inl (cI, 512, .inl wh)), (mb, .inl (cI, 48, .inl bi)), (ms, .inl (cZ, 48, .inl si)), (mn, .inl (cJ, 6, .inr (.inl nu)))] := hD
  refine lv_aload_n hx hb dM_fits_5 rfl (lv_at hl 0 rfl) ?_
  refine lv_aload_n hx hb dM_fits_6 rfl (lv_at hl 0 rfl) ?_
  refine lv_iload_n hx hb dM_fits_7 rfl (lv_at hl 1 rfl) ?_
  refine lv_iload_n hx hb dM_fits_8 rfl (lv_at hl 2 rfl) ?_
  refine vp_callSi (W.runV (As := [.int x, .int y]) (rest := [.ref hm]) ⟨hx, hb, hml, hown, hw⟩ (c_M_isThere l dC dI cI cZ cJ hm ml mw mb ms mn (nI 0) ln wh bi si nu ns its wss sbs hM x y) (cwV 2 hw (gV kw_448 kw_450 kw_7 kw_16 kw_451) rfl rfl rfl (by decide +kernel) ⟨Nat.le_of_ble_eq_true rfl, Nat.le_of_ble_eq_true rfl⟩) (ro_preV (q0 := 0) hK hP rfl rfl) rfl rfl hl.1 rfl (lv_room (Nat.le_of_ble_eq_true rfl)) dM_fits_9 ⟨Nat.zero_le _, Nat.zero_le _⟩) (fun v9 e9 => ?_)
  obtain rfl : v9 = nI (thr wss x y).toNat := e9
  refine lv_if_ne (tgt := 19) hx hb dM_fits_12 (by decide) (fun h12 => ?_) (fun h12 => ?_)
  · obtain ⟨f, o, hf, ho, hw1, rfl, rfl⟩ := thr_of (b_nf h12)
    have hff : fi (nI f) = f := fi_nI (by omega)
    have hfo : fi (nI o) = o := fi_nI (by omega)
    have hok := (hM f hf).1
    have hn := hok.1
    have hw64 := hok.2.1
    have hit := cw_it hok
    have hwo := hw64 o ho
    refine lv_iconst (v := nI 0) hx hb dM_fits_19 (by decide +kernel) ?_
    refine lv_iconst (v := nI 1) hx hb dM_fits_20 (by decide +kernel) ?_
    have hPc := hP.sub (ws' := [(hm, .inr (2, [.int (nI 0), .ref ml, .ref mw, .ref mb, .ref ms, .ref mn])), (ml, .inl (cI, 8, .inl ln)), (mw, .inl (cI, 512, .inl wh)), (mb, .inl (cI, 48, .inl bi)), (ms, .inl (cZ, 48, .inl si)), (mn, .inl (cJ, 6, .inr (.inl nu)))]) [0, 1, 2, 3, 4, 5] rfl
    have hDc := hD.sub (ws' := [(hm, .inr (2, [.int (nI 0), .ref ml, .ref mw, .ref mb, .ref ms, .ref mn])), (ml, .inl (cI, 8, .inl ln)), (mw, .inl (cI, 512, .inl wh)), (mb, .inl (cI, 48, .inl bi)), (ms, .inl (cZ, 48, .inl si)), (mn, .inl (cJ, 6, .inr (.inl nu)))]) [0, 1, 2, 3, 4, 5] (by decide) rfl
    have hKc := hK.sub (tys' := [(cI, .int), (cZ, .boolean), (cJ, .long)]) [0, 1, 2] rfl
    have hFc := va_free (wc := [(hm, .inr (2, [.int (nI 0), .ref ml, .ref mw, .ref mb, .ref ms, .ref mn])), (ml, .inl (cI, 8, .inl ln)), (mw, .inl (cI, 512, .inl wh)), (mb, .inl (cI, 48, .inl bi)), (ms, .inl (cZ, 48, .inl si)), (mn, .inl (cJ, 6, .inr (.inl nu)))]) hD hS hA [0, 1, 2, 3, 4, 5] rfl
    refine va_calli (va_runV (As := [.int (nI 0), .int (nI 1)]) (rest := []) ⟨hx, hb, hml, hown, hw⟩ (c_M_fails0 l dC dI _ cI cZ cJ hm ml mw mb ms mn ln wh bi si nu 1 (by decide)) (cwV 2 hw (gV kw_420 kw_422 kw_5 kw_16 kw_423) rfl rfl rfl (by decide +kernel) ⟨Nat.le_of_ble_eq_true rfl, Nat.le_of_ble_eq_true rfl⟩) (rw_preV (q0 := 0) hKc hPc hDc rfl rfl) rfl rfl hl.1 rfl (lv_room (Nat.le_of_ble_eq_true rfl)) dM_fits_21 ⟨Nat.zero_le _, Nat.zero_le _⟩) hS (fun q _ h => hFc q h) hFc (fun v21 u t H1 locs ht hvm e21 hB hz1 hk1 hS => ?_)
    obtain ⟨hP1, hK1, hD1⟩ := hB
    rw [ht] at hP1
    obtain ⟨hP, hD⟩ := va_join (wr := []) (w1 := [(hm, .inr (2, [.int (nI 0), .ref ml, .ref mw, .ref mb, .ref ms, .ref mn])), (ml, .inl (cI, 8, .inl ln)), (mw, .inl (cI, 512, .inl wh)), (mb, .inl (cI, 48, .inl bi)), (ms, .inl (cZ, 48, .inl si)), (mn, .inl (cJ, 6, .inr (.inl nu)))]) hP hD [0, 1, 2, 3, 4, 5] [] rfl rfl (by decide) (by decide) hk1 hFc hP1 hD1
    generalize H1 = H at hP hS ⊢
    have hP : va_P (dC, dI) cls3 [(hm, .inr (2, [.int (nI 0), .ref ml, .ref mw, .ref mb, .ref ms, .ref mn])), (ml, .inl (cI, 8, .inl ln)), (mw, .inl (cI, 512, .inl wh)), (mb, .inl (cI, 48, .inl bi)), (ms, .inl (cZ, 48, .inl si)), (mn, .inl (cJ, 6, .inr (.inl nu)))] H := hP
    have hD : va_D A [(hm, .inr (2, [.int (nI 0), .ref ml, .ref mw, .ref mb, .ref ms, .ref mn])), (ml, .inl (cI, 8, .inl ln)), (mw, .inl (cI, 512, .inl wh)), (mb, .inl (cI, 48, .inl bi)), (ms, .inl (cZ, 48, .inl si)), (mn, .inl (cJ, 6, .inr (.inl nu)))] := hD
    obtain rfl : v21 = nI 0 := e21
    refine lv_if_ne (tgt := 41) hx hb dM_fits_24 (by decide) (fun h24 => ?_) (fun h24 => ?_)
    · exfalso
      first | exact h24 (by decide +kernel) | exact absurd h24 (by decide +kernel)
    · refine lv_aload_n hx hb dM_fits_27 rfl (lv_at hl 0 rfl) ?_
      refine lv_iload_n hx hb dM_fits_28 rfl (lv_at hl 1 rfl) ?_
      refine lv_iload_n hx hb dM_fits_29 rfl (lv_at hl 2 rfl) ?_
      refine lv_lload_n hx hb dM_fits_30 rfl (lv_at hl 3 rfl) ?_
      refine vp_callSi (W.runV (As := [.int (nI f), .int (nI o), .long v]) (rest := []) ⟨hx, hb, hml, hown, hw⟩ (c_M_holds l dC dI cI cZ cJ hm ml mw mb ms mn (nI 0) ln wh bi si nu ns its wss sbs hM f o v hf ho hw1) (cwV 3 hw (gV kw_472 kw_474 kw_10 kw_16 kw_475) rfl rfl rfl (by decide +kernel) ⟨Nat.le_of_ble_eq_true rfl, Nat.le_of_ble_eq_true rfl⟩) (ro_preV (q0 := 0) hK hP rfl rfl) rfl rfl hl.1 rfl (lv_room (Nat.le_of_ble_eq_true rfl)) dM_fits_31 ⟨Nat.zero_le _, Nat.zero_le _⟩) (fun v31 e31 => ?_)
      obtain rfl : v31 = nI (fitB (wss f o) (sbs f o) v).toNat := e31
      refine lv_if_eq (tgt := 41) hx hb dM_fits_34 (by decide) (fun h34 => ?_) (fun h34 => ?_)
      · refine lv_iconst (v := nI 0) hx hb dM_fits_41 (by decide +kernel) ?_
        have hcd : cdFits wss (nI f) (nI o) = 0 := by unfold cdFits; first | (rw [h12]; rfl) | (rw [thr_t hf ho hw1]; rfl)
        exact W.zret (v := nI 0) hx hb hr (by first | exact b_nar _ | decide +kernel) (fun t ht hW => ⟨⟨_, (), rfl, (by intro h0; first | exact absurd (hcd.symm.trans h0) (by decide) | (rw [hff, hfo]; first | (rw [(b_nat0 _).mp h34]; rfl) | (rw [b_nf h34]; rfl))), by rw [ht, hcd]; exact hP, va_K.moved hW.alike hK, by rw [hcd]; exact hD⟩, hS.F ht⟩) hS.2.2 dM_fits_42
      · refine lv_iconst (v := nI 1) hx hb dM_fits_37 (by decide +kernel) ?_
        refine lv_goto (tgt := 42) hx hb dM_fits_38 (by decide) ?_
        have hcd : cdFits wss (nI f) (nI o) = 0 := by unfold cdFits; first | (rw [h12]; rfl) | (rw [thr_t hf ho hw1]; rfl)
        exact W.zret (v := nI 1) hx hb hr (by first | exact b_nar _ | decide +kernel) (fun t ht hW => ⟨⟨_, (), rfl, (by intro h0; first | exact absurd (hcd.symm.trans h0) (by decide) | (rw [hff, hfo]; first | (rw [(b_nat0 _).mp h34]; rfl) | (rw [b_nf h34]; rfl))), by rw [ht, hcd]; exact hP, va_K.moved hW.alike hK, by rw [hcd]; exact hD⟩, hS.F ht⟩) hS.2.2 dM_fits_42
  · rw [b_nat0] at h12
    refine lv_iconst (v := nI 1) hx hb dM_fits_15 (by decide +kernel) ?_
    refine lv_goto (tgt := 20) hx hb dM_fits_16 (by decide) ?_
    refine lv_iconst (v := nI 1) hx hb dM_fits_20 (by decide +kernel) ?_
    have hPc := hP.sub (ws' := [(hm, .inr (2, [.int (nI 0), .ref ml, .ref mw, .ref mb, .ref ms, .ref mn])), (ml, .inl (cI, 8, .inl ln)), (mw, .inl (cI, 512, .inl wh)), (mb, .inl (cI, 48, .inl bi)), (ms, .inl (cZ, 48, .inl si)), (mn, .inl (cJ, 6, .inr (.inl nu)))]) [0, 1, 2, 3, 4, 5] rfl
    have hDc := hD.sub (ws' := [(hm, .inr (2, [.int (nI 0), .ref ml, .ref mw, .ref mb, .ref ms, .ref mn])), (ml, .inl (cI, 8, .inl ln)), (mw, .inl (cI, 512, .inl wh)), (mb, .inl (cI, 48, .inl bi)), (ms, .inl (cZ, 48, .inl si)), (mn, .inl (cJ, 6, .inr (.inl nu)))]) [0, 1, 2, 3, 4, 5] (by decide) rfl
    have hKc := hK.sub (tys' := [(cI, .int), (cZ, .boolean), (cJ, .long)]) [0, 1, 2] rfl
    have hFc := va_free (wc := [(hm, .inr (2, [.int (nI 0), .ref ml, .ref mw, .ref mb, .ref ms, .ref mn])), (ml, .inl (cI, 8, .inl ln)), (mw, .inl (cI, 512, .inl wh)), (mb, .inl (cI, 48, .inl bi)), (ms, .inl (cZ, 48, .inl si)), (mn, .inl (cJ, 6, .inr (.inl nu)))]) hD hS hA [0, 1, 2, 3, 4, 5] rfl
    refine va_calli (va_runV (As := [.int (nI 1), .int (nI 1)]) (rest := []) ⟨hx, hb, hml, hown, hw⟩ (c_M_fails1 l dC dI _ cI cZ cJ hm ml mw mb ms mn ln wh bi si nu 1 (by decide)) (cwV 2 hw (gV kw_420 kw_422 kw_5 kw_16 kw_423) rfl rfl rfl (by decide +kernel) ⟨Nat.le_of_ble_eq_true rfl, Nat.le_of_ble_eq_true rfl⟩) (rw_preV (q0 := 0) hKc hPc hDc rfl rfl) rfl rfl hl.1 rfl (lv_room (Nat.le_of_ble_eq_true rfl)) dM_fits_21 ⟨Nat.zero_le _, Nat.zero_le _⟩) hS (fun q _ h => hFc q h) hFc (fun v21 u t H1 locs ht hvm e21 hB hz1 hk1 hS => ?_)
    obtain ⟨hP1, hK1, hD1⟩ := hB
    rw [ht] at hP1
    obtain ⟨hP, hD⟩ := va_join (wr := []) (w1 := [(hm, .inr (2, [.int (nI 1), .ref ml, .ref mw, .ref mb, .ref ms, .ref mn])), (ml, .inl (cI, 8, .inl ln)), (mw, .inl (cI, 512, .inl wh)), (mb, .inl (cI, 48, .inl bi)), (ms, .inl (cZ, 48, .inl si)), (mn, .inl (cJ, 6, .inr (.inl nu)))]) hP hD [0, 1, 2, 3, 4, 5] [] rfl rfl (by decide) (by decide) hk1 hFc hP1 hD1
    generalize H1 = H at hP hS ⊢
    have hP : va_P (dC, dI) cls3 [(hm, .inr (2, [.int (nI 1), .ref ml, .ref mw, .ref mb, .ref ms, .ref mn])), (ml, .inl (cI, 8, .inl ln)), (mw, .inl (cI, 512, .inl wh)), (mb, .inl (cI, 48, .inl bi)), (ms, .inl (cZ, 48, .inl si)), (mn, .inl (cJ, 6, .inr (.inl nu)))] H := hP
    have hD : va_D A [(hm, .inr (2, [.int (nI 1), .ref ml, .ref mw, .ref mb, .ref ms, .ref mn])), (ml, .inl (cI, 8, .inl ln)), (mw, .inl (cI, 512, .inl wh)), (mb, .inl (cI, 48, .inl bi)), (ms, .inl (cZ, 48, .inl si)), (mn, .inl (cJ, 6, .inr (.inl nu)))] := hD
    obtain rfl : v21 = nI 1 := e21
    refine lv_if_ne (tgt := 41) hx hb dM_fits_24 (by decide) (fun h24 => ?_) (fun h24 => ?_)
    · refine lv_iconst (v := nI 0) hx hb dM_fits_41 (by decide +kernel) ?_
      have hcd : cdFits wss x y = 1 := by unfold cdFits; first | (rw [h12]; rfl) | (rw [thr_t hf ho hw1]; rfl)
      exact W.zret (v := nI 0) hx hb hr (by first | exact b_nar _ | decide +kernel) (fun t ht hW => ⟨⟨_, (), rfl, (by intro h0; first | exact absurd (hcd.symm.trans h0) (by decide) | (rw [hff, hfo]; first | (rw [(b_nat0 _).mp h34]; rfl) | (rw [b_nf h34]; rfl))), by rw [ht, hcd]; exact hP, va_K.moved hW.alike hK, by rw [hcd]; exact hD⟩, hS.F ht⟩) hS.2.2 dM_fits_42
    · exfalso
      first | exact h24 (by decide +kernel) | exact absurd h24 (by decide +kernel)

set_option maxHeartbeats 4000000 in
set_option maxRecDepth 100000 in
theorem c_M_is (l : Launch) (dC : Nat → ClassId) (dI : Nat → Nat → Nat) (sz : Nat) (cI cZ cJ : ClassId) (hm ml mw mb ms mn : Nat) (er : Int32) (ln wh bi si : Nat → Int32) (nu : Nat → Int64) (ns : Nat → Nat) (its wss : Nat → Nat → Nat) (sbs : Nat → Nat → Bool) (hM : mR ns its wss sbs ln wh bi si) (x : Int32) (wo : Int64) : Met l yM_is wM_is { frames := 2, cells := 0, slots := 0, locals := 46 } (rw_Pc (dC, dI) cls3 [(hm, .inr (2, [.int er, .ref ml, .ref mw, .ref mb, .ref ms, .ref mn])), (ml, .inl (cI, 8, .inl ln)), (mw, .inl (cI, 512, .inl wh)), (mb, .inl (cI, 48, .inl bi)), (ms, .inl (cZ, 48, .inl si)), (mn, .inl (cJ, 6, .inr (.inl nu)))] [(cI, .int), (cZ, .boolean), (cJ, .long)] sz [.ref hm, .int x, .long wo]) (va_Qi (fun (r : Int32) (_ : Unit) => cdClear x = 0 → r = nI (isof (its (fi x)) (ns (fi x)) wo).toNat) (fun _ t => va_P (dC, dI) cls3 [(hm, .inr (2, [.int (nI (cdClear x)), .ref ml, .ref mw, .ref mb, .ref ms, .ref mn])), (ml, .inl (cI, 8, .inl ln)), (mw, .inl (cI, 512, .inl wh)), (mb, .inl (cI, 48, .inl bi)), (ms, .inl (cZ, 48, .inl si)), (mn, .inl (cJ, 6, .inr (.inl nu)))] t.heap ∧ va_K (dC, dI) cls3 [(cI, .int), (cZ, .boolean), (cJ, .long)] t ∧ va_D (va_A [(hm, .inr (2, [.int er, .ref ml, .ref mw, .ref mb, .ref ms, .ref mn])), (ml, .inl (cI, 8, .inl ln)), (mw, .inl (cI, 512, .inl wh)), (mb, .inl (cI, 48, .inl bi)), (ms, .inl (cZ, 48, .inl si)), (mn, .inl (cJ, 6, .inr (.inl nu)))] sz) [(hm, .inr (2, [.int (nI (cdClear x)), .ref ml, .ref mw, .ref mb, .ref ms, .ref mn])), (ml, .inl (cI, 8, .inl ln)), (mw, .inl (cI, 512, .inl wh)), (mb, .inl (cI, 48, .inl bi)), (ms, .inl (cZ, 48, .inl si)), (mn, .inl (cJ, 6, .inr (.inl nu)))]) (va_A [(hm, .inr (2, [.int er, .ref ml, .ref mw, .ref mb, .ref ms, .ref mn])), (ml, .inl (cI, 8, .inl ln)), (mw, .inl (cI, 512, .inl wh)), (mb, .inl (cI, 48, .inl bi)), (ms, .inl (cZ, 48, .inl si)), (mn, .inl (cJ, 6, .inr (.inl nu)))] sz)) 0 0 (va_A [(hm, .inr (2, [.int er, .ref ml, .ref mw, .ref mb, .ref ms, .ref mn])), (ml, .inl (cI, 8, .inl ln)), (mw, .inl (cI, 512, .inl wh)), (mb, .inl (cI, 48, .inl bi)), (ms, .inl (cZ, 48, .inl si)), (mn, .inl (cJ, 6, .inr (.inl nu)))] sz) := by
  refine Met.ofW (cc := cM_is) (maxL := 4) (ret := (some .boolean)) (by decide) rfl ?_
  intro p e s m args below meth c s₁ B hml hv
  obtain ⟨rfl, hsz, hP, hK, hD0⟩ := hv
  have hx := B.exec
  have hb := B.bytes
  have hr := B.returns
  have hts := atoms_spec (ws := wM_is) B.pre
  have hw : ∀ w ∈ wA, w.before _ s = true := fun w h => hts w (List.mem_cons_of_mem _ h)
  have hown : s.vm.findClass RM = some m.cls := findClass_of_methodNamed B.named
  have hlocks := B.notSynchronized
  subst hsz
  have hD := hD0.self (sz := s.heap.size)
  generalize hAe : va_A [(hm, .inr (2, [.int er, .ref ml, .ref mw, .ref mb, .ref ms, .ref mn])), (ml, .inl (cI, 8, .inl ln)), (mw, .inl (cI, 512, .inl wh)), (mb, .inl (cI, 48, .inl bi)), (ms, .inl (cZ, 48, .inl si)), (mn, .inl (cJ, 6, .inr (.inl nu)))] s.heap.size = A at hD ⊢
  have hA : ∀ q : Nat, s.heap.size ≤ q → A q := fun q h => by rw [← hAe]; exact Or.inr h
  have hS : va_S A s.heap s.heap [] := va_S.rf
  have hl := lv_entry ([.ref hm, .int x, .long wo]) (n := 4) (Nat.le_of_ble_eq_true rfl)
  rw [lg_entry_eq]
  generalize (lg_sl ([.ref hm, .int x, .long wo]) ++ List.replicate (4 - (lg_sl ([.ref hm, .int x, .long wo])).length) Slot.unset).toArray = ls at hl ⊢
  have hl : lv_has ls 4 [(0, .ref hm), (1, .int x), (2, .long wo)] := hl
  refine lv_aload_n hx hb dM_is_0 rfl (lv_at hl 0 rfl) ?_
  refine lv_iconst (v := nI 0) hx hb dM_is_1 (by decide +kernel) ?_
  refine va_put (D := (dC, dI)) (ci := 2) (v := .int (nI 0)) (ty := .int) (C := RM) (T := TM) (N := 6) hx hb hw inM tM tM_ok nM hown hK hP hD hS 0 rfl rfl 0 (by decide) (hw _ kw_386) (fun _ h9 => h9) rfl (by decide +kernel) rfl rfl (Nat.le_of_ble_eq_true rfl) dM_is_2 (fun H locs hP hD hS => ?_)
  have hP : va_P (dC, dI) cls3 [(hm, .inr (2, [.int (nI 0), .ref ml, .ref mw, .ref mb, .ref ms, .ref mn])), (ml, .inl (cI, 8, .inl ln)), (mw, .inl (cI, 512, .inl wh)), (mb, .inl (cI, 48, .inl bi)), (ms, .inl (cZ, 48, .inl si)), (mn, .inl (cJ, 6, .inr (.inl nu)))] H := hP
  have hD : va_D A [(hm, .inr (2, [.int (nI 0), .ref ml, .ref mw, .ref mb, .ref ms, .ref mn])), (ml, .inl (cI, 8, .inl ln)), (mw, .inl (cI, 512, .inl wh)), (mb, .inl (cI, 48, .inl bi)), (ms, .inl (cZ, 48, .inl si)), (mn, .inl (cJ, 6, .inr (.inl nu)))] := hD
  refine lv_aload_n hx hb dM_is_5 rfl (lv_at hl 0 rfl) ?_
  refine lv_iload_n hx hb dM_is_6 rfl (lv_at hl 1 rfl) ?_
  refine vp_callSi (W.runS (As := [.int x]) (rest := [.ref hm]) ⟨hx, hb, hml, hown, hw⟩ (c_M_isForm l x) (cwS 1 hw (gS kw_413 kw_414 kw_16 kw_415) rfl rfl rfl (by decide +kernel) ⟨Nat.le_of_ble_eq_true rfl, Nat.le_of_ble_eq_true rfl⟩) preEq rfl rfl hl.1 rfl (lv_room (Nat.le_of_ble_eq_true rfl)) dM_is_7 ⟨Nat.zero_le _, Nat.zero_le _⟩) (fun v7 e7 => ?_)
  obtain rfl : v7 = nI (isF x).toNat := e7
  refine lv_if_ne (tgt := 17) hx hb dM_is_10 (by decide) (fun h10 => ?_) (fun h10 => ?_)
  · obtain ⟨f, hf, rfl⟩ := isF_of (b_nf h10)
    have hff : fi (nI f) = f := fi_nI (by omega)
    refine lv_iconst (v := nI 0) hx hb dM_is_17 (by decide +kernel) ?_
    refine lv_iconst (v := nI 1) hx hb dM_is_18 (by decide +kernel) ?_
    have hPc := hP.sub (ws' := [(hm, .inr (2, [.int (nI 0), .ref ml, .ref mw, .ref mb, .ref ms, .ref mn])), (ml, .inl (cI, 8, .inl ln)), (mw, .inl (cI, 512, .inl wh)), (mb, .inl (cI, 48, .inl bi)), (ms, .inl (cZ, 48, .inl si)), (mn, .inl (cJ, 6, .inr (.inl nu)))]) [0, 1, 2, 3, 4, 5] rfl
    have hDc := hD.sub (ws' := [(hm, .inr (2, [.int (nI 0), .ref ml, .ref mw, .ref mb, .ref ms, .ref mn])), (ml, .inl (cI, 8, .inl ln)), (mw, .inl (cI, 512, .inl wh)), (mb, .inl (cI, 48, .inl bi)), (ms, .inl (cZ, 48, .inl si)), (mn, .inl (cJ, 6, .inr (.inl nu)))]) [0, 1, 2, 3, 4, 5] (by decide) rfl
    have hKc := hK.sub (tys' := [(cI, .int), (cZ, .boolean), (cJ, .long)]) [0, 1, 2] rfl
    have hFc := va_free (wc := [(hm, .inr (2, [.int (nI 0), .ref ml, .ref mw, .ref mb, .ref ms, .ref mn])), (ml, .inl (cI, 8, .inl ln)), (mw, .inl (cI, 512, .inl wh)), (mb, .inl (cI, 48, .inl bi)), (ms, .inl (cZ, 48, .inl si)), (mn, .inl (cJ, 6, .inr (.inl nu)))]) hD hS hA [0, 1, 2, 3, 4, 5] rfl
    refine va_calli (va_runV (As := [.int (nI 0), .int (nI 1)]) (rest := []) ⟨hx, hb, hml, hown, hw⟩ (c_M_fails0 l dC dI _ cI cZ cJ hm ml mw mb ms mn ln wh bi si nu 1 (by decide)) (cwV 2 hw (gV kw_420 kw_422 kw_5 kw_16 kw_423) rfl rfl rfl (by decide +kernel) ⟨Nat.le_of_ble_eq_true rfl, Nat.le_of_ble_eq_true rfl⟩) (rw_preV (q0 := 0) hKc hPc hDc rfl rfl) rfl rfl hl.1 rfl (lv_room (Nat.le_of_ble_eq_true rfl)) dM_is_19 ⟨Nat.zero_le _, Nat.zero_le _⟩) hS (fun q _ h => hFc q h) hFc (fun v19 u t H1 locs ht hvm e19 hB hz1 hk1 hS => ?_)
    obtain ⟨hP1, hK1, hD1⟩ := hB
    rw [ht] at hP1
    obtain ⟨hP, hD⟩ := va_join (wr := []) (w1 := [(hm, .inr (2, [.int (nI 0), .ref ml, .ref mw, .ref mb, .ref ms, .ref mn])), (ml, .inl (cI, 8, .inl ln)), (mw, .inl (cI, 512, .inl wh)), (mb, .inl (cI, 48, .inl bi)), (ms, .inl (cZ, 48, .inl si)), (mn, .inl (cJ, 6, .inr (.inl nu)))]) hP hD [0, 1, 2, 3, 4, 5] [] rfl rfl (by decide) (by decide) hk1 hFc hP1 hD1
    generalize H1 = H at hP hS ⊢
    have hP : va_P (dC, dI) cls3 [(hm, .inr (2, [.int (nI 0), .ref ml, .ref mw, .ref mb, .ref ms, .ref mn])), (ml, .inl (cI, 8, .inl ln)), (mw, .inl (cI, 512, .inl wh)), (mb, .inl (cI, 48, .inl bi)), (ms, .inl (cZ, 48, .inl si)), (mn, .inl (cJ, 6, .inr (.inl nu)))] H := hP
    have hD : va_D A [(hm, .inr (2, [.int (nI 0), .ref ml, .ref mw, .ref mb, .ref ms, .ref mn])), (ml, .inl (cI, 8, .inl ln)), (mw, .inl (cI, 512, .inl wh)), (mb, .inl (cI, 48, .inl bi)), (ms, .inl (cZ, 48, .inl si)), (mn, .inl (cJ, 6, .inr (.inl nu)))] := hD
    obtain rfl : v19 = nI 0 := e19
    refine lv_if_ne (tgt := 38) hx hb dM_is_22 (by decide) (fun h22 => ?_) (fun h22 => ?_)
    · exfalso
      first | exact h22 (by decide +kernel) | exact absurd h22 (by decide +kernel)
    · refine lv_aload_n hx hb dM_is_25 rfl (lv_at hl 0 rfl) ?_
      refine lv_iload_n hx hb dM_is_26 rfl (lv_at hl 1 rfl) ?_
      refine lv_lload_n hx hb dM_is_27 rfl (lv_at hl 2 rfl) ?_
      refine vp_callSi (W.runV (As := [.int (nI f), .long wo]) (rest := []) ⟨hx, hb, hml, hown, hw⟩ (c_M_isOf l dC dI cI cZ cJ hm ml mw mb ms mn (nI 0) ln wh bi si nu ns its wss sbs hM f wo hf) (cwV 2 hw (gV kw_488 kw_490 kw_12 kw_16 kw_491) rfl rfl rfl (by decide +kernel) ⟨Nat.le_of_ble_eq_true rfl, Nat.le_of_ble_eq_true rfl⟩) (ro_preV (q0 := 0) hK hP rfl rfl) rfl rfl hl.1 rfl (lv_room (Nat.le_of_ble_eq_true rfl)) dM_is_28 ⟨Nat.zero_le _, Nat.zero_le _⟩) (fun v28 e28 => ?_)
      obtain rfl : v28 = nI (isof (its f) (ns f) wo).toNat := e28
      refine lv_if_eq (tgt := 38) hx hb dM_is_31 (by decide) (fun h31 => ?_) (fun h31 => ?_)
      · refine lv_iconst (v := nI 0) hx hb dM_is_38 (by decide +kernel) ?_
        have hcd : cdClear (nI f) = 0 := by unfold cdClear; first | (rw [h10]; rfl) | (rw [isF_nI hf]; rfl)
        exact W.zret (v := nI 0) hx hb hr (by first | exact b_nar _ | decide +kernel) (fun t ht hW => ⟨⟨_, (), rfl, (by intro h0; first | exact absurd (hcd.symm.trans h0) (by decide) | (rw [hff]; first | (rw [(b_nat0 _).mp h31]; rfl) | (rw [b_nf h31]; rfl))), by rw [ht, hcd]; exact hP, va_K.moved hW.alike hK, by rw [hcd]; exact hD⟩, hS.F ht⟩) hS.2.2 dM_is_39
      · refine lv_iconst (v := nI 1) hx hb dM_is_34 (by decide +kernel) ?_
        refine lv_goto (tgt := 39) hx hb dM_is_35 (by decide) ?_
        have hcd : cdClear (nI f) = 0 := by unfold cdClear; first | (rw [h10]; rfl) | (rw [isF_nI hf]; rfl)
        exact W.zret (v := nI 1) hx hb hr (by first | exact b_nar _ | decide +kernel) (fun t ht hW => ⟨⟨_, (), rfl, (by intro h0; first | exact absurd (hcd.symm.trans h0) (by decide) | (rw [hff]; first | (rw [(b_nat0 _).mp h31]; rfl) | (rw [b_nf h31]; rfl))), by rw [ht, hcd]; exact hP, va_K.moved hW.alike hK, by rw [hcd]; exact hD⟩, hS.F ht⟩) hS.2.2 dM_is_39
  · rw [b_nat0] at h10
    refine lv_iconst (v := nI 1) hx hb dM_is_13 (by decide +kernel) ?_
    refine lv_goto (tgt := 18) hx hb dM_is_14 (by decide) ?_
    refine lv_iconst (v := nI 1) hx hb dM_is_18 (by decide +kernel) ?_
    have hPc := hP.sub (ws' := [(hm, .inr (2, [.int (nI 0), .ref ml, .ref mw, .ref mb, .ref ms, .ref mn])), (ml, .inl (cI, 8, .inl ln)), (mw, .inl (cI, 512, .inl wh)), (mb, .inl (cI, 48, .inl bi)), (ms, .inl (cZ, 48, .inl si)), (mn, .inl (cJ, 6, .inr (.inl nu)))]) [0, 1, 2, 3, 4, 5] rfl
    have hDc := hD.sub (ws' := [(hm, .inr (2, [.int (nI 0), .ref ml, .ref mw, .ref mb, .ref ms, .ref mn])), (ml, .inl (cI, 8, .inl ln)), (mw, .inl (cI, 512, .inl wh)), (mb, .inl (cI, 48, .inl bi)), (ms, .inl (cZ, 48, .inl si)), (mn, .inl (cJ, 6, .inr (.inl nu)))]) [0, 1, 2, 3, 4, 5] (by decide) rfl
    have hKc := hK.sub (tys' := [(cI, .int), (cZ, .boolean), (cJ, .long)]) [0, 1, 2] rfl
    have hFc := va_free (wc := [(hm, .inr (2, [.int (nI 0), .ref ml, .ref mw, .ref mb, .ref ms, .ref mn])), (ml, .inl (cI, 8, .inl ln)), (mw, .inl (cI, 512, .inl wh)), (mb, .inl (cI, 48, .inl bi)), (ms, .inl (cZ, 48, .inl si)), (mn, .inl (cJ, 6, .inr (.inl nu)))]) hD hS hA [0, 1, 2, 3, 4, 5] rfl
    refine va_calli (va_runV (As := [.int (nI 1), .int (nI 1)]) (rest := []) ⟨hx, hb, hml, hown, hw⟩ (c_M_fails1 l dC dI _ cI cZ cJ hm ml mw mb ms mn ln wh bi si nu 1 (by decide)) (cwV 2 hw (gV kw_420 kw_422 kw_5 kw_16 kw_423) rfl rfl rfl (by decide +kernel) ⟨Nat.le_of_ble_eq_true rfl, Nat.le_of_ble_eq_true rfl⟩) (rw_preV (q0 := 0) hKc hPc hDc rfl rfl) rfl rfl hl.1 rfl (lv_room (Nat.le_of_ble_eq_true rfl)) dM_is_19 ⟨Nat.zero_le _, Nat.zero_le _⟩) hS (fun q _ h => hFc q h) hFc (fun v19 u t H1 locs ht hvm e19 hB hz1 hk1 hS => ?_)
    obtain ⟨hP1, hK1, hD1⟩ := hB
    rw [ht] at hP1
    obtain ⟨hP, hD⟩ := va_join (wr := []) (w1 := [(hm, .inr (2, [.int (nI 1), .ref ml, .ref mw, .ref mb, .ref ms, .ref mn])), (ml, .inl (cI, 8, .inl ln)), (mw, .inl (cI, 512, .inl wh)), (mb, .inl (cI, 48, .inl bi)), (ms, .inl (cZ, 48, .inl si)), (mn, .inl (cJ, 6, .inr (.inl nu)))]) hP hD [0, 1, 2, 3, 4, 5] [] rfl rfl (by decide) (by decide) hk1 hFc hP1 hD1
    generalize H1 = H at hP hS ⊢
    have hP : va_P (dC, dI) cls3 [(hm, .inr (2, [.int (nI 1), .ref ml, .ref mw, .ref mb, .ref ms, .ref mn])), (ml, .inl (cI, 8, .inl ln)), (mw, .inl (cI, 512, .inl wh)), (mb, .inl (cI, 48, .inl bi)), (ms, .inl (cZ, 48, .inl si)), (mn, .inl (cJ, 6, .inr (.inl nu)))] H := hP
    have hD : va_D A [(hm, .inr (2, [.int (nI 1), .ref ml, .ref mw, .ref mb, .ref ms, .ref mn])), (ml, .inl (cI, 8, .inl ln)), (mw, .inl (cI, 512, .inl wh)), (mb, .inl (cI, 48, .inl bi)), (ms, .inl (cZ, 48, .inl si)), (mn, .inl (cJ, 6, .inr (.inl nu)))] := hD
    obtain rfl : v19 = nI 1 := e19
    refine lv_if_ne (tgt := 38) hx hb dM_is_22 (by decide) (fun h22 => ?_) (fun h22 => ?_)
    · refine lv_iconst (v := nI 0) hx hb dM_is_38 (by decide +kernel) ?_
      have hcd : cdClear x = 1 := by unfold cdClear; first | (rw [h10]; rfl) | (rw [isF_nI hf]; rfl)
      exact W.zret (v := nI 0) hx hb hr (by first | exact b_nar _ | decide +kernel) (fun t ht hW => ⟨⟨_, (), rfl, (by intro h0; first | exact absurd (hcd.symm.trans h0) (by decide) | (rw [hff]; first | (rw [(b_nat0 _).mp h31]; rfl) | (rw [b_nf h31]; rfl))), by rw [ht, hcd]; exact hP, va_K.moved hW.alike hK, by rw [hcd]; exact hD⟩, hS.F ht⟩) hS.2.2 dM_is_39
    · exfalso
      first | exact h22 (by decide +kernel) | exact absurd h22 (by decide +kernel)

set_option maxHeartbeats 4000000 in
set_option maxRecDepth 100000 in
theorem c_M_meet (l : Launch) (dC : Nat → ClassId) (dI : Nat → Nat → Nat) (sz : Nat) (cI cZ cJ : ClassId) (hm ml mw mb ms mn : Nat) (er : Int32) (ln wh bi si : Nat → Int32) (nu : Nat → Int64) (ns : Nat → Nat) (its wss : Nat → Nat → Nat) (sbs : Nat → Nat → Bool) (hM : mR ns its wss sbs ln wh bi si) (x y : Int32) : Met l yM_meet wM_meet { frames := 2, cells := 0, slots := 0, locals := 45 } (rw_Pc (dC, dI) cls3 [(hm, .inr (2, [.int er, .ref ml, .ref mw, .ref mb, .ref ms, .ref mn])), (ml, .inl (cI, 8, .inl ln)), (mw, .inl (cI, 512, .inl wh)), (mb, .inl (cI, 48, .inl bi)), (ms, .inl (cZ, 48, .inl si)), (mn, .inl (cJ, 6, .inr (.inl nu)))] [(cI, .int), (cZ, .boolean), (cJ, .long)] sz [.ref hm, .int x, .int y]) (va_Qi (fun (r : Int32) (_ : Unit) => cdMeet x y = 0 → r = nI (allb (shw (its (fi x)) (ns (fi x)) (its (fi y)) (ns (fi y))) 64).toNat) (fun _ t => va_P (dC, dI) cls3 [(hm, .inr (2, [.int (nI (cdMeet x y)), .ref ml, .ref mw, .ref mb, .ref ms, .ref mn])), (ml, .inl (cI, 8, .inl ln)), (mw, .inl (cI, 512, .inl wh)), (mb, .inl (cI, 48, .inl bi)), (ms, .inl (cZ, 48, .inl si)), (mn, .inl (cJ, 6, .inr (.inl nu)))] t.heap ∧ va_K (dC, dI) cls3 [(cI, .int), (cZ, .boolean), (cJ, .long)] t ∧ va_D (va_A [(hm, .inr (2, [.int er, .ref ml, .ref mw, .ref mb, .ref ms, .ref mn])), (ml, .inl (cI, 8, .inl ln)), (mw, .inl (cI, 512, .inl wh)), (mb, .inl (cI, 48, .inl bi)), (ms, .inl (cZ, 48, .inl si)), (mn, .inl (cJ, 6, .inr (.inl nu)))] sz) [(hm, .inr (2, [.int (nI (cdMeet x y)), .ref ml, .ref mw, .ref mb, .ref ms, .ref mn])), (ml, .inl (cI, 8, .inl ln)), (mw, .inl (cI, 512, .inl wh)), (mb, .inl (cI, 48, .inl bi)), (ms, .inl (cZ, 48, .inl si)), (mn, .inl (cJ, 6, .inr (.inl nu)))]) (va_A [(hm, .inr (2, [.int er, .ref ml, .ref mw, .ref mb, .ref ms, .ref mn])), (ml, .inl (cI, 8, .inl ln)), (mw, .inl (cI, 512, .inl wh)), (mb, .inl (cI, 48, .inl bi)), (ms, .inl (cZ, 48, .inl si)), (mn, .inl (cJ, 6, .inr (.inl nu)))] sz)) 0 0 (va_A [(hm, .inr (2, [.int er, .ref ml, .ref mw, .ref mb, .ref ms, .ref mn])), (ml, .inl (cI, 8, .inl ln)), (mw, .inl (cI, 512, .inl wh)), (mb, .inl (cI, 48, .inl bi)), (ms, .inl (cZ, 48, .inl si)), (mn, .inl (cJ, 6, .inr (.inl nu)))] sz) := by
  refine Met.ofW (cc := cM_meet) (maxL := 6) (ret := (some .boolean)) (by decide) rfl ?_
  intro p e s m args below meth c s₁ B hml hv
  obtain ⟨rfl, hsz, hP, hK, hD0⟩ := hv
  have hx := B.exec
  have hb := B.bytes
  have hr := B.returns
  have hts := atoms_spec (ws := wM_meet) B.pre
  have hw : ∀ w ∈ wA, w.before _ s = true := fun w h => hts w (List.mem_cons_of_mem _ h)
  have hown : s.vm.findClass RM = some m.cls := findClass_of_methodNamed B.named
  have hlocks := B.notSynchronized
  subst hsz
  have hD := hD0.self (sz := s.heap.size)
  generalize hAe : va_A [(hm, .inr (2, [.int er, .ref ml, .ref mw, .ref mb, .ref ms, .ref mn])), (ml, .inl (cI, 8, .inl ln)), (mw, .inl (cI, 512, .inl wh)), (mb, .inl (cI, 48, .inl bi)), (ms, .inl (cZ, 48, .inl si)), (mn, .inl (cJ, 6, .inr (.inl nu)))] s.heap.size = A at hD ⊢
  have hA : ∀ q : Nat, s.heap.size ≤ q → A q := fun q h => by rw [← hAe]; exact Or.inr h
  have hS : va_S A s.heap s.heap [] := va_S.rf
  have hl := lv_entry ([.ref hm, .int x, .int y]) (n := 6) (Nat.le_of_ble_eq_true rfl)
  rw [lg_entry_eq]
  generalize (lg_sl ([.ref hm, .int x, .int y]) ++ List.replicate (6 - (lg_sl ([.ref hm, .int x, .int y])).length) Slot.unset).toArray = ls at hl ⊢
  have hl : lv_has ls 6 [(0, .ref hm), (1, .int x), (2, .int y)] := hl
  refine lv_aload_n hx hb dM_meet_0 rfl (lv_at hl 0 rfl) ?_
  refine lv_iconst (v := nI 0) hx hb dM_meet_1 (by decide +kernel) ?_
  refine va_put (D := (dC, dI)) (ci := 2) (v := .int (nI 0)) (ty := .int) (C := RM) (T := TM) (N := 6) hx hb hw inM tM tM_ok nM hown hK hP hD hS 0 rfl rfl 0 (by decide) (hw _ kw_386) (fun _ h9 => h9) rfl (by decide +kernel) rfl rfl (Nat.le_of_ble_eq_true rfl) dM_meet_2 (fun H locs hP hD hS => ?_)
  have hP : va_P (dC, dI) cls3 [(hm, .inr (2, [.int (nI 0), .ref ml, .ref mw, .ref mb, .ref ms, .ref mn])), (ml, .inl (cI, 8, .inl ln)), (mw, .inl (cI, 512, .inl wh)), (mb, .inl (cI, 48, .inl bi)), (ms, .inl (cZ, 48, .inl si)), (mn, .inl (cJ, 6, .inr (.inl nu)))] H := hP
  have hD : va_D A [(hm, .inr (2, [.int (nI 0), .ref ml, .ref mw, .ref mb, .ref ms, .ref mn])), (ml, .inl (cI, 8, .inl ln)), (mw, .inl (cI, 512, .inl wh)), (mb, .inl (cI, 48, .inl bi)), (ms, .inl (cZ, 48, .inl si)), (mn, .inl (cJ, 6, .inr (.inl nu)))] := hD
  refine lv_aload_n hx hb dM_meet_5 rfl (lv_at hl 0 rfl) ?_
  refine lv_iload_n hx hb dM_meet_6 rfl (lv_at hl 1 rfl) ?_
  refine vp_callSi (W.runS (As := [.int x]) (rest := [.ref hm]) ⟨hx, hb, hml, hown, hw⟩ (c_M_isForm l x) (cwS 1 hw (gS kw_413 kw_414 kw_16 kw_415) rfl rfl rfl (by decide +kernel) ⟨Nat.le_of_ble_eq_true rfl, Nat.le_of_ble_eq_true rfl⟩) preEq rfl rfl hl.1 rfl (lv_room (Nat.le_of_ble_eq_true rfl)) dM_meet_7 ⟨Nat.zero_le _, Nat.zero_le _⟩) (fun v7 e7 => ?_)
  obtain rfl : v7 = nI (isF x).toNat := e7
  refine lv_if_eq (tgt := 20) hx hb dM_meet_10 (by decide) (fun h10 => ?_) (fun h10 => ?_)
  · rw [b_nat0] at h10
    refine lv_iconst (v := nI 1) hx hb dM_meet_20 (by decide +kernel) ?_
    refine lv_goto (tgt := 25) hx hb dM_meet_21 (by decide) ?_
    refine lv_iconst (v := nI 1) hx hb dM_meet_25 (by decide +kernel) ?_
    have hPc := hP.sub (ws' := [(hm, .inr (2, [.int (nI 0), .ref ml, .ref mw, .ref mb, .ref ms, .ref mn])), (ml, .inl (cI, 8, .inl ln)), (mw, .inl (cI, 512, .inl wh)), (mb, .inl (cI, 48, .inl bi)), (ms, .inl (cZ, 48, .inl si)), (mn, .inl (cJ, 6, .inr (.inl nu)))]) [0, 1, 2, 3, 4, 5] rfl
    have hDc := hD.sub (ws' := [(hm, .inr (2, [.int (nI 0), .ref ml, .ref mw, .ref mb, .ref ms, .ref mn])), (ml, .inl (cI, 8, .inl ln)), (mw, .inl (cI, 512, .inl wh)), (mb, .inl (cI, 48, .inl bi)), (ms, .inl (cZ, 48, .inl si)), (mn, .inl (cJ, 6, .inr (.inl nu)))]) [0, 1, 2, 3, 4, 5] (by decide) rfl
    have hKc := hK.sub (tys' := [(cI, .int), (cZ, .boolean), (cJ, .long)]) [0, 1, 2] rfl
    have hFc := va_free (wc := [(hm, .inr (2, [.int (nI 0), .ref ml, .ref mw, .ref mb, .ref ms, .ref mn])), (ml, .inl (cI, 8, .inl ln)), (mw, .inl (cI, 512, .inl wh)), (mb, .inl (cI, 48, .inl bi)), (ms, .inl (cZ, 48, .inl si)), (mn, .inl (cJ, 6, .inr (.inl nu)))]) hD hS hA [0, 1, 2, 3, 4, 5] rfl
    refine va_calli (va_runV (As := [.int (nI 1), .int (nI 1)]) (rest := []) ⟨hx, hb, hml, hown, hw⟩ (c_M_fails1 l dC dI _ cI cZ cJ hm ml mw mb ms mn ln wh bi si nu 1 (by decide)) (cwV 2 hw (gV kw_420 kw_422 kw_5 kw_16 kw_423) rfl rfl rfl (by decide +kernel) ⟨Nat.le_of_ble_eq_true rfl, Nat.le_of_ble_eq_true rfl⟩) (rw_preV (q0 := 0) hKc hPc hDc rfl rfl) rfl rfl hl.1 rfl (lv_room (Nat.le_of_ble_eq_true rfl)) dM_meet_26 ⟨Nat.zero_le _, Nat.zero_le _⟩) hS (fun q _ h => hFc q h) hFc (fun v26 u t H1 locs ht hvm e26 hB hz1 hk1 hS => ?_)
    obtain ⟨hP1, hK1, hD1⟩ := hB
    rw [ht] at hP1
    obtain ⟨hP, hD⟩ := va_join (wr := []) (w1 := [(hm, .inr (2, [.int (nI 1), .ref ml, .ref mw, .ref mb, .ref ms, .ref mn])), (ml, .inl (cI, 8, .inl ln)), (mw, .inl (cI, 512, .inl wh)), (mb, .inl (cI, 48, .inl bi)), (ms, .inl (cZ, 48, .inl si)), (mn, .inl (cJ, 6, .inr (.inl nu)))]) hP hD [0, 1, 2, 3, 4, 5] [] rfl rfl (by decide) (by decide) hk1 hFc hP1 hD1
    generalize H1 = H at hP hS ⊢
    have hP : va_P (dC, dI) cls3 [(hm, .inr (2, [.int (nI 1), .ref ml, .ref mw, .ref mb, .ref ms, .ref mn])), (ml, .inl (cI, 8, .inl ln)), (mw, .inl (cI, 512, .inl wh)), (mb, .inl (cI, 48, .inl bi)), (ms, .inl (cZ, 48, .inl si)), (mn, .inl (cJ, 6, .inr (.inl nu)))] H := hP
    have hD : va_D A [(hm, .inr (2, [.int (nI 1), .ref ml, .ref mw, .ref mb, .ref ms, .ref mn])), (ml, .inl (cI, 8, .inl ln)), (mw, .inl (cI, 512, .inl wh)), (mb, .inl (cI, 48, .inl bi)), (ms, .inl (cZ, 48, .inl si)), (mn, .inl (cJ, 6, .inr (.inl nu)))] := hD
    obtain rfl : v26 = nI 1 := e26
    refine lv_if_eq (tgt := 34) hx hb dM_meet_29 (by decide) (fun h29 => ?_) (fun h29 => ?_)
    · exfalso
      first | exact h29 (by decide +kernel) | exact absurd h29 (by decide +kernel)
    · refine lv_iconst (v := nI 0) hx hb dM_meet_32 (by decide +kernel) ?_
      have hcd : cdMeet x y = 1 := by unfold cdMeet; first | (rw [h10]; rfl) | (rw [isF_nI hf, h17]; rfl) | (rw [isF_nI hf, isF_nI hg]; rfl)
      exact W.zret (v := nI 0) hx hb hr (by first | exact b_nar _ | decide +kernel) (fun t ht hW => ⟨⟨_, (), rfl, (by intro h0; first | exact absurd (hcd.symm.trans h0) (by decide) | (rw [hff, hfg]; first | (rw [show j = 64 by omega] at ha; rw [ha]; rfl) | (rw [allb_f (shw (its f) (ns f) (its g) (ns g)) 64 (k := j) (by omega) (shw_af (by omega) (by omega) h102)]; rfl))), by rw [ht, hcd]; exact hP, va_K.moved hW.alike hK, by rw [hcd]; exact hD⟩, hS.F ht⟩) hS.2.2 dM_meet_33
  · obtain ⟨f, hf, rfl⟩ := isF_of (b_nf h10)
    have hff : fi (nI f) = f := fi_nI (by omega)
    have hok := (hM f hf).1
    have hn := hok.1
    have hw64 := hok.2.1
    have hit := cw_it hok
    refine lv_iload_n hx hb dM_meet_13 rfl (lv_at hl 2 rfl) ?_
    refine vp_callSi (W.runS (As := [.int y]) (rest := [.ref hm]) ⟨hx, hb, hml, hown, hw⟩ (c_M_isForm l y) (cwS 1 hw (gS kw_413 kw_414 kw_16 kw_415) rfl rfl rfl (by decide +kernel) ⟨Nat.le_of_ble_eq_true rfl, Nat.le_of_ble_eq_true rfl⟩) preEq rfl rfl hl.1 rfl (lv_room (Nat.le_of_ble_eq_true rfl)) dM_meet_14 ⟨Nat.zero_le _, Nat.zero_le _⟩) (fun v14 e14 => ?_)
    obtain rfl : v14 = nI (isF y).toNat := e14
    refine lv_if_ne (tgt := 24) hx hb dM_meet_17 (by decide) (fun h17 => ?_) (fun h17 => ?_)
    · obtain ⟨g, hg, rfl⟩ := isF_of (b_nf h17)
      have hfg : fi (nI g) = g := fi_nI (by omega)
      have hn2 := (hM g hg).1.1
      have hit2 := cw_it (hM g hg).1
      refine lv_iconst (v := nI 0) hx hb dM_meet_24 (by decide +kernel) ?_
      refine lv_iconst (v := nI 1) hx hb dM_meet_25 (by decide +kernel) ?_
      have hPc := hP.sub (ws' := [(hm, .inr (2, [.int (nI 0), .ref ml, .ref mw, .ref mb, .ref ms, .ref mn])), (ml, .inl (cI, 8, .inl ln)), (mw, .inl (cI, 512, .inl wh)), (mb, .inl (cI, 48, .inl bi)), (ms, .inl (cZ, 48, .inl si)), (mn, .inl (cJ, 6, .inr (.inl nu)))]) [0, 1, 2, 3, 4, 5] rfl
      have hDc := hD.sub (ws' := [(hm, .inr (2, [.int (nI 0), .ref ml, .ref mw, .ref mb, .ref ms, .ref mn])), (ml, .inl (cI, 8, .inl ln)), (mw, .inl (cI, 512, .inl wh)), (mb, .inl (cI, 48, .inl bi)), (ms, .inl (cZ, 48, .inl si)), (mn, .inl (cJ, 6, .inr (.inl nu)))]) [0, 1, 2, 3, 4, 5] (by decide) rfl
      have hKc := hK.sub (tys' := [(cI, .int), (cZ, .boolean), (cJ, .long)]) [0, 1, 2] rfl
      have hFc := va_free (wc := [(hm, .inr (2, [.int (nI 0), .ref ml, .ref mw, .ref mb, .ref ms, .ref mn])), (ml, .inl (cI, 8, .inl ln)), (mw, .inl (cI, 512, .inl wh)), (mb, .inl (cI, 48, .inl bi)), (ms, .inl (cZ, 48, .inl si)), (mn, .inl (cJ, 6, .inr (.inl nu)))]) hD hS hA [0, 1, 2, 3, 4, 5] rfl
      refine va_calli (va_runV (As := [.int (nI 0), .int (nI 1)]) (rest := []) ⟨hx, hb, hml, hown, hw⟩ (c_M_fails0 l dC dI _ cI cZ cJ hm ml mw mb ms mn ln wh bi si nu 1 (by decide)) (cwV 2 hw (gV kw_420 kw_422 kw_5 kw_16 kw_423) rfl rfl rfl (by decide +kernel) ⟨Nat.le_of_ble_eq_true rfl, Nat.le_of_ble_eq_true rfl⟩) (rw_preV (q0 := 0) hKc hPc hDc rfl rfl) rfl rfl hl.1 rfl (lv_room (Nat.le_of_ble_eq_true rfl)) dM_meet_26 ⟨Nat.zero_le _, Nat.zero_le _⟩) hS (fun q _ h => hFc q h) hFc (fun v26 u t H1 locs ht hvm e26 hB hz1 hk1 hS => ?_)
      obtain ⟨hP1, hK1, hD1⟩ := hB
      rw [ht] at hP1
      obtain ⟨hP, hD⟩ := va_join (wr := []) (w1 := [(hm, .inr (2, [.int (nI 0), .ref ml, .ref mw, .ref mb, .ref ms, .ref mn])), (ml, .inl (cI, 8, .inl ln)), (mw, .inl (cI, 512, .inl wh)), (mb, .inl (cI, 48, .inl bi)), (ms, .inl (cZ, 48, .inl si)), (mn, .inl (cJ, 6, .inr (.inl nu)))]) hP hD [0, 1, 2, 3, 4, 5] [] rfl rfl (by decide) (by decide) hk1 hFc hP1 hD1
      generalize H1 = H at hP hS ⊢
      have hP : va_P (dC, dI) cls3 [(hm, .inr (2, [.int (nI 0), .ref ml, .ref mw, .ref mb, .ref ms, .ref mn])), (ml, .inl (cI, 8, .inl ln)), (mw, .inl (cI, 512, .inl wh)), (mb, .inl (cI, 48, .inl bi)), (ms, .inl (cZ, 48, .inl si)), (mn, .inl (cJ, 6, .inr (.inl nu)))] H := hP
      have hD : va_D A [(hm, .inr (2, [.int (nI 0), .ref ml, .ref mw, .ref mb, .ref ms, .ref mn])), (ml, .inl (cI, 8, .inl ln)), (mw, .inl (cI, 512, .inl wh)), (mb, .inl (cI, 48, .inl bi)), (ms, .inl (cZ, 48, .inl si)), (mn, .inl (cJ, 6, .inr (.inl nu)))] := hD
      obtain rfl : v26 = nI 0 := e26
      refine lv_if_eq (tgt := 34) hx hb dM_meet_29 (by decide) (fun h29 => ?_) (fun h29 => ?_)
      · refine lv_iconst (v := nI 0) hx hb dM_meet_34 (by decide +kernel) ?_
        refine lv_istore_n hx hb dM_meet_35 rfl hl (by decide) rfl (fun ls hl => ?_)
        have hl : lv_has ls 6 [(3, .int (nI 0)), (0, .ref hm), (1, .int (nI f)), (2, .int (nI g))] := hl
        refine (?_ : ∀ (kk : Nat) (j : Nat) (H : Heap) (locs : List Loc) (ls : Array Slot), kk = 64 - j → lv_has ls 6 [(3, .int (nI j)), (0, .ref hm), (1, .int (nI f)), (2, .int (nI g))] → (j ≤ 64) → (allb (shw (its f) (ns f) (its g) (ns g)) j = true) → va_P (dC, dI) cls3 [(hm, .inr (2, [.int (nI 0), .ref ml, .ref mw, .ref mb, .ref ms, .ref mn])), (ml, .inl (cI, 8, .inl ln)), (mw, .inl (cI, 512, .inl wh)), (mb, .inl (cI, 48, .inl bi)), (ms, .inl (cZ, 48, .inl si)), (mn, .inl (cJ, 6, .inr (.inl nu)))] H → va_D A [(hm, .inr (2, [.int (nI 0), .ref ml, .ref mw, .ref mb, .ref ms, .ref mn])), (ml, .inl (cI, 8, .inl ln)), (mw, .inl (cI, 512, .inl wh)), (mb, .inl (cI, 48, .inl bi)), (ms, .inl (cZ, 48, .inl si)), (mn, .inl (cJ, 6, .inr (.inl nu)))] → va_S A s.heap H locs → W p l e _ s m _ below meth c H locs _ _ _ (F0 m 36 ls [])) _ 0 _ _ ls rfl (lv_sub hl [0, 1, 2, 3] rfl) (by omega) rfl hP hD hS
        intro kk
        induction kk using Nat.strongRecOn with
        | ind kk36 ih36 =>
          intro j H locs ls hkk36 hl hj ha hP hD hS
          refine lv_iload_n hx hb dM_meet_36 rfl (lv_at hl 0 rfl) ?_
          refine lv_bipush (v := nI 64) hx hb dM_meet_37 (by decide +kernel) ?_
          refine lv_icmp_ge (tgt := 113) hx hb dM_meet_39 (by decide) (fun h39 => ?_) (fun h39 => ?_)
          · rw [nI_leI (by omega) (by omega)] at h39
            refine lv_iconst (v := nI 1) hx hb dM_meet_113 (by decide +kernel) ?_
            have hcd : cdMeet (nI f) (nI g) = 0 := by unfold cdMeet; first | (rw [h10]; rfl) | (rw [isF_nI hf, h17]; rfl) | (rw [isF_nI hf, isF_nI hg]; rfl)
            exact W.zret (v := nI 1) hx hb hr (by first | exact b_nar _ | decide +kernel) (fun t ht hW => ⟨⟨_, (), rfl, (by intro h0; first | exact absurd (hcd.symm.trans h0) (by decide) | (rw [hff, hfg]; first | (rw [show j = 64 by omega] at ha; rw [ha]; rfl) | (rw [allb_f (shw (its f) (ns f) (its g) (ns g)) 64 (k := j) (by omega) (shw_af (by omega) (by omega) h102)]; rfl))), by rw [ht, hcd]; exact hP, va_K.moved hW.alike hK, by rw [hcd]; exact hD⟩, hS.F ht⟩) hS.2.2 dM_meet_114
          · rw [nI_leI (by omega) (by omega)] at h39
            refine lv_iload_n hx hb dM_meet_42 rfl (lv_at hl 0 rfl) ?_
            refine lv_aload_n hx hb dM_meet_43 rfl (lv_at hl 1 rfl) ?_
            refine va_get (D := (dC, dI)) (ci := 2) (v := .ref ml) (C := RM) (T := TM) (N := 6) hx hb hw inM hown hK hP 0 rfl rfl 1 (by decide) (hw _ kw_387) (fun _ h9 => h9) rfl dM_meet_44 ?_
            refine lv_iload_n hx hb dM_meet_47 rfl (lv_at hl 2 rfl) ?_
            refine va_iald hx hb hK hP 1 0 rfl rfl (vp_in_nI (by omega) (by decide)) dM_meet_48 ?_
            refine lv_topi (fun v48 e48 => ?_)
            rw [nI_clamp (by omega)] at e48
            obtain rfl : v48 = nI (ns f) := e48.trans (hM f hf).2.1
            refine lv_icmp_ge (tgt := 61) hx hb dM_meet_49 (by decide) (fun h49 => ?_) (fun h49 => ?_)
            · rw [nI_leI (by omega) (by omega)] at h49
              refine lv_iconst (v := nI 0) hx hb dM_meet_61 (by decide +kernel) ?_
              refine lv_topi (fun w61 ew61 => ?_)
              obtain rfl : w61 = nI (atS (its f) (ns f) j) := ew61.trans (atS_ge (by omega))
              refine lv_istore hx hb dM_meet_62 hl (by decide) rfl (fun ls hl => ?_)
              have hl : lv_has ls 6 [(4, .int (nI (atS (its f) (ns f) j))), (3, .int (nI j)), (0, .ref hm), (1, .int (nI f)), (2, .int (nI g))] := hl
              refine lv_iload_n hx hb dM_meet_64 rfl (lv_at hl 1 rfl) ?_
              refine lv_aload_n hx hb dM_meet_65 rfl (lv_at hl 2 rfl) ?_
              refine va_get (D := (dC, dI)) (ci := 2) (v := .ref ml) (C := RM) (T := TM) (N := 6) hx hb hw inM hown hK hP 0 rfl rfl 1 (by decide) (hw _ kw_387) (fun _ h9 => h9) rfl dM_meet_66 ?_
              refine lv_iload_n hx hb dM_meet_69 rfl (lv_at hl 4 rfl) ?_
              refine va_iald hx hb hK hP 1 0 rfl rfl (vp_in_nI (by omega) (by decide)) dM_meet_70 ?_
              refine lv_topi (fun v70 e70 => ?_)
              rw [nI_clamp (by omega)] at e70
              obtain rfl : v70 = nI (ns g) := e70.trans (hM g hg).2.1
              refine lv_icmp_ge (tgt := 83) hx hb dM_meet_71 (by decide) (fun h71 => ?_) (fun h71 => ?_)
              · rw [nI_leI (by omega) (by omega)] at h71
                refine lv_iconst (v := nI 0) hx hb dM_meet_83 (by decide +kernel) ?_
                refine lv_topi (fun w83 ew83 => ?_)
                obtain rfl : w83 = nI (atS (its g) (ns g) j) := ew83.trans (atS_ge (by omega))
                refine lv_istore hx hb dM_meet_84 hl (by decide) rfl (fun ls hl => ?_)
                have hl : lv_has ls 6 [(5, .int (nI (atS (its g) (ns g) j))), (4, .int (nI (atS (its f) (ns f) j))), (3, .int (nI j)), (0, .ref hm), (1, .int (nI f)), (2, .int (nI g))] := hl
                refine lv_iload hx hb dM_meet_86 (lv_at hl 1 rfl) ?_
                refine lv_iconst (v := nI 2) hx hb dM_meet_88 (by decide +kernel) ?_
                refine lv_icmp_ge (tgt := 107) hx hb dM_meet_89 (by decide) (fun h89 => ?_) (fun h89 => ?_)
                · have hz1 := atS_b hit j
                  rw [nI_leI (by omega) (by omega)] at h89
                  refine lv_iinc (k := 2) (v := nI (j + 1)) hx hb dM_meet_107 hl rfl (cw_inc _) (by decide) rfl (fun ls hl => ?_)
                  have hl : lv_has ls 6 [(3, .int (nI (j + 1))), (5, .int (nI (atS (its g) (ns g) j))), (4, .int (nI (atS (its f) (ns f) j))), (0, .ref hm), (1, .int (nI f)), (2, .int (nI g))] := hl
                  refine lv_goto (tgt := 36) hx hb dM_meet_110 (by decide) ?_
                  exact ih36 _ (by omega) (j + 1) _ _ ls rfl (lv_sub (l' := [(3, .int (nI (j + 1))), (0, .ref hm), (1, .int (nI f)), (2, .int (nI g))]) hl [0, 3, 4, 5] rfl) (by omega) (by simp only [allb, ha, Bool.true_and]; exact shw_at (by omega)) hP hD hS
                · have hz1 := atS_b hit j
                  rw [nI_leI (by omega) (by omega)] at h89
                  refine lv_iload hx hb dM_meet_92 (lv_at hl 0 rfl) ?_
                  refine lv_iconst (v := nI 2) hx hb dM_meet_94 (by decide +kernel) ?_
                  refine lv_icmp_ge (tgt := 107) hx hb dM_meet_95 (by decide) (fun h95 => ?_) (fun h95 => ?_)
                  · have hz2 := atS_b hit2 j
                    rw [nI_leI (by omega) (by omega)] at h95
                    refine lv_iinc (k := 2) (v := nI (j + 1)) hx hb dM_meet_107 hl rfl (cw_inc _) (by decide) rfl (fun ls hl => ?_)
                    have hl : lv_has ls 6 [(3, .int (nI (j + 1))), (5, .int (nI (atS (its g) (ns g) j))), (4, .int (nI (atS (its f) (ns f) j))), (0, .ref hm), (1, .int (nI f)), (2, .int (nI g))] := hl
                    refine lv_goto (tgt := 36) hx hb dM_meet_110 (by decide) ?_
                    exact ih36 _ (by omega) (j + 1) _ _ ls rfl (lv_sub (l' := [(3, .int (nI (j + 1))), (0, .ref hm), (1, .int (nI f)), (2, .int (nI g))]) hl [0, 3, 4, 5] rfl) (by omega) (by simp only [allb, ha, Bool.true_and]; exact shw_at (by omega)) hP hD hS
                  · have hz2 := atS_b hit2 j
                    rw [nI_leI (by omega) (by omega)] at h95
                    refine lv_iload hx hb dM_meet_98 (lv_at hl 1 rfl) ?_
                    refine lv_iload hx hb dM_meet_100 (lv_at hl 0 rfl) ?_
                    refine lv_icmp_eq (tgt := 107) hx hb dM_meet_102 (by decide) (fun h102 => ?_) (fun h102 => ?_)
                    · rw [nI_eq (by omega) (by omega)] at h102
                      refine lv_iinc (k := 2) (v := nI (j + 1)) hx hb dM_meet_107 hl rfl (cw_inc _) (by decide) rfl (fun ls hl => ?_)
                      have hl : lv_has ls 6 [(3, .int (nI (j + 1))), (5, .int (nI (atS (its g) (ns g) j))), (4, .int (nI (atS (its f) (ns f) j))), (0, .ref hm), (1, .int (nI f)), (2, .int (nI g))] := hl
                      refine lv_goto (tgt := 36) hx hb dM_meet_110 (by decide) ?_
                      exact ih36 _ (by omega) (j + 1) _ _ ls rfl (lv_sub (l' := [(3, .int (nI (j + 1))), (0, .ref hm), (1, .int (nI f)), (2, .int (nI g))]) hl [0, 3, 4, 5] rfl) (by omega) (by simp only [allb, ha, Bool.true_and]; exact shw_at (by omega)) hP hD hS
                    · rw [nI_eq (by omega) (by omega)] at h102
                      refine lv_iconst (v := nI 0) hx hb dM_meet_105 (by decide +kernel) ?_
                      have hcd : cdMeet (nI f) (nI g) = 0 := by unfold cdMeet; first | (rw [h10]; rfl) | (rw [isF_nI hf, h17]; rfl) | (rw [isF_nI hf, isF_nI hg]; rfl)
                      exact W.zret (v := nI 0) hx hb hr (by first | exact b_nar _ | decide +kernel) (fun t ht hW => ⟨⟨_, (), rfl, (by intro h0; first | exact absurd (hcd.symm.trans h0) (by decide) | (rw [hff, hfg]; first | (rw [show j = 64 by omega] at ha; rw [ha]; rfl) | (rw [allb_f (shw (its f) (ns f) (its g) (ns g)) 64 (k := j) (by omega) (shw_af (by omega) (by omega) h102)]; rfl))), by rw [ht, hcd]; exact hP, va_K.moved hW.alike hK, by rw [hcd]; exact hD⟩, hS.F ht⟩) hS.2.2 dM_meet_106
              · rw [nI_leI (by omega) (by omega)] at h71
                refine lv_aload_n hx hb dM_meet_74 rfl (lv_at hl 2 rfl) ?_
                refine lv_iload_n hx hb dM_meet_75 rfl (lv_at hl 4 rfl) ?_
                refine lv_iload_n hx hb dM_meet_76 rfl (lv_at hl 1 rfl) ?_
                refine vp_callSi (W.runV (As := [.int (nI g), .int (nI j)]) (rest := []) ⟨hx, hb, hml, hown, hw⟩ (c_M_at l dC dI cI cZ cJ hm ml mw mb ms mn (nI 0) ln wh bi si nu ns its wss sbs hM g j hg (by omega)) (cwV 2 hw (gV kw_480 kw_482 kw_11 kw_16 kw_483) rfl rfl rfl (by decide +kernel) ⟨Nat.le_of_ble_eq_true rfl, Nat.le_of_ble_eq_true rfl⟩) (ro_preV (q0 := 0) hK hP rfl rfl) rfl rfl hl.1 rfl (lv_room (Nat.le_of_ble_eq_true rfl)) dM_meet_77 ⟨Nat.zero_le _, Nat.zero_le _⟩) (fun v77 e77 => ?_)
                obtain rfl : v77 = nI (atS (its g) (ns g) j) := e77.trans (atS_lt (by omega))
                refine lv_goto (tgt := 84) hx hb dM_meet_80 (by decide) ?_
                refine lv_istore hx hb dM_meet_84 hl (by decide) rfl (fun ls hl => ?_)
                have hl : lv_has ls 6 [(5, .int (nI (atS (its g) (ns g) j))), (4, .int (nI (atS (its f) (ns f) j))), (3, .int (nI j)), (0, .ref hm), (1, .int (nI f)), (2, .int (nI g))] := hl
                refine lv_iload hx hb dM_meet_86 (lv_at hl 1 rfl) ?_
                refine lv_iconst (v := nI 2) hx hb dM_meet_88 (by decide +kernel) ?_
                refine lv_icmp_ge (tgt := 107) hx hb dM_meet_89 (by decide) (fun h89 => ?_) (fun h89 => ?_)
                · have hz1 := atS_b hit j
                  rw [nI_leI (by omega) (by omega)] at h89
                  refine lv_iinc (k := 2) (v := nI (j + 1)) hx hb dM_meet_107 hl rfl (cw_inc _) (by decide) rfl (fun ls hl => ?_)
                  have hl : lv_has ls 6 [(3, .int (nI (j + 1))), (5, .int (nI (atS (its g) (ns g) j))), (4, .int (nI (atS (its f) (ns f) j))), (0, .ref hm), (1, .int (nI f)), (2, .int (nI g))] := hl
                  refine lv_goto (tgt := 36) hx hb dM_meet_110 (by decide) ?_
                  exact ih36 _ (by omega) (j + 1) _ _ ls rfl (lv_sub (l' := [(3, .int (nI (j + 1))), (0, .ref hm), (1, .int (nI f)), (2, .int (nI g))]) hl [0, 3, 4, 5] rfl) (by omega) (by simp only [allb, ha, Bool.true_and]; exact shw_at (by omega)) hP hD hS
                · have hz1 := atS_b hit j
                  rw [nI_leI (by omega) (by omega)] at h89
                  refine lv_iload hx hb dM_meet_92 (lv_at hl 0 rfl) ?_
                  refine lv_iconst (v := nI 2) hx hb dM_meet_94 (by decide +kernel) ?_
                  refine lv_icmp_ge (tgt := 107) hx hb dM_meet_95 (by decide) (fun h95 => ?_) (fun h95 => ?_)
                  · have hz2 := atS_b hit2 j
                    rw [nI_leI (by omega) (by omega)] at h95
                    refine lv_iinc (k := 2) (v := nI (j + 1)) hx hb dM_meet_107 hl rfl (cw_inc _) (by decide) rfl (fun ls hl => ?_)
                    have hl : lv_has ls 6 [(3, .int (nI (j + 1))), (5, .int (nI (atS (its g) (ns g) j))), (4, .int (nI (atS (its f) (ns f) j))), (0, .ref hm), (1, .int (nI f)), (2, .int (nI g))] := hl
                    refine lv_goto (tgt := 36) hx hb dM_meet_110 (by decide) ?_
                    exact ih36 _ (by omega) (j + 1) _ _ ls rfl (lv_sub (l' := [(3, .int (nI (j + 1))), (0, .ref hm), (1, .int (nI f)), (2, .int (nI g))]) hl [0, 3, 4, 5] rfl) (by omega) (by simp only [allb, ha, Bool.true_and]; exact shw_at (by omega)) hP hD hS
                  · have hz2 := atS_b hit2 j
                    rw [nI_leI (by omega) (by omega)] at h95
                    refine lv_iload hx hb dM_meet_98 (lv_at hl 1 rfl) ?_
                    refine lv_iload hx hb dM_meet_100 (lv_at hl 0 rfl) ?_
                    refine lv_icmp_eq (tgt := 107) hx hb dM_meet_102 (by decide) (fun h102 => ?_) (fun h102 => ?_)
                    · rw [nI_eq (by omega) (by omega)] at h102
                      refine lv_iinc (k := 2) (v := nI (j + 1)) hx hb dM_meet_107 hl rfl (cw_inc _) (by decide) rfl (fun ls hl => ?_)
                      have hl : lv_has ls 6 [(3, .int (nI (j + 1))), (5, .int (nI (atS (its g) (ns g) j))), (4, .int (nI (atS (its f) (ns f) j))), (0, .ref hm), (1, .int (nI f)), (2, .int (nI g))] := hl
                      refine lv_goto (tgt := 36) hx hb dM_meet_110 (by decide) ?_
                      exact ih36 _ (by omega) (j + 1) _ _ ls rfl (lv_sub (l' := [(3, .int (nI (j + 1))), (0, .ref hm), (1, .int (nI f)), (2, .int (nI g))]) hl [0, 3, 4, 5] rfl) (by omega) (by simp only [allb, ha, Bool.true_and]; exact shw_at (by omega)) hP hD hS
                    · rw [nI_eq (by omega) (by omega)] at h102
                      refine lv_iconst (v := nI 0) hx hb dM_meet_105 (by decide +kernel) ?_
                      have hcd : cdMeet (nI f) (nI g) = 0 := by unfold cdMeet; first | (rw [h10]; rfl) | (rw [isF_nI hf, h17]; rfl) | (rw [isF_nI hf, isF_nI hg]; rfl)
                      exact W.zret (v := nI 0) hx hb hr (by first | exact b_nar _ | decide +kernel) (fun t ht hW => ⟨⟨_, (), rfl, (by intro h0; first | exact absurd (hcd.symm.trans h0) (by decide) | (rw [hff, hfg]; first | (rw [show j = 64 by omega] at ha; rw [ha]; rfl) | (rw [allb_f (shw (its f) (ns f) (its g) (ns g)) 64 (k := j) (by omega) (shw_af (by omega) (by omega) h102)]; rfl))), by rw [ht, hcd]; exact hP, va_K.moved hW.alike hK, by rw [hcd]; exact hD⟩, hS.F ht⟩) hS.2.2 dM_meet_106
            · rw [nI_leI (by omega) (by omega)] at h49
              refine lv_aload_n hx hb dM_meet_52 rfl (lv_at hl 1 rfl) ?_
              refine lv_iload_n hx hb dM_meet_53 rfl (lv_at hl 2 rfl) ?_
              refine lv_iload_n hx hb dM_meet_54 rfl (lv_at hl 0 rfl) ?_
              refine vp_callSi (W.runV (As := [.int (nI f), .int (nI j)]) (rest := []) ⟨hx, hb, hml, hown, hw⟩ (c_M_at l dC dI cI cZ cJ hm ml mw mb ms mn (nI 0) ln wh bi si nu ns its wss sbs hM f j hf (by omega)) (cwV 2 hw (gV kw_480 kw_482 kw_11 kw_16 kw_483) rfl rfl rfl (by decide +kernel) ⟨Nat.le_of_ble_eq_true rfl, Nat.le_of_ble_eq_true rfl⟩) (ro_preV (q0 := 0) hK hP rfl rfl) rfl rfl hl.1 rfl (lv_room (Nat.le_of_ble_eq_true rfl)) dM_meet_55 ⟨Nat.zero_le _, Nat.zero_le _⟩) (fun v55 e55 => ?_)
              obtain rfl : v55 = nI (atS (its f) (ns f) j) := e55.trans (atS_lt (by omega))
              refine lv_goto (tgt := 62) hx hb dM_meet_58 (by decide) ?_
              refine lv_istore hx hb dM_meet_62 hl (by decide) rfl (fun ls hl => ?_)
              have hl : lv_has ls 6 [(4, .int (nI (atS (its f) (ns f) j))), (3, .int (nI j)), (0, .ref hm), (1, .int (nI f)), (2, .int (nI g))] := hl
              refine lv_iload_n hx hb dM_meet_64 rfl (lv_at hl 1 rfl) ?_
              refine lv_aload_n hx hb dM_meet_65 rfl (lv_at hl 2 rfl) ?_
              refine va_get (D := (dC, dI)) (ci := 2) (v := .ref ml) (C := RM) (T := TM) (N := 6) hx hb hw inM hown hK hP 0 rfl rfl 1 (by decide) (hw _ kw_387) (fun _ h9 => h9) rfl dM_meet_66 ?_
              refine lv_iload_n hx hb dM_meet_69 rfl (lv_at hl 4 rfl) ?_
              refine va_iald hx hb hK hP 1 0 rfl rfl (vp_in_nI (by omega) (by decide)) dM_meet_70 ?_
              refine lv_topi (fun v70 e70 => ?_)
              rw [nI_clamp (by omega)] at e70
              obtain rfl : v70 = nI (ns g) := e70.trans (hM g hg).2.1
              refine lv_icmp_ge (tgt := 83) hx hb dM_meet_71 (by decide) (fun h71 => ?_) (fun h71 => ?_)
              · rw [nI_leI (by omega) (by omega)] at h71
                refine lv_iconst (v := nI 0) hx hb dM_meet_83 (by decide +kernel) ?_
                refine lv_topi (fun w83 ew83 => ?_)
                obtain rfl : w83 = nI (atS (its g) (ns g) j) := ew83.trans (atS_ge (by omega))
                refine lv_istore hx hb dM_meet_84 hl (by decide) rfl (fun ls hl => ?_)
                have hl : lv_has ls 6 [(5, .int (nI (atS (its g) (ns g) j))), (4, .int (nI (atS (its f) (ns f) j))), (3, .int (nI j)), (0, .ref hm), (1, .int (nI f)), (2, .int (nI g))] := hl
                refine lv_iload hx hb dM_meet_86 (lv_at hl 1 rfl) ?_
                refine lv_iconst (v := nI 2) hx hb dM_meet_88 (by decide +kernel) ?_
                refine lv_icmp_ge (tgt := 107) hx hb dM_meet_89 (by decide) (fun h89 => ?_) (fun h89 => ?_)
                · have hz1 := atS_b hit j
                  rw [nI_leI (by omega) (by omega)] at h89
                  refine lv_iinc (k := 2) (v := nI (j + 1)) hx hb dM_meet_107 hl rfl (cw_inc _) (by decide) rfl (fun ls hl => ?_)
                  have hl : lv_has ls 6 [(3, .int (nI (j + 1))), (5, .int (nI (atS (its g) (ns g) j))), (4, .int (nI (atS (its f) (ns f) j))), (0, .ref hm), (1, .int (nI f)), (2, .int (nI g))] := hl
                  refine lv_goto (tgt := 36) hx hb dM_meet_110 (by decide) ?_
                  exact ih36 _ (by omega) (j + 1) _ _ ls rfl (lv_sub (l' := [(3, .int (nI (j + 1))), (0, .ref hm), (1, .int (nI f)), (2, .int (nI g))]) hl [0, 3, 4, 5] rfl) (by omega) (by simp only [allb, ha, Bool.true_and]; exact shw_at (by omega)) hP hD hS
                · have hz1 := atS_b hit j
                  rw [nI_leI (by omega) (by omega)] at h89
                  refine lv_iload hx hb dM_meet_92 (lv_at hl 0 rfl) ?_
                  refine lv_iconst (v := nI 2) hx hb dM_meet_94 (by decide +kernel) ?_
                  refine lv_icmp_ge (tgt := 107) hx hb dM_meet_95 (by decide) (fun h95 => ?_) (fun h95 => ?_)
                  · have hz2 := atS_b hit2 j
                    rw [nI_leI (by omega) (by omega)] at h95
                    refine lv_iinc (k := 2) (v := nI (j + 1)) hx hb dM_meet_107 hl rfl (cw_inc _) (by decide) rfl (fun ls hl => ?_)
                    have hl : lv_has ls 6 [(3, .int (nI (j + 1))), (5, .int (nI (atS (its g) (ns g) j))), (4, .int (nI (atS (its f) (ns f) j))), (0, .ref hm), (1, .int (nI f)), (2, .int (nI g))] := hl
                    refine lv_goto (tgt := 36) hx hb dM_meet_110 (by decide) ?_
                    exact ih36 _ (by omega) (j + 1) _ _ ls rfl (lv_sub (l' := [(3, .int (nI (j + 1))), (0, .ref hm), (1, .int (nI f)), (2, .int (nI g))]) hl [0, 3, 4, 5] rfl) (by omega) (by simp only [allb, ha, Bool.true_and]; exact shw_at (by omega)) hP hD hS
                  · have hz2 := atS_b hit2 j
                    rw [nI_leI (by omega) (by omega)] at h95
                    refine lv_iload hx hb dM_meet_98 (lv_at hl 1 rfl) ?_
                    refine lv_iload hx hb dM_meet_100 (lv_at hl 0 rfl) ?_
                    refine lv_icmp_eq (tgt := 107) hx hb dM_meet_102 (by decide) (fun h102 => ?_) (fun h102 => ?_)
                    · rw [nI_eq (by omega) (by omega)] at h102
                      refine lv_iinc (k := 2) (v := nI (j + 1)) hx hb dM_meet_107 hl rfl (cw_inc _) (by decide) rfl (fun ls hl => ?_)
                      have hl : lv_has ls 6 [(3, .int (nI (j + 1))), (5, .int (nI (atS (its g) (ns g) j))), (4, .int (nI (atS (its f) (ns f) j))), (0, .ref hm), (1, .int (nI f)), (2, .int (nI g))] := hl
                      refine lv_goto (tgt := 36) hx hb dM_meet_110 (by decide) ?_
                      exact ih36 _ (by omega) (j + 1) _ _ ls rfl (lv_sub (l' := [(3, .int (nI (j + 1))), (0, .ref hm), (1, .int (nI f)), (2, .int (nI g))]) hl [0, 3, 4, 5] rfl) (by omega) (by simp only [allb, ha, Bool.true_and]; exact shw_at (by omega)) hP hD hS
                    · rw [nI_eq (by omega) (by omega)] at h102
                      refine lv_iconst (v := nI 0) hx hb dM_meet_105 (by decide +kernel) ?_
                      have hcd : cdMeet (nI f) (nI g) = 0 := by unfold cdMeet; first | (rw [h10]; rfl) | (rw [isF_nI hf, h17]; rfl) | (rw [isF_nI hf, isF_nI hg]; rfl)
                      exact W.zret (v := nI 0) hx hb hr (by first | exact b_nar _ | decide +kernel) (fun t ht hW => ⟨⟨_, (), rfl, (by intro h0; first | exact absurd (hcd.symm.trans h0) (by decide) | (rw [hff, hfg]; first | (rw [show j = 64 by omega] at ha; rw [ha]; rfl) | (rw [allb_f (shw (its f) (ns f) (its g) (ns g)) 64 (k := j) (by omega) (shw_af (by omega) (by omega) h102)]; rfl))), by rw [ht, hcd]; exact hP, va_K.moved hW.alike hK, by rw [hcd]; exact hD⟩, hS.F ht⟩) hS.2.2 dM_meet_106
              · rw [nI_leI (by omega) (by omega)] at h71
                refine lv_aload_n hx hb dM_meet_74 rfl (lv_at hl 2 rfl) ?_
                refine lv_iload_n hx hb dM_meet_75 rfl (lv_at hl 4 rfl) ?_
                refine lv_iload_n hx hb dM_meet_76 rfl (lv_at hl 1 rfl) ?_
                refine vp_callSi (W.runV (As := [.int (nI g), .int (nI j)]) (rest := []) ⟨hx, hb, hml, hown, hw⟩ (c_M_at l dC dI cI cZ cJ hm ml mw mb ms mn (nI 0) ln wh bi si nu ns its wss sbs hM g j hg (by omega)) (cwV 2 hw (gV kw_480 kw_482 kw_11 kw_16 kw_483) rfl rfl rfl (by decide +kernel) ⟨Nat.le_of_ble_eq_true rfl, Nat.le_of_ble_eq_true rfl⟩) (ro_preV (q0 := 0) hK hP rfl rfl) rfl rfl hl.1 rfl (lv_room (Nat.le_of_ble_eq_true rfl)) dM_meet_77 ⟨Nat.zero_le _, Nat.zero_le _⟩) (fun v77 e77 => ?_)
                obtain rfl : v77 = nI (atS (its g) (ns g) j) := e77.trans (atS_lt (by omega))
                refine lv_goto (tgt := 84) hx hb dM_meet_80 (by decide) ?_
                refine lv_istore hx hb dM_meet_84 hl (by decide) rfl (fun ls hl => ?_)
                have hl : lv_has ls 6 [(5, .int (nI (atS (its g) (ns g) j))), (4, .int (nI (atS (its f) (ns f) j))), (3, .int (nI j)), (0, .ref hm), (1, .int (nI f)), (2, .int (nI g))] := hl
                refine lv_iload hx hb dM_meet_86 (lv_at hl 1 rfl) ?_
                refine lv_iconst (v := nI 2) hx hb dM_meet_88 (by decide +kernel) ?_
                refine lv_icmp_ge (tgt := 107) hx hb dM_meet_89 (by decide) (fun h89 => ?_) (fun h89 => ?_)
                · have hz1 := atS_b hit j
                  rw [nI_leI (by omega) (by omega)] at h89
                  refine lv_iinc (k := 2) (v := nI (j + 1)) hx hb dM_meet_107 hl rfl (cw_inc _) (by decide) rfl (fun ls hl => ?_)
                  have hl : lv_has ls 6 [(3, .int (nI (j + 1))), (5, .int (nI (atS (its g) (ns g) j))), (4, .int (nI (atS (its f) (ns f) j))), (0, .ref hm), (1, .int (nI f)), (2, .int (nI g))] := hl
                  refine lv_goto (tgt := 36) hx hb dM_meet_110 (by decide) ?_
                  exact ih36 _ (by omega) (j + 1) _ _ ls rfl (lv_sub (l' := [(3, .int (nI (j + 1))), (0, .ref hm), (1, .int (nI f)), (2, .int (nI g))]) hl [0, 3, 4, 5] rfl) (by omega) (by simp only [allb, ha, Bool.true_and]; exact shw_at (by omega)) hP hD hS
                · have hz1 := atS_b hit j
                  rw [nI_leI (by omega) (by omega)] at h89
                  refine lv_iload hx hb dM_meet_92 (lv_at hl 0 rfl) ?_
                  refine lv_iconst (v := nI 2) hx hb dM_meet_94 (by decide +kernel) ?_
                  refine lv_icmp_ge (tgt := 107) hx hb dM_meet_95 (by decide) (fun h95 => ?_) (fun h95 => ?_)
                  · have hz2 := atS_b hit2 j
                    rw [nI_leI (by omega) (by omega)] at h95
                    refine lv_iinc (k := 2) (v := nI (j + 1)) hx hb dM_meet_107 hl rfl (cw_inc _) (by decide) rfl (fun ls hl => ?_)
                    have hl : lv_has ls 6 [(3, .int (nI (j + 1))), (5, .int (nI (atS (its g) (ns g) j))), (4, .int (nI (atS (its f) (ns f) j))), (0, .ref hm), (1, .int (nI f)), (2, .int (nI g))] := hl
                    refine lv_goto (tgt := 36) hx hb dM_meet_110 (by decide) ?_
                    exact ih36 _ (by omega) (j + 1) _ _ ls rfl (lv_sub (l' := [(3, .int (nI (j + 1))), (0, .ref hm), (1, .int (nI f)), (2, .int (nI g))]) hl [0, 3, 4, 5] rfl) (by omega) (by simp only [allb, ha, Bool.true_and]; exact shw_at (by omega)) hP hD hS
                  · have hz2 := atS_b hit2 j
                    rw [nI_leI (by omega) (by omega)] at h95
                    refine lv_iload hx hb dM_meet_98 (lv_at hl 1 rfl) ?_
                    refine lv_iload hx hb dM_meet_100 (lv_at hl 0 rfl) ?_
                    refine lv_icmp_eq (tgt := 107) hx hb dM_meet_102 (by decide) (fun h102 => ?_) (fun h102 => ?_)
                    · rw [nI_eq (by omega) (by omega)] at h102
                      refine lv_iinc (k := 2) (v := nI (j + 1)) hx hb dM_meet_107 hl rfl (cw_inc _) (by decide) rfl (fun ls hl => ?_)
                      have hl : lv_has ls 6 [(3, .int (nI (j + 1))), (5, .int (nI (atS (its g) (ns g) j))), (4, .int (nI (atS (its f) (ns f) j))), (0, .ref hm), (1, .int (nI f)), (2, .int (nI g))] := hl
                      refine lv_goto (tgt := 36) hx hb dM_meet_110 (by decide) ?_
                      exact ih36 _ (by omega) (j + 1) _ _ ls rfl (lv_sub (l' := [(3, .int (nI (j + 1))), (0, .ref hm), (1, .int (nI f)), (2, .int (nI g))]) hl [0, 3, 4, 5] rfl) (by omega) (by simp only [allb, ha, Bool.true_and]; exact shw_at (by omega)) hP hD hS
                    · rw [nI_eq (by omega) (by omega)] at h102
                      refine lv_iconst (v := nI 0) hx hb dM_meet_105 (by decide +kernel) ?_
                      have hcd : cdMeet (nI f) (nI g) = 0 := by unfold cdMeet; first | (rw [h10]; rfl) | (rw [isF_nI hf, h17]; rfl) | (rw [isF_nI hf, isF_nI hg]; rfl)
                      exact W.zret (v := nI 0) hx hb hr (by first | exact b_nar _ | decide +kernel) (fun t ht hW => ⟨⟨_, (), rfl, (by intro h0; first | exact absurd (hcd.symm.trans h0) (by decide) | (rw [hff, hfg]; first | (rw [show j = 64 by omega] at ha; rw [ha]; rfl) | (rw [allb_f (shw (its f) (ns f) (its g) (ns g)) 64 (k := j) (by omega) (shw_af (by omega) (by omega) h102)]; rfl))), by rw [ht, hcd]; exact hP, va_K.moved hW.alike hK, by rw [hcd]; exact hD⟩, hS.F ht⟩) hS.2.2 dM_meet_106
      · exfalso
        first | exact h29 (by decide +kernel) | exact absurd h29 (by decide +kernel)
    · rw [b_nat0] at h17
      refine lv_iconst (v := nI 1) hx hb dM_meet_20 (by decide +kernel) ?_
      refine lv_goto (tgt := 25) hx hb dM_meet_21 (by decide) ?_
      refine lv_iconst (v := nI 1) hx hb dM_meet_25 (by decide +kernel) ?_
      have hPc := hP.sub (ws' := [(hm, .inr (2, [.int (nI 0), .ref ml, .ref mw, .ref mb, .ref ms, .ref mn])), (ml, .inl (cI, 8, .inl ln)), (mw, .inl (cI, 512, .inl wh)), (mb, .inl (cI, 48, .inl bi)), (ms, .inl (cZ, 48, .inl si)), (mn, .inl (cJ, 6, .inr (.inl nu)))]) [0, 1, 2, 3, 4, 5] rfl
      have hDc := hD.sub (ws' := [(hm, .inr (2, [.int (nI 0), .ref ml, .ref mw, .ref mb, .ref ms, .ref mn])), (ml, .inl (cI, 8, .inl ln)), (mw, .inl (cI, 512, .inl wh)), (mb, .inl (cI, 48, .inl bi)), (ms, .inl (cZ, 48, .inl si)), (mn, .inl (cJ, 6, .inr (.inl nu)))]) [0, 1, 2, 3, 4, 5] (by decide) rfl
      have hKc := hK.sub (tys' := [(cI, .int), (cZ, .boolean), (cJ, .long)]) [0, 1, 2] rfl
      have hFc := va_free (wc := [(hm, .inr (2, [.int (nI 0), .ref ml, .ref mw, .ref mb, .ref ms, .ref mn])), (ml, .inl (cI, 8, .inl ln)), (mw, .inl (cI, 512, .inl wh)), (mb, .inl (cI, 48, .inl bi)), (ms, .inl (cZ, 48, .inl si)), (mn, .inl (cJ, 6, .inr (.inl nu)))]) hD hS hA [0, 1, 2, 3, 4, 5] rfl
      refine va_calli (va_runV (As := [.int (nI 1), .int (nI 1)]) (rest := []) ⟨hx, hb, hml, hown, hw⟩ (c_M_fails1 l dC dI _ cI cZ cJ hm ml mw mb ms mn ln wh bi si nu 1 (by decide)) (cwV 2 hw (gV kw_420 kw_422 kw_5 kw_16 kw_423) rfl rfl rfl (by decide +kernel) ⟨Nat.le_of_ble_eq_true rfl, Nat.le_of_ble_eq_true rfl⟩) (rw_preV (q0 := 0) hKc hPc hDc rfl rfl) rfl rfl hl.1 rfl (lv_room (Nat.le_of_ble_eq_true rfl)) dM_meet_26 ⟨Nat.zero_le _, Nat.zero_le _⟩) hS (fun q _ h => hFc q h) hFc (fun v26 u t H1 locs ht hvm e26 hB hz1 hk1 hS => ?_)
      obtain ⟨hP1, hK1, hD1⟩ := hB
      rw [ht] at hP1
      obtain ⟨hP, hD⟩ := va_join (wr := []) (w1 := [(hm, .inr (2, [.int (nI 1), .ref ml, .ref mw, .ref mb, .ref ms, .ref mn])), (ml, .inl (cI, 8, .inl ln)), (mw, .inl (cI, 512, .inl wh)), (mb, .inl (cI, 48, .inl bi)), (ms, .inl (cZ, 48, .inl si)), (mn, .inl (cJ, 6, .inr (.inl nu)))]) hP hD [0, 1, 2, 3, 4, 5] [] rfl rfl (by decide) (by decide) hk1 hFc hP1 hD1
      generalize H1 = H at hP hS ⊢
      have hP : va_P (dC, dI) cls3 [(hm, .inr (2, [.int (nI 1), .ref ml, .ref mw, .ref mb, .ref ms, .ref mn])), (ml, .inl (cI, 8, .inl ln)), (mw, .inl (cI, 512, .inl wh)), (mb, .inl (cI, 48, .inl bi)), (ms, .inl (cZ, 48, .inl si)), (mn, .inl (cJ, 6, .inr (.inl nu)))] H := hP
      have hD : va_D A [(hm, .inr (2, [.int (nI 1), .ref ml, .ref mw, .ref mb, .ref ms, .ref mn])), (ml, .inl (cI, 8, .inl ln)), (mw, .inl (cI, 512, .inl wh)), (mb, .inl (cI, 48, .inl bi)), (ms, .inl (cZ, 48, .inl si)), (mn, .inl (cJ, 6, .inr (.inl nu)))] := hD
      obtain rfl : v26 = nI 1 := e26
      refine lv_if_eq (tgt := 34) hx hb dM_meet_29 (by decide) (fun h29 => ?_) (fun h29 => ?_)
      · exfalso
        first | exact h29 (by decide +kernel) | exact absurd h29 (by decide +kernel)
      · refine lv_iconst (v := nI 0) hx hb dM_meet_32 (by decide +kernel) ?_
        have hcd : cdMeet (nI f) y = 1 := by unfold cdMeet; first | (rw [h10]; rfl) | (rw [isF_nI hf, h17]; rfl) | (rw [isF_nI hf, isF_nI hg]; rfl)
        exact W.zret (v := nI 0) hx hb hr (by first | exact b_nar _ | decide +kernel) (fun t ht hW => ⟨⟨_, (), rfl, (by intro h0; first | exact absurd (hcd.symm.trans h0) (by decide) | (rw [hff, hfg]; first | (rw [show j = 64 by omega] at ha; rw [ha]; rfl) | (rw [allb_f (shw (its f) (ns f) (its g) (ns g)) 64 (k := j) (by omega) (shw_af (by omega) (by omega) h102)]; rfl))), by rw [ht, hcd]; exact hP, va_K.moved hW.alike hK, by rw [hcd]; exact hD⟩, hS.F ht⟩) hS.2.2 dM_meet_33

set_option maxHeartbeats 4000000 in
set_option maxRecDepth 100000 in
theorem c_M_count (l : Launch) (dC : Nat → ClassId) (dI : Nat → Nat → Nat) (sz : Nat) (cI cZ cJ : ClassId) (hm ml mw mb ms mn : Nat) (er : Int32) (ln wh bi si : Nat → Int32) (nu : Nat → Int64) (ns : Nat → Nat) (its wss : Nat → Nat → Nat) (sbs : Nat → Nat → Bool) (hM : mR ns its wss sbs ln wh bi si) (x y : Int32) : Met l yM_count wM_count { frames := 2, cells := 0, slots := 0, locals := 48 } (rw_Pc (dC, dI) cls3 [(hm, .inr (2, [.int er, .ref ml, .ref mw, .ref mb, .ref ms, .ref mn])), (ml, .inl (cI, 8, .inl ln)), (mw, .inl (cI, 512, .inl wh)), (mb, .inl (cI, 48, .inl bi)), (ms, .inl (cZ, 48, .inl si)), (mn, .inl (cJ, 6, .inr (.inl nu)))] [(cI, .int), (cZ, .boolean), (cJ, .long)] sz [.ref hm, .int x, .int y]) (va_Qi (fun (r : Int32) (_ : Unit) => cdCnt x y = 0 → r = nI (cntR ns its wss (fi x) (fi y))) (fun _ t => va_P (dC, dI) cls3 [(hm, .inr (2, [.int (nI (cdCnt x y)), .ref ml, .ref mw, .ref mb, .ref ms, .ref mn])), (ml, .inl (cI, 8, .inl ln)), (mw, .inl (cI, 512, .inl wh)), (mb, .inl (cI, 48, .inl bi)), (ms, .inl (cZ, 48, .inl si)), (mn, .inl (cJ, 6, .inr (.inl nu)))] t.heap ∧ va_K (dC, dI) cls3 [(cI, .int), (cZ, .boolean), (cJ, .long)] t ∧ va_D (va_A [(hm, .inr (2, [.int er, .ref ml, .ref mw, .ref mb, .ref ms, .ref mn])), (ml, .inl (cI, 8, .inl ln)), (mw, .inl (cI, 512, .inl wh)), (mb, .inl (cI, 48, .inl bi)), (ms, .inl (cZ, 48, .inl si)), (mn, .inl (cJ, 6, .inr (.inl nu)))] sz) [(hm, .inr (2, [.int (nI (cdCnt x y)), .ref ml, .ref mw, .ref mb, .ref ms, .ref mn])), (ml, .inl (cI, 8, .inl ln)), (mw, .inl (cI, 512, .inl wh)), (mb, .inl (cI, 48, .inl bi)), (ms, .inl (cZ, 48, .inl si)), (mn, .inl (cJ, 6, .inr (.inl nu)))]) (va_A [(hm, .inr (2, [.int er, .ref ml, .ref mw, .ref mb, .ref ms, .ref mn])), (ml, .inl (cI, 8, .inl ln)), (mw, .inl (cI, 512, .inl wh)), (mb, .inl (cI, 48, .inl bi)), (ms, .inl (cZ, 48, .inl si)), (mn, .inl (cJ, 6, .inr (.inl nu)))] sz)) 0 0 (va_A [(hm, .inr (2, [.int er, .ref ml, .ref mw, .ref mb, .ref ms, .ref mn])), (ml, .inl (cI, 8, .inl ln)), (mw, .inl (cI, 512, .inl wh)), (mb, .inl (cI, 48, .inl bi)), (ms, .inl (cZ, 48, .inl si)), (mn, .inl (cJ, 6, .inr (.inl nu)))] sz) := by
  refine Met.ofW (cc := cM_count) (maxL := 5) (ret := (some .int)) (by decide) rfl ?_
  intro p e s m args below meth c s₁ B hml hv
  obtain ⟨rfl, hsz, hP, hK, hD0⟩ := hv
  have hx := B.exec
  have hb := B.bytes
  have hr := B.returns
  have hts := atoms_spec (ws := wM_count) B.pre
  have hw : ∀ w ∈ wA, w.before _ s = true := fun w h => hts w (List.mem_cons_of_mem _ h)
  have hown : s.vm.findClass RM = some m.cls := findClass_of_methodNamed B.named
  have hlocks := B.notSynchronized
  subst hsz
  have hD := hD0.self (sz := s.heap.size)
  generalize hAe : va_A [(hm, .inr (2, [.int er, .ref ml, .ref mw, .ref mb, .ref ms, .ref mn])), (ml, .inl (cI, 8, .inl ln)), (mw, .inl (cI, 512, .inl wh)), (mb, .inl (cI, 48, .inl bi)), (ms, .inl (cZ, 48, .inl si)), (mn, .inl (cJ, 6, .inr (.inl nu)))] s.heap.size = A at hD ⊢
  have hA : ∀ q : Nat, s.heap.size ≤ q → A q := fun q h => by rw [← hAe]; exact Or.inr h
  have hS : va_S A s.heap s.heap [] := va_S.rf
  have hl := lv_entry ([.ref hm, .int x, .int y]) (n := 5) (Nat.le_of_ble_eq_true rfl)
  rw [lg_entry_eq]
  generalize (lg_sl ([.ref hm, .int x, .int y]) ++ List.replicate (5 - (lg_sl ([.ref hm, .int x, .int y])).length) Slot.unset).toArray = ls at hl ⊢
  have hl : lv_has ls 5 [(0, .ref hm), (1, .int x), (2, .int y)] := hl
  refine lv_aload_n hx hb dM_count_0 rfl (lv_at hl 0 rfl) ?_
  refine lv_iconst (v := nI 0) hx hb dM_count_1 (by decide +kernel) ?_
  refine va_put (D := (dC, dI)) (ci := 2) (v := .int (nI 0)) (ty := .int) (C := RM) (T := TM) (N := 6) hx hb hw inM tM tM_ok nM hown hK hP hD hS 0 rfl rfl 0 (by decide) (hw _ kw_386) (fun _ h9 => h9) rfl (by decide +kernel) rfl rfl (Nat.le_of_ble_eq_true rfl) dM_count_2 (fun H locs hP hD hS => ?_)
  have hP : va_P (dC, dI) cls3 [(hm, .inr (2, [.int (nI 0), .ref ml, .ref mw, .ref mb, .ref ms, .ref mn])), (ml, .inl (cI, 8, .inl ln)), (mw, .inl (cI, 512, .inl wh)), (mb, .inl (cI, 48, .inl bi)), (ms, .inl (cZ, 48, .inl si)), (mn, .inl (cJ, 6, .inr (.inl nu)))] H := hP
  have hD : va_D A [(hm, .inr (2, [.int (nI 0), .ref ml, .ref mw, .ref mb, .ref ms, .ref mn])), (ml, .inl (cI, 8, .inl ln)), (mw, .inl (cI, 512, .inl wh)), (mb, .inl (cI, 48, .inl bi)), (ms, .inl (cZ, 48, .inl si)), (mn, .inl (cJ, 6, .inr (.inl nu)))] := hD
  refine lv_aload_n hx hb dM_count_5 rfl (lv_at hl 0 rfl) ?_
  refine lv_iload_n hx hb dM_count_6 rfl (lv_at hl 1 rfl) ?_
  refine vp_callSi (W.runS (As := [.int x]) (rest := [.ref hm]) ⟨hx, hb, hml, hown, hw⟩ (c_M_isForm l x) (cwS 1 hw (gS kw_413 kw_414 kw_16 kw_415) rfl rfl rfl (by decide +kernel) ⟨Nat.le_of_ble_eq_true rfl, Nat.le_of_ble_eq_true rfl⟩) preEq rfl rfl hl.1 rfl (lv_room (Nat.le_of_ble_eq_true rfl)) dM_count_7 ⟨Nat.zero_le _, Nat.zero_le _⟩) (fun v7 e7 => ?_)
  obtain rfl : v7 = nI (isF x).toNat := e7
  refine lv_if_eq (tgt := 25) hx hb dM_count_10 (by decide) (fun h10 => ?_) (fun h10 => ?_)
  · rw [b_nat0] at h10
    refine lv_iconst (v := nI 1) hx hb dM_count_25 (by decide +kernel) ?_
    refine lv_goto (tgt := 30) hx hb dM_count_26 (by decide) ?_
    refine lv_iconst (v := nI 1) hx hb dM_count_30 (by decide +kernel) ?_
    have hPc := hP.sub (ws' := [(hm, .inr (2, [.int (nI 0), .ref ml, .ref mw, .ref mb, .ref ms, .ref mn])), (ml, .inl (cI, 8, .inl ln)), (mw, .inl (cI, 512, .inl wh)), (mb, .inl (cI, 48, .inl bi)), (ms, .inl (cZ, 48, .inl si)), (mn, .inl (cJ, 6, .inr (.inl nu)))]) [0, 1, 2, 3, 4, 5] rfl
    have hDc := hD.sub (ws' := [(hm, .inr (2, [.int (nI 0), .ref ml, .ref mw, .ref mb, .ref ms, .ref mn])), (ml, .inl (cI, 8, .inl ln)), (mw, .inl (cI, 512, .inl wh)), (mb, .inl (cI, 48, .inl bi)), (ms, .inl (cZ, 48, .inl si)), (mn, .inl (cJ, 6, .inr (.inl nu)))]) [0, 1, 2, 3, 4, 5] (by decide) rfl
    have hKc := hK.sub (tys' := [(cI, .int), (cZ, .boolean), (cJ, .long)]) [0, 1, 2] rfl
    have hFc := va_free (wc := [(hm, .inr (2, [.int (nI 0), .ref ml, .ref mw, .ref mb, .ref ms, .ref mn])), (ml, .inl (cI, 8, .inl ln)), (mw, .inl (cI, 512, .inl wh)), (mb, .inl (cI, 48, .inl bi)), (ms, .inl (cZ, 48, .inl si)), (mn, .inl (cJ, 6, .inr (.inl nu)))]) hD hS hA [0, 1, 2, 3, 4, 5] rfl
    refine va_calli (va_runV (As := [.int (nI 1), .int (nI 1)]) (rest := []) ⟨hx, hb, hml, hown, hw⟩ (c_M_fails1 l dC dI _ cI cZ cJ hm ml mw mb ms mn ln wh bi si nu 1 (by decide)) (cwV 2 hw (gV kw_420 kw_422 kw_5 kw_16 kw_423) rfl rfl rfl (by decide +kernel) ⟨Nat.le_of_ble_eq_true rfl, Nat.le_of_ble_eq_true rfl⟩) (rw_preV (q0 := 0) hKc hPc hDc rfl rfl) rfl rfl hl.1 rfl (lv_room (Nat.le_of_ble_eq_true rfl)) dM_count_31 ⟨Nat.zero_le _, Nat.zero_le _⟩) hS (fun q _ h => hFc q h) hFc (fun v31 u t H1 locs ht hvm e31 hB hz1 hk1 hS => ?_)
    obtain ⟨hP1, hK1, hD1⟩ := hB
    rw [ht] at hP1
    obtain ⟨hP, hD⟩ := va_join (wr := []) (w1 := [(hm, .inr (2, [.int (nI 1), .ref ml, .ref mw, .ref mb, .ref ms, .ref mn])), (ml, .inl (cI, 8, .inl ln)), (mw, .inl (cI, 512, .inl wh)), (mb, .inl (cI, 48, .inl bi)), (ms, .inl (cZ, 48, .inl si)), (mn, .inl (cJ, 6, .inr (.inl nu)))]) hP hD [0, 1, 2, 3, 4, 5] [] rfl rfl (by decide) (by decide) hk1 hFc hP1 hD1
    generalize H1 = H at hP hS ⊢
    have hP : va_P (dC, dI) cls3 [(hm, .inr (2, [.int (nI 1), .ref ml, .ref mw, .ref mb, .ref ms, .ref mn])), (ml, .inl (cI, 8, .inl ln)), (mw, .inl (cI, 512, .inl wh)), (mb, .inl (cI, 48, .inl bi)), (ms, .inl (cZ, 48, .inl si)), (mn, .inl (cJ, 6, .inr (.inl nu)))] H := hP
    have hD : va_D A [(hm, .inr (2, [.int (nI 1), .ref ml, .ref mw, .ref mb, .ref ms, .ref mn])), (ml, .inl (cI, 8, .inl ln)), (mw, .inl (cI, 512, .inl wh)), (mb, .inl (cI, 48, .inl bi)), (ms, .inl (cZ, 48, .inl si)), (mn, .inl (cJ, 6, .inr (.inl nu)))] := hD
    obtain rfl : v31 = nI 1 := e31
    refine lv_if_eq (tgt := 39) hx hb dM_count_34 (by decide) (fun h34 => ?_) (fun h34 => ?_)
    · exfalso
      first | exact h34 (by decide +kernel) | exact absurd h34 (by decide +kernel)
    · refine lv_iconst (v := nI 0) hx hb dM_count_37 (by decide +kernel) ?_
      have hcd : cdCnt x y = 1 := by unfold cdCnt; first | (rw [h10]; rfl) | (rw [isF_nI hf, h22]; rfl) | (rw [isF_nI hf, isW_nI hq]; rfl)
      exact W.iret (v := nI 0) hx hb hr (fun t ht hW => ⟨⟨_, (), rfl, (by intro h0; first | exact absurd (hcd.symm.trans h0) (by decide) | (rw [hff, hfq]; first | rfl | (rw [show j = 6 by omega]; rfl) | (rw [show j = ns f by omega, cw_fxr_all]; rfl))), by rw [ht, hcd]; exact hP, va_K.moved hW.alike hK, by rw [hcd]; exact hD⟩, hS.F ht⟩) hS.2.2 dM_count_38
  · obtain ⟨f, hf, rfl⟩ := isF_of (b_nf h10)
    have hff : fi (nI f) = f := fi_nI (by omega)
    have hok := (hM f hf).1
    have hn := hok.1
    have hw64 := hok.2.1
    have hit := cw_it hok
    refine lv_iload_n hx hb dM_count_13 rfl (lv_at hl 2 rfl) ?_
    refine lv_i2l hx hb dM_count_14 rfl ?_
    refine lv_topl (fun v14 e14 => ?_)
    refine lv_lconst (v := lN 0) hx hb dM_count_15 (by decide +kernel) ?_
    refine lv_ldc2 (v := lN 3) hx hb hown (hw _ kw_504) dM_count_16 ?_
    refine vp_callSi (W.runS (As := [.long v14, .long (lN 0), .long (lN 3)]) (rest := [.ref hm]) ⟨hx, hb, hml, hown, hw⟩ (c_M_in l v14 (lN 0) (lN 3)) (cwS 3 hw (gS kw_417 kw_418 kw_16 kw_419) rfl rfl rfl (by decide +kernel) ⟨Nat.le_of_ble_eq_true rfl, Nat.le_of_ble_eq_true rfl⟩) preEq rfl rfl hl.1 rfl (lv_room (Nat.le_of_ble_eq_true rfl)) dM_count_19 ⟨Nat.zero_le _, Nat.zero_le _⟩) (fun v19 e19 => ?_)
    obtain rfl : v19 = nI (isW y).toNat := e19.trans (by rw [e14]; exact isW_in y)
    refine lv_if_ne (tgt := 29) hx hb dM_count_22 (by decide) (fun h22 => ?_) (fun h22 => ?_)
    · obtain ⟨q, hq, rfl⟩ := isW_of (b_nf h22)
      have hfq : fi (nI q) = q := fi_nI (by omega)
      refine lv_iconst (v := nI 0) hx hb dM_count_29 (by decide +kernel) ?_
      refine lv_iconst (v := nI 1) hx hb dM_count_30 (by decide +kernel) ?_
      have hPc := hP.sub (ws' := [(hm, .inr (2, [.int (nI 0), .ref ml, .ref mw, .ref mb, .ref ms, .ref mn])), (ml, .inl (cI, 8, .inl ln)), (mw, .inl (cI, 512, .inl wh)), (mb, .inl (cI, 48, .inl bi)), (ms, .inl (cZ, 48, .inl si)), (mn, .inl (cJ, 6, .inr (.inl nu)))]) [0, 1, 2, 3, 4, 5] rfl
      have hDc := hD.sub (ws' := [(hm, .inr (2, [.int (nI 0), .ref ml, .ref mw, .ref mb, .ref ms, .ref mn])), (ml, .inl (cI, 8, .inl ln)), (mw, .inl (cI, 512, .inl wh)), (mb, .inl (cI, 48, .inl bi)), (ms, .inl (cZ, 48, .inl si)), (mn, .inl (cJ, 6, .inr (.inl nu)))]) [0, 1, 2, 3, 4, 5] (by decide) rfl
      have hKc := hK.sub (tys' := [(cI, .int), (cZ, .boolean), (cJ, .long)]) [0, 1, 2] rfl
      have hFc := va_free (wc := [(hm, .inr (2, [.int (nI 0), .ref ml, .ref mw, .ref mb, .ref ms, .ref mn])), (ml, .inl (cI, 8, .inl ln)), (mw, .inl (cI, 512, .inl wh)), (mb, .inl (cI, 48, .inl bi)), (ms, .inl (cZ, 48, .inl si)), (mn, .inl (cJ, 6, .inr (.inl nu)))]) hD hS hA [0, 1, 2, 3, 4, 5] rfl
      refine va_calli (va_runV (As := [.int (nI 0), .int (nI 1)]) (rest := []) ⟨hx, hb, hml, hown, hw⟩ (c_M_fails0 l dC dI _ cI cZ cJ hm ml mw mb ms mn ln wh bi si nu 1 (by decide)) (cwV 2 hw (gV kw_420 kw_422 kw_5 kw_16 kw_423) rfl rfl rfl (by decide +kernel) ⟨Nat.le_of_ble_eq_true rfl, Nat.le_of_ble_eq_true rfl⟩) (rw_preV (q0 := 0) hKc hPc hDc rfl rfl) rfl rfl hl.1 rfl (lv_room (Nat.le_of_ble_eq_true rfl)) dM_count_31 ⟨Nat.zero_le _, Nat.zero_le _⟩) hS (fun q _ h => hFc q h) hFc (fun v31 u t H1 locs ht hvm e31 hB hz1 hk1 hS => ?_)
      obtain ⟨hP1, hK1, hD1⟩ := hB
      rw [ht] at hP1
      obtain ⟨hP, hD⟩ := va_join (wr := []) (w1 := [(hm, .inr (2, [.int (nI 0), .ref ml, .ref mw, .ref mb, .ref ms, .ref mn])), (ml, .inl (cI, 8, .inl ln)), (mw, .inl (cI, 512, .inl wh)), (mb, .inl (cI, 48, .inl bi)), (ms, .inl (cZ, 48, .inl si)), (mn, .inl (cJ, 6, .inr (.inl nu)))]) hP hD [0, 1, 2, 3, 4, 5] [] rfl rfl (by decide) (by decide) hk1 hFc hP1 hD1
      generalize H1 = H at hP hS ⊢
      have hP : va_P (dC, dI) cls3 [(hm, .inr (2, [.int (nI 0), .ref ml, .ref mw, .ref mb, .ref ms, .ref mn])), (ml, .inl (cI, 8, .inl ln)), (mw, .inl (cI, 512, .inl wh)), (mb, .inl (cI, 48, .inl bi)), (ms, .inl (cZ, 48, .inl si)), (mn, .inl (cJ, 6, .inr (.inl nu)))] H := hP
      have hD : va_D A [(hm, .inr (2, [.int (nI 0), .ref ml, .ref mw, .ref mb, .ref ms, .ref mn])), (ml, .inl (cI, 8, .inl ln)), (mw, .inl (cI, 512, .inl wh)), (mb, .inl (cI, 48, .inl bi)), (ms, .inl (cZ, 48, .inl si)), (mn, .inl (cJ, 6, .inr (.inl nu)))] := hD
      obtain rfl : v31 = nI 0 := e31
      refine lv_if_eq (tgt := 39) hx hb dM_count_34 (by decide) (fun h34 => ?_) (fun h34 => ?_)
      · refine lv_iconst (v := nI 0) hx hb dM_count_39 (by decide +kernel) ?_
        refine lv_istore_n hx hb dM_count_40 rfl hl (by decide) rfl (fun ls hl => ?_)
        have hl : lv_has ls 5 [(3, .int (nI 0)), (0, .ref hm), (1, .int (nI f)), (2, .int (nI q))] := hl
        refine lv_iload_n hx hb dM_count_41 rfl (lv_at hl 3 rfl) ?_
        rcases (show q = 0 ∨ q = 1 ∨ q = 2 ∨ q = 3 by omega) with rfl | rfl | rfl | rfl
        · refine lv_tableIn (tgt := 68) hx hb dM_count_42 (by decide +kernel) (by decide +kernel) rfl (by decide) ?_
          refine lv_aload_n hx hb dM_count_68 rfl (lv_at hl 1 rfl) ?_
          refine va_get (D := (dC, dI)) (ci := 2) (v := .ref ml) (C := RM) (T := TM) (N := 6) hx hb hw inM hown hK hP 0 rfl rfl 1 (by decide) (hw _ kw_387) (fun _ h9 => h9) rfl dM_count_69 ?_
          refine lv_iload_n hx hb dM_count_72 rfl (lv_at hl 2 rfl) ?_
          refine va_iald hx hb hK hP 1 0 rfl rfl (vp_in_nI (by omega) (by decide)) dM_count_73 ?_
          refine lv_topi (fun v73 e73 => ?_)
          rw [nI_clamp (by omega)] at e73
          obtain rfl : v73 = nI (ns f) := e73.trans (hM f hf).2.1
          have hcd : cdCnt (nI f) (nI 0) = 0 := by unfold cdCnt; first | (rw [h10]; rfl) | (rw [isF_nI hf, h22]; rfl) | (rw [isF_nI hf, isW_nI hq]; rfl)
          exact W.iret (v := nI (ns f)) hx hb hr (fun t ht hW => ⟨⟨_, (), rfl, (by intro h0; first | exact absurd (hcd.symm.trans h0) (by decide) | (rw [hff, hfq]; first | rfl | (rw [show j = 6 by omega]; rfl) | (rw [show j = ns f by omega, cw_fxr_all]; rfl))), by rw [ht, hcd]; exact hP, va_K.moved hW.alike hK, by rw [hcd]; exact hD⟩, hS.F ht⟩) hS.2.2 dM_count_74
        · refine lv_tableIn (tgt := 75) hx hb dM_count_42 (by decide +kernel) (by decide +kernel) rfl (by decide) ?_
          refine lv_iconst (v := nI 0) hx hb dM_count_75 (by decide +kernel) ?_
          refine lv_istore hx hb dM_count_76 hl (by decide) rfl (fun ls hl => ?_)
          have hl : lv_has ls 5 [(4, .int (nI 0)), (3, .int (nI 0)), (0, .ref hm), (1, .int (nI f)), (2, .int (nI 1))] := hl
          refine (?_ : ∀ (kk : Nat) (j : Nat) (H : Heap) (locs : List Loc) (ls : Array Slot), kk = ns f - j → lv_has ls 5 [(4, .int (nI j)), (3, .int (nI (cw_fxr (its f) (ns f) j))), (0, .ref hm), (1, .int (nI f)), (2, .int (nI 1))] → (j ≤ ns f) → va_P (dC, dI) cls3 [(hm, .inr (2, [.int (nI 0), .ref ml, .ref mw, .ref mb, .ref ms, .ref mn])), (ml, .inl (cI, 8, .inl ln)), (mw, .inl (cI, 512, .inl wh)), (mb, .inl (cI, 48, .inl bi)), (ms, .inl (cZ, 48, .inl si)), (mn, .inl (cJ, 6, .inr (.inl nu)))] H → va_D A [(hm, .inr (2, [.int (nI 0), .ref ml, .ref mw, .ref mb, .ref ms, .ref mn])), (ml, .inl (cI, 8, .inl ln)), (mw, .inl (cI, 512, .inl wh)), (mb, .inl (cI, 48, .inl bi)), (ms, .inl (cZ, 48, .inl si)), (mn, .inl (cJ, 6, .inr (.inl nu)))] → va_S A s.heap H locs → W p l e _ s m _ below meth c H locs _ _ _ (F0 m 78 ls [])) _ 0 _ _ ls rfl (lv_sub hl [0, 1, 2, 3, 4] rfl) (by omega) hP hD hS
          intro kk
          induction kk using Nat.strongRecOn with
          | ind kk78 ih78 =>
            intro j H locs ls hkk78 hl hj hP hD hS
            refine lv_iload hx hb dM_count_78 (lv_at hl 0 rfl) ?_
            refine lv_aload_n hx hb dM_count_80 rfl (lv_at hl 2 rfl) ?_
            refine va_get (D := (dC, dI)) (ci := 2) (v := .ref ml) (C := RM) (T := TM) (N := 6) hx hb hw inM hown hK hP 0 rfl rfl 1 (by decide) (hw _ kw_387) (fun _ h9 => h9) rfl dM_count_81 ?_
            refine lv_iload_n hx hb dM_count_84 rfl (lv_at hl 3 rfl) ?_
            refine va_iald hx hb hK hP 1 0 rfl rfl (vp_in_nI (by omega) (by decide)) dM_count_85 ?_
            refine lv_topi (fun v85 e85 => ?_)
            rw [nI_clamp (by omega)] at e85
            obtain rfl : v85 = nI (ns f) := e85.trans (hM f hf).2.1
            refine lv_icmp_ge (tgt := 109) hx hb dM_count_86 (by decide) (fun h86 => ?_) (fun h86 => ?_)
            · rw [nI_leI (by omega) (by omega)] at h86
              refine lv_iload_n hx hb dM_count_109 rfl (lv_at hl 1 rfl) ?_
              have hcd : cdCnt (nI f) (nI 1) = 0 := by unfold cdCnt; first | (rw [h10]; rfl) | (rw [isF_nI hf, h22]; rfl) | (rw [isF_nI hf, isW_nI hq]; rfl)
              exact W.iret (v := nI (cw_fxr (its f) (ns f) j)) hx hb hr (fun t ht hW => ⟨⟨_, (), rfl, (by intro h0; first | exact absurd (hcd.symm.trans h0) (by decide) | (rw [hff, hfq]; first | rfl | (rw [show j = 6 by omega]; rfl) | (rw [show j = ns f by omega, cw_fxr_all]; rfl))), by rw [ht, hcd]; exact hP, va_K.moved hW.alike hK, by rw [hcd]; exact hD⟩, hS.F ht⟩) hS.2.2 dM_count_110
            · rw [nI_leI (by omega) (by omega)] at h86
              refine lv_aload_n hx hb dM_count_89 rfl (lv_at hl 2 rfl) ?_
              refine lv_iload_n hx hb dM_count_90 rfl (lv_at hl 3 rfl) ?_
              refine lv_iload hx hb dM_count_91 (lv_at hl 0 rfl) ?_
              refine vp_callSi (W.runV (As := [.int (nI f), .int (nI j)]) (rest := []) ⟨hx, hb, hml, hown, hw⟩ (c_M_at l dC dI cI cZ cJ hm ml mw mb ms mn (nI 0) ln wh bi si nu ns its wss sbs hM f j hf (by omega)) (cwV 2 hw (gV kw_480 kw_482 kw_11 kw_16 kw_483) rfl rfl rfl (by decide +kernel) ⟨Nat.le_of_ble_eq_true rfl, Nat.le_of_ble_eq_true rfl⟩) (ro_preV (q0 := 0) hK hP rfl rfl) rfl rfl hl.1 rfl (lv_room (Nat.le_of_ble_eq_true rfl)) dM_count_93 ⟨Nat.zero_le _, Nat.zero_le _⟩) (fun v93 e93 => ?_)
              obtain rfl : v93 = nI (its f (ns f - 1 - j)) := e93
              refine lv_iconst (v := nI 2) hx hb dM_count_96 (by decide +kernel) ?_
              refine lv_icmp_ge (tgt := 103) hx hb dM_count_97 (by decide) (fun h97 => ?_) (fun h97 => ?_)
              · have hij := hit (ns f - 1 - j) (by omega)
                rw [nI_leI (by omega) (by omega)] at h97
                refine lv_iinc (k := 0) (v := nI (j + 1)) hx hb dM_count_103 hl rfl (cw_inc _) (by decide) rfl (fun ls hl => ?_)
                have hl : lv_has ls 5 [(4, .int (nI (j + 1))), (3, .int (nI (cw_fxr (its f) (ns f) j))), (0, .ref hm), (1, .int (nI f)), (2, .int (nI 1))] := hl
                refine lv_goto (tgt := 78) hx hb dM_count_106 (by decide) ?_
                exact ih78 _ (by omega) (j + 1) _ _ ls rfl (cw_lvx (lv_sub (l' := [(4, .int (nI (j + 1))), (3, .int (nI (cw_fxr (its f) (ns f) j))), (0, .ref hm), (1, .int (nI f)), (2, .int (nI 1))]) hl [0, 1, 2, 3, 4] rfl) (by simp only [cw_fxr]; first | (rw [if_neg (by omega)]; rfl) | (rw [if_pos (by omega)]))) (by omega) hP hD hS
              · have hij := hit (ns f - 1 - j) (by omega)
                rw [nI_leI (by omega) (by omega)] at h97
                refine lv_iinc (k := 1) (v := nI ((cw_fxr (its f) (ns f) j) + 1)) hx hb dM_count_100 hl rfl (cw_inc _) (by decide) rfl (fun ls hl => ?_)
                have hl : lv_has ls 5 [(3, .int (nI ((cw_fxr (its f) (ns f) j) + 1))), (4, .int (nI j)), (0, .ref hm), (1, .int (nI f)), (2, .int (nI 1))] := hl
                refine lv_iinc (k := 1) (v := nI (j + 1)) hx hb dM_count_103 hl rfl (cw_inc _) (by decide) rfl (fun ls hl => ?_)
                have hl : lv_has ls 5 [(4, .int (nI (j + 1))), (3, .int (nI ((cw_fxr (its f) (ns f) j) + 1))), (0, .ref hm), (1, .int (nI f)), (2, .int (nI 1))] := hl
                refine lv_goto (tgt := 78) hx hb dM_count_106 (by decide) ?_
                exact ih78 _ (by omega) (j + 1) _ _ ls rfl (cw_lvx (lv_sub (l' := [(4, .int (nI (j + 1))), (3, .int (nI ((cw_fxr (its f) (ns f) j) + 1))), (0, .ref hm), (1, .int (nI f)), (2, .int (nI 1))]) hl [0, 1, 2, 3, 4] rfl) (by simp only [cw_fxr]; first | (rw [if_neg (by omega)]; rfl) | (rw [if_pos (by omega)]))) (by omega) hP hD hS
        · refine lv_tableIn (tgt := 111) hx hb dM_count_42 (by decide +kernel) (by decide +kernel) rfl (by decide) ?_
          refine lv_iconst (v := nI 0) hx hb dM_count_111 (by decide +kernel) ?_
          refine lv_istore hx hb dM_count_112 hl (by decide) rfl (fun ls hl => ?_)
          have hl : lv_has ls 5 [(4, .int (nI 0)), (3, .int (nI 0)), (0, .ref hm), (1, .int (nI f)), (2, .int (nI 2))] := hl
          refine (?_ : ∀ (kk : Nat) (j : Nat) (H : Heap) (locs : List Loc) (ls : Array Slot), kk = 6 - j → lv_has ls 5 [(4, .int (nI j)), (3, .int (nI (cw_ops (wss f) j))), (0, .ref hm), (1, .int (nI f)), (2, .int (nI 2))] → (j ≤ 6) → va_P (dC, dI) cls3 [(hm, .inr (2, [.int (nI 0), .ref ml, .ref mw, .ref mb, .ref ms, .ref mn])), (ml, .inl (cI, 8, .inl ln)), (mw, .inl (cI, 512, .inl wh)), (mb, .inl (cI, 48, .inl bi)), (ms, .inl (cZ, 48, .inl si)), (mn, .inl (cJ, 6, .inr (.inl nu)))] H → va_D A [(hm, .inr (2, [.int (nI 0), .ref ml, .ref mw, .ref mb, .ref ms, .ref mn])), (ml, .inl (cI, 8, .inl ln)), (mw, .inl (cI, 512, .inl wh)), (mb, .inl (cI, 48, .inl bi)), (ms, .inl (cZ, 48, .inl si)), (mn, .inl (cJ, 6, .inr (.inl nu)))] → va_S A s.heap H locs → W p l e _ s m _ below meth c H locs _ _ _ (F0 m 114 ls [])) _ 0 _ _ ls rfl (lv_sub hl [0, 1, 2, 3, 4] rfl) (by omega) hP hD hS
          intro kk
          induction kk using Nat.strongRecOn with
          | ind kk114 ih114 =>
            intro j H locs ls hkk114 hl hj hP hD hS
            refine lv_iload hx hb dM_count_114 (lv_at hl 0 rfl) ?_
            refine lv_bipush (v := nI 6) hx hb dM_count_116 (by decide +kernel) ?_
            refine lv_icmp_ge (tgt := 140) hx hb dM_count_118 (by decide) (fun h118 => ?_) (fun h118 => ?_)
            · rw [nI_leI (by omega) (by omega)] at h118
              refine lv_iload_n hx hb dM_count_140 rfl (lv_at hl 1 rfl) ?_
              have hcd : cdCnt (nI f) (nI 2) = 0 := by unfold cdCnt; first | (rw [h10]; rfl) | (rw [isF_nI hf, h22]; rfl) | (rw [isF_nI hf, isW_nI hq]; rfl)
              exact W.iret (v := nI (cw_ops (wss f) j)) hx hb hr (fun t ht hW => ⟨⟨_, (), rfl, (by intro h0; first | exact absurd (hcd.symm.trans h0) (by decide) | (rw [hff, hfq]; first | rfl | (rw [show j = 6 by omega]; rfl) | (rw [show j = ns f by omega, cw_fxr_all]; rfl))), by rw [ht, hcd]; exact hP, va_K.moved hW.alike hK, by rw [hcd]; exact hD⟩, hS.F ht⟩) hS.2.2 dM_count_141
            · rw [nI_leI (by omega) (by omega)] at h118
              refine lv_aload_n hx hb dM_count_121 rfl (lv_at hl 2 rfl) ?_
              refine lv_iload_n hx hb dM_count_122 rfl (lv_at hl 3 rfl) ?_
              refine lv_iload hx hb dM_count_123 (lv_at hl 0 rfl) ?_
              refine vp_callSi (W.runV (As := [.int (nI f), .int (nI j)]) (rest := []) ⟨hx, hb, hml, hown, hw⟩ (c_M_many l dC dI cI cZ cJ hm ml mw mb ms mn (nI 0) ln wh bi si nu ns its wss sbs hM f j hf (by omega)) (cwV 2 hw (gV kw_433 kw_435 kw_6 kw_16 kw_436) rfl rfl rfl (by decide +kernel) ⟨Nat.le_of_ble_eq_true rfl, Nat.le_of_ble_eq_true rfl⟩) (ro_preV (q0 := 0) hK hP rfl rfl) rfl rfl hl.1 rfl (lv_room (Nat.le_of_ble_eq_true rfl)) dM_count_125 ⟨Nat.zero_le _, Nat.zero_le _⟩) (fun v125 e125 => ?_)
              obtain rfl : v125 = nI (wss f j) := e125
              refine lv_if_le (tgt := 134) hx hb dM_count_128 (by decide) (fun h128 => ?_) (fun h128 => ?_)
              · have hwo := hw64 j (by omega)
                rw [nI_le0 (by omega)] at h128
                refine lv_iinc (k := 0) (v := nI (j + 1)) hx hb dM_count_134 hl rfl (cw_inc _) (by decide) rfl (fun ls hl => ?_)
                have hl : lv_has ls 5 [(4, .int (nI (j + 1))), (3, .int (nI (cw_ops (wss f) j))), (0, .ref hm), (1, .int (nI f)), (2, .int (nI 2))] := hl
                refine lv_goto (tgt := 114) hx hb dM_count_137 (by decide) ?_
                exact ih114 _ (by omega) (j + 1) _ _ ls rfl (cw_lvx (lv_sub (l' := [(4, .int (nI (j + 1))), (3, .int (nI (cw_ops (wss f) j))), (0, .ref hm), (1, .int (nI f)), (2, .int (nI 2))]) hl [0, 1, 2, 3, 4] rfl) (by simp only [cw_ops]; first | (rw [if_neg (by omega)]; rfl) | (rw [if_pos (by omega)]))) (by omega) hP hD hS
              · have hwo := hw64 j (by omega)
                rw [nI_le0 (by omega)] at h128
                refine lv_iinc (k := 1) (v := nI ((cw_ops (wss f) j) + 1)) hx hb dM_count_131 hl rfl (cw_inc _) (by decide) rfl (fun ls hl => ?_)
                have hl : lv_has ls 5 [(3, .int (nI ((cw_ops (wss f) j) + 1))), (4, .int (nI j)), (0, .ref hm), (1, .int (nI f)), (2, .int (nI 2))] := hl
                refine lv_iinc (k := 1) (v := nI (j + 1)) hx hb dM_count_134 hl rfl (cw_inc _) (by decide) rfl (fun ls hl => ?_)
                have hl : lv_has ls 5 [(4, .int (nI (j + 1))), (3, .int (nI ((cw_ops (wss f) j) + 1))), (0, .ref hm), (1, .int (nI f)), (2, .int (nI 2))] := hl
                refine lv_goto (tgt := 114) hx hb dM_count_137 (by decide) ?_
                exact ih114 _ (by omega) (j + 1) _ _ ls rfl (cw_lvx (lv_sub (l' := [(4, .int (nI (j + 1))), (3, .int (nI ((cw_ops (wss f) j) + 1))), (0, .ref hm), (1, .int (nI f)), (2, .int (nI 2))]) hl [0, 1, 2, 3, 4] rfl) (by simp only [cw_ops]; first | (rw [if_neg (by omega)]; rfl) | (rw [if_pos (by omega)]))) (by omega) hP hD hS
        · refine lv_tableOut (tgt := 142) hx hb dM_count_42 (by decide +kernel) (by decide) ?_
          refine lv_aload_n hx hb dM_count_142 rfl (lv_at hl 1 rfl) ?_
          refine lv_iload_n hx hb dM_count_143 rfl (lv_at hl 2 rfl) ?_
          refine vp_callSi (W.runV (As := [.int (nI f)]) (rest := []) ⟨hx, hb, hml, hown, hw⟩ (c_M_left l dC dI cI cZ cJ hm ml mw mb ms mn (nI 0) ln wh bi si nu ns its wss sbs hM f hf) (cwV 1 hw (gV kw_460 kw_462 kw_9 kw_16 kw_463) rfl rfl rfl (by decide +kernel) ⟨Nat.le_of_ble_eq_true rfl, Nat.le_of_ble_eq_true rfl⟩) (ro_preV (q0 := 0) hK hP rfl rfl) rfl rfl hl.1 rfl (lv_room (Nat.le_of_ble_eq_true rfl)) dM_count_144 ⟨Nat.zero_le _, Nat.zero_le _⟩) (fun v144 e144 => ?_)
          obtain rfl : v144 = nI (cw_lft (its f) (ns f) (wss f) 6) := e144
          have hcd : cdCnt (nI f) (nI 3) = 0 := by unfold cdCnt; first | (rw [h10]; rfl) | (rw [isF_nI hf, h22]; rfl) | (rw [isF_nI hf, isW_nI hq]; rfl)
          exact W.iret (v := nI (cw_lft (its f) (ns f) (wss f) 6)) hx hb hr (fun t ht hW => ⟨⟨_, (), rfl, (by intro h0; first | exact absurd (hcd.symm.trans h0) (by decide) | (rw [hff, hfq]; first | rfl | (rw [show j = 6 by omega]; rfl) | (rw [show j = ns f by omega, cw_fxr_all]; rfl))), by rw [ht, hcd]; exact hP, va_K.moved hW.alike hK, by rw [hcd]; exact hD⟩, hS.F ht⟩) hS.2.2 dM_count_147
      · exfalso
        first | exact h34 (by decide +kernel) | exact absurd h34 (by decide +kernel)
    · rw [b_nat0] at h22
      refine lv_iconst (v := nI 1) hx hb dM_count_25 (by decide +kernel) ?_
      refine lv_goto (tgt := 30) hx hb dM_count_26 (by decide) ?_
      refine lv_iconst (v := nI 1) hx hb dM_count_30 (by decide +kernel) ?_
      have hPc := hP.sub (ws' := [(hm, .inr (2, [.int (nI 0), .ref ml, .ref mw, .ref mb, .ref ms, .ref mn])), (ml, .inl (cI, 8, .inl ln)), (mw, .inl (cI, 512, .inl wh)), (mb, .inl (cI, 48, .inl bi)), (ms, .inl (cZ, 48, .inl si)), (mn, .inl (cJ, 6, .inr (.inl nu)))]) [0, 1, 2, 3, 4, 5] rfl
      have hDc := hD.sub (ws' := [(hm, .inr (2, [.int (nI 0), .ref ml, .ref mw, .ref mb, .ref ms, .ref mn])), (ml, .inl (cI, 8, .inl ln)), (mw, .inl (cI, 512, .inl wh)), (mb, .inl (cI, 48, .inl bi)), (ms, .inl (cZ, 48, .inl si)), (mn, .inl (cJ, 6, .inr (.inl nu)))]) [0, 1, 2, 3, 4, 5] (by decide) rfl
      have hKc := hK.sub (tys' := [(cI, .int), (cZ, .boolean), (cJ, .long)]) [0, 1, 2] rfl
      have hFc := va_free (wc := [(hm, .inr (2, [.int (nI 0), .ref ml, .ref mw, .ref mb, .ref ms, .ref mn])), (ml, .inl (cI, 8, .inl ln)), (mw, .inl (cI, 512, .inl wh)), (mb, .inl (cI, 48, .inl bi)), (ms, .inl (cZ, 48, .inl si)), (mn, .inl (cJ, 6, .inr (.inl nu)))]) hD hS hA [0, 1, 2, 3, 4, 5] rfl
      refine va_calli (va_runV (As := [.int (nI 1), .int (nI 1)]) (rest := []) ⟨hx, hb, hml, hown, hw⟩ (c_M_fails1 l dC dI _ cI cZ cJ hm ml mw mb ms mn ln wh bi si nu 1 (by decide)) (cwV 2 hw (gV kw_420 kw_422 kw_5 kw_16 kw_423) rfl rfl rfl (by decide +kernel) ⟨Nat.le_of_ble_eq_true rfl, Nat.le_of_ble_eq_true rfl⟩) (rw_preV (q0 := 0) hKc hPc hDc rfl rfl) rfl rfl hl.1 rfl (lv_room (Nat.le_of_ble_eq_true rfl)) dM_count_31 ⟨Nat.zero_le _, Nat.zero_le _⟩) hS (fun q _ h => hFc q h) hFc (fun v31 u t H1 locs ht hvm e31 hB hz1 hk1 hS => ?_)
      obtain ⟨hP1, hK1, hD1⟩ := hB
      rw [ht] at hP1
      obtain ⟨hP, hD⟩ := va_join (wr := []) (w1 := [(hm, .inr (2, [.int (nI 1), .ref ml, .ref mw, .ref mb, .ref ms, .ref mn])), (ml, .inl (cI, 8, .inl ln)), (mw, .inl (cI, 512, .inl wh)), (mb, .inl (cI, 48, .inl bi)), (ms, .inl (cZ, 48, .inl si)), (mn, .inl (cJ, 6, .inr (.inl nu)))]) hP hD [0, 1, 2, 3, 4, 5] [] rfl rfl (by decide) (by decide) hk1 hFc hP1 hD1
      generalize H1 = H at hP hS ⊢
      have hP : va_P (dC, dI) cls3 [(hm, .inr (2, [.int (nI 1), .ref ml, .ref mw, .ref mb, .ref ms, .ref mn])), (ml, .inl (cI, 8, .inl ln)), (mw, .inl (cI, 512, .inl wh)), (mb, .inl (cI, 48, .inl bi)), (ms, .inl (cZ, 48, .inl si)), (mn, .inl (cJ, 6, .inr (.inl nu)))] H := hP
      have hD : va_D A [(hm, .inr (2, [.int (nI 1), .ref ml, .ref mw, .ref mb, .ref ms, .ref mn])), (ml, .inl (cI, 8, .inl ln)), (mw, .inl (cI, 512, .inl wh)), (mb, .inl (cI, 48, .inl bi)), (ms, .inl (cZ, 48, .inl si)), (mn, .inl (cJ, 6, .inr (.inl nu)))] := hD
      obtain rfl : v31 = nI 1 := e31
      refine lv_if_eq (tgt := 39) hx hb dM_count_34 (by decide) (fun h34 => ?_) (fun h34 => ?_)
      · exfalso
        first | exact h34 (by decide +kernel) | exact absurd h34 (by decide +kernel)
      · refine lv_iconst (v := nI 0) hx hb dM_count_37 (by decide +kernel) ?_
        have hcd : cdCnt (nI f) y = 1 := by unfold cdCnt; first | (rw [h10]; rfl) | (rw [isF_nI hf, h22]; rfl) | (rw [isF_nI hf, isW_nI hq]; rfl)
        exact W.iret (v := nI 0) hx hb hr (fun t ht hW => ⟨⟨_, (), rfl, (by intro h0; first | exact absurd (hcd.symm.trans h0) (by decide) | (rw [hff, hfq]; first | rfl | (rw [show j = 6 by omega]; rfl) | (rw [show j = ns f by omega, cw_fxr_all]; rfl))), by rw [ht, hcd]; exact hP, va_K.moved hW.alike hK, by rw [hcd]; exact hD⟩, hS.F ht⟩) hS.2.2 dM_count_38

set_option maxHeartbeats 4000000 in
set_option maxRecDepth 100000 in
theorem c_M_encode (l : Launch) (dC : Nat → ClassId) (dI : Nat → Nat → Nat) (sz : Nat) (cI cZ cJ : ClassId) (hm ml mw mb ms mn : Nat) (er : Int32) (ln wh bi si : Nat → Int32) (nu : Nat → Int64) (ns : Nat → Nat) (its wss : Nat → Nat → Nat) (sbs : Nat → Nat → Bool) (hM : mR ns its wss sbs ln wh bi si) (x : Int32) : Met l yM_encode wM_encode { frames := 2, cells := 0, slots := 0, locals := 50 } (rw_Pc (dC, dI) cls3 [(hm, .inr (2, [.int er, .ref ml, .ref mw, .ref mb, .ref ms, .ref mn])), (ml, .inl (cI, 8, .inl ln)), (mw, .inl (cI, 512, .inl wh)), (mb, .inl (cI, 48, .inl bi)), (ms, .inl (cZ, 48, .inl si)), (mn, .inl (cJ, 6, .inr (.inl nu)))] [(cI, .int), (cZ, .boolean), (cJ, .long)] sz [.ref hm, .int x]) (va_Ql (fun (r : Int64) (_ : Unit) => cdEnc ns its wss sbs nu x = 0 → r = lN (wrd (ebit (its (fi x)) nu) (ns (fi x)))) (fun _ t => va_P (dC, dI) cls3 [(hm, .inr (2, [.int (nI (cdEnc ns its wss sbs nu x)), .ref ml, .ref mw, .ref mb, .ref ms, .ref mn])), (ml, .inl (cI, 8, .inl ln)), (mw, .inl (cI, 512, .inl wh)), (mb, .inl (cI, 48, .inl bi)), (ms, .inl (cZ, 48, .inl si)), (mn, .inl (cJ, 6, .inr (.inl nu)))] t.heap ∧ va_K (dC, dI) cls3 [(cI, .int), (cZ, .boolean), (cJ, .long)] t ∧ va_D (va_A [(hm, .inr (2, [.int er, .ref ml, .ref mw, .ref mb, .ref ms, .ref mn])), (ml, .inl (cI, 8, .inl ln)), (mw, .inl (cI, 512, .inl wh)), (mb, .inl (cI, 48, .inl bi)), (ms, .inl (cZ, 48, .inl si)), (mn, .inl (cJ, 6, .inr (.inl nu)))] sz) [(hm, .inr (2, [.int (nI (cdEnc ns its wss sbs nu x)), .ref ml, .ref mw, .ref mb, .ref ms, .ref mn])), (ml, .inl (cI, 8, .inl ln)), (mw, .inl (cI, 512, .inl wh)), (mb, .inl (cI, 48, .inl bi)), (ms, .inl (cZ, 48, .inl si)), (mn, .inl (cJ, 6, .inr (.inl nu)))]) (va_A [(hm, .inr (2, [.int er, .ref ml, .ref mw, .ref mb, .ref ms, .ref mn])), (ml, .inl (cI, 8, .inl ln)), (mw, .inl (cI, 512, .inl wh)), (mb, .inl (cI, 48, .inl bi)), (ms, .inl (cZ, 48, .inl si)), (mn, .inl (cJ, 6, .inr (.inl nu)))] sz)) 0 0 (va_A [(hm, .inr (2, [.int er, .ref ml, .ref mw, .ref mb, .ref ms, .ref mn])), (ml, .inl (cI, 8, .inl ln)), (mw, .inl (cI, 512, .inl wh)), (mb, .inl (cI, 48, .inl bi)), (ms, .inl (cZ, 48, .inl si)), (mn, .inl (cJ, 6, .inr (.inl nu)))] sz) := by
  refine Met.ofW (cc := cM_encode) (maxL := 7) (ret := (some .long)) (by decide) rfl ?_
  intro p e s m args below meth c s₁ B hml hv
  obtain ⟨rfl, hsz, hP, hK, hD0⟩ := hv
  have hx := B.exec
  have hb := B.bytes
  have hr := B.returns
  have hts := atoms_spec (ws := wM_encode) B.pre
  have hw : ∀ w ∈ wA, w.before _ s = true := fun w h => hts w (List.mem_cons_of_mem _ h)
  have hown : s.vm.findClass RM = some m.cls := findClass_of_methodNamed B.named
  have hlocks := B.notSynchronized
  subst hsz
  have hD := hD0.self (sz := s.heap.size)
  generalize hAe : va_A [(hm, .inr (2, [.int er, .ref ml, .ref mw, .ref mb, .ref ms, .ref mn])), (ml, .inl (cI, 8, .inl ln)), (mw, .inl (cI, 512, .inl wh)), (mb, .inl (cI, 48, .inl bi)), (ms, .inl (cZ, 48, .inl si)), (mn, .inl (cJ, 6, .inr (.inl nu)))] s.heap.size = A at hD ⊢
  have hA : ∀ q : Nat, s.heap.size ≤ q → A q := fun q h => by rw [← hAe]; exact Or.inr h
  have hS : va_S A s.heap s.heap [] := va_S.rf
  have hl := lv_entry ([.ref hm, .int x]) (n := 7) (Nat.le_of_ble_eq_true rfl)
  rw [lg_entry_eq]
  generalize (lg_sl ([.ref hm, .int x]) ++ List.replicate (7 - (lg_sl ([.ref hm, .int x])).length) Slot.unset).toArray = ls at hl ⊢
  have hl : lv_has ls 7 [(0, .ref hm), (1, .int x)] := hl
  refine lv_aload_n hx hb dM_encode_0 rfl (lv_at hl 0 rfl) ?_
  refine lv_iconst (v := nI 0) hx hb dM_encode_1 (by decide +kernel) ?_
  refine va_put (D := (dC, dI)) (ci := 2) (v := .int (nI 0)) (ty := .int) (C := RM) (T := TM) (N := 6) hx hb hw inM tM tM_ok nM hown hK hP hD hS 0 rfl rfl 0 (by decide) (hw _ kw_386) (fun _ h9 => h9) rfl (by decide +kernel) rfl rfl (Nat.le_of_ble_eq_true rfl) dM_encode_2 (fun H locs hP hD hS => ?_)
  have hP : va_P (dC, dI) cls3 [(hm, .inr (2, [.int (nI 0), .ref ml, .ref mw, .ref mb, .ref ms, .ref mn])), (ml, .inl (cI, 8, .inl ln)), (mw, .inl (cI, 512, .inl wh)), (mb, .inl (cI, 48, .inl bi)), (ms, .inl (cZ, 48, .inl si)), (mn, .inl (cJ, 6, .inr (.inl nu)))] H := hP
  have hD : va_D A [(hm, .inr (2, [.int (nI 0), .ref ml, .ref mw, .ref mb, .ref ms, .ref mn])), (ml, .inl (cI, 8, .inl ln)), (mw, .inl (cI, 512, .inl wh)), (mb, .inl (cI, 48, .inl bi)), (ms, .inl (cZ, 48, .inl si)), (mn, .inl (cJ, 6, .inr (.inl nu)))] := hD
  refine lv_aload_n hx hb dM_encode_5 rfl (lv_at hl 0 rfl) ?_
  refine lv_iload_n hx hb dM_encode_6 rfl (lv_at hl 1 rfl) ?_
  refine vp_callSi (W.runS (As := [.int x]) (rest := [.ref hm]) ⟨hx, hb, hml, hown, hw⟩ (c_M_isForm l x) (cwS 1 hw (gS kw_413 kw_414 kw_16 kw_415) rfl rfl rfl (by decide +kernel) ⟨Nat.le_of_ble_eq_true rfl, Nat.le_of_ble_eq_true rfl⟩) preEq rfl rfl hl.1 rfl (lv_room (Nat.le_of_ble_eq_true rfl)) dM_encode_7 ⟨Nat.zero_le _, Nat.zero_le _⟩) (fun v7 e7 => ?_)
  obtain rfl : v7 = nI (isF x).toNat := e7
  refine lv_if_ne (tgt := 17) hx hb dM_encode_10 (by decide) (fun h10 => ?_) (fun h10 => ?_)
  · obtain ⟨f, hf, rfl⟩ := isF_of (b_nf h10)
    have hff : fi (nI f) = f := fi_nI (by omega)
    have hok := (hM f hf).1
    have hn := hok.1
    have hw64 := hok.2.1
    have hit := cw_it hok
    have hlf : cw_lft (its f) (ns f) (wss f) 6 ≤ 384 := by have := cw_missing (its f) (wss f) (ns f) hok; have := cw_sum_le (wss f) 6 hw64; omega
    refine lv_iconst (v := nI 0) hx hb dM_encode_17 (by decide +kernel) ?_
    refine lv_iconst (v := nI 1) hx hb dM_encode_18 (by decide +kernel) ?_
    have hPc := hP.sub (ws' := [(hm, .inr (2, [.int (nI 0), .ref ml, .ref mw, .ref mb, .ref ms, .ref mn])), (ml, .inl (cI, 8, .inl ln)), (mw, .inl (cI, 512, .inl wh)), (mb, .inl (cI, 48, .inl bi)), (ms, .inl (cZ, 48, .inl si)), (mn, .inl (cJ, 6, .inr (.inl nu)))]) [0, 1, 2, 3, 4, 5] rfl
    have hDc := hD.sub (ws' := [(hm, .inr (2, [.int (nI 0), .ref ml, .ref mw, .ref mb, .ref ms, .ref mn])), (ml, .inl (cI, 8, .inl ln)), (mw, .inl (cI, 512, .inl wh)), (mb, .inl (cI, 48, .inl bi)), (ms, .inl (cZ, 48, .inl si)), (mn, .inl (cJ, 6, .inr (.inl nu)))]) [0, 1, 2, 3, 4, 5] (by decide) rfl
    have hKc := hK.sub (tys' := [(cI, .int), (cZ, .boolean), (cJ, .long)]) [0, 1, 2] rfl
    have hFc := va_free (wc := [(hm, .inr (2, [.int (nI 0), .ref ml, .ref mw, .ref mb, .ref ms, .ref mn])), (ml, .inl (cI, 8, .inl ln)), (mw, .inl (cI, 512, .inl wh)), (mb, .inl (cI, 48, .inl bi)), (ms, .inl (cZ, 48, .inl si)), (mn, .inl (cJ, 6, .inr (.inl nu)))]) hD hS hA [0, 1, 2, 3, 4, 5] rfl
    refine va_calli (va_runV (As := [.int (nI 0), .int (nI 1)]) (rest := []) ⟨hx, hb, hml, hown, hw⟩ (c_M_fails0 l dC dI _ cI cZ cJ hm ml mw mb ms mn ln wh bi si nu 1 (by decide)) (cwV 2 hw (gV kw_420 kw_422 kw_5 kw_16 kw_423) rfl rfl rfl (by decide +kernel) ⟨Nat.le_of_ble_eq_true rfl, Nat.le_of_ble_eq_true rfl⟩) (rw_preV (q0 := 0) hKc hPc hDc rfl rfl) rfl rfl hl.1 rfl (lv_room (Nat.le_of_ble_eq_true rfl)) dM_encode_19 ⟨Nat.zero_le _, Nat.zero_le _⟩) hS (fun q _ h => hFc q h) hFc (fun v19 u t H1 locs ht hvm e19 hB hz1 hk1 hS => ?_)
    obtain ⟨hP1, hK1, hD1⟩ := hB
    rw [ht] at hP1
    obtain ⟨hP, hD⟩ := va_join (wr := []) (w1 := [(hm, .inr (2, [.int (nI 0), .ref ml, .ref mw, .ref mb, .ref ms, .ref mn])), (ml, .inl (cI, 8, .inl ln)), (mw, .inl (cI, 512, .inl wh)), (mb, .inl (cI, 48, .inl bi)), (ms, .inl (cZ, 48, .inl si)), (mn, .inl (cJ, 6, .inr (.inl nu)))]) hP hD [0, 1, 2, 3, 4, 5] [] rfl rfl (by decide) (by decide) hk1 hFc hP1 hD1
    generalize H1 = H at hP hS ⊢
    have hP : va_P (dC, dI) cls3 [(hm, .inr (2, [.int (nI 0), .ref ml, .ref mw, .ref mb, .ref ms, .ref mn])), (ml, .inl (cI, 8, .inl ln)), (mw, .inl (cI, 512, .inl wh)), (mb, .inl (cI, 48, .inl bi)), (ms, .inl (cZ, 48, .inl si)), (mn, .inl (cJ, 6, .inr (.inl nu)))] H := hP
    have hD : va_D A [(hm, .inr (2, [.int (nI 0), .ref ml, .ref mw, .ref mb, .ref ms, .ref mn])), (ml, .inl (cI, 8, .inl ln)), (mw, .inl (cI, 512, .inl wh)), (mb, .inl (cI, 48, .inl bi)), (ms, .inl (cZ, 48, .inl si)), (mn, .inl (cJ, 6, .inr (.inl nu)))] := hD
    obtain rfl : v19 = nI 0 := e19
    refine lv_if_ne (tgt := 46) hx hb dM_encode_22 (by decide) (fun h22 => ?_) (fun h22 => ?_)
    · exfalso
      first | exact h22 (by decide +kernel) | exact absurd h22 (by decide +kernel)
    · refine lv_aload_n hx hb dM_encode_25 rfl (lv_at hl 0 rfl) ?_
      refine lv_aload_n hx hb dM_encode_26 rfl (lv_at hl 0 rfl) ?_
      refine lv_iload_n hx hb dM_encode_27 rfl (lv_at hl 1 rfl) ?_
      refine vp_callSi (W.runV (As := [.int (nI f)]) (rest := [.ref hm]) ⟨hx, hb, hml, hown, hw⟩ (c_M_left l dC dI cI cZ cJ hm ml mw mb ms mn (nI 0) ln wh bi si nu ns its wss sbs hM f hf) (cwV 1 hw (gV kw_460 kw_462 kw_9 kw_16 kw_463) rfl rfl rfl (by decide +kernel) ⟨Nat.le_of_ble_eq_true rfl, Nat.le_of_ble_eq_true rfl⟩) (ro_preV (q0 := 0) hK hP rfl rfl) rfl rfl hl.1 rfl (lv_room (Nat.le_of_ble_eq_true rfl)) dM_encode_28 ⟨Nat.zero_le _, Nat.zero_le _⟩) (fun v28 e28 => ?_)
      obtain rfl : v28 = nI (cw_lft (its f) (ns f) (wss f) 6) := e28
      refine lv_if_le (tgt := 38) hx hb dM_encode_31 (by decide) (fun h31 => ?_) (fun h31 => ?_)
      · rw [nI_le0 (by omega)] at h31
        refine lv_iconst (v := nI 0) hx hb dM_encode_38 (by decide +kernel) ?_
        refine lv_iconst (v := nI 2) hx hb dM_encode_39 (by decide +kernel) ?_
        have hPc := hP.sub (ws' := [(hm, .inr (2, [.int (nI 0), .ref ml, .ref mw, .ref mb, .ref ms, .ref mn])), (ml, .inl (cI, 8, .inl ln)), (mw, .inl (cI, 512, .inl wh)), (mb, .inl (cI, 48, .inl bi)), (ms, .inl (cZ, 48, .inl si)), (mn, .inl (cJ, 6, .inr (.inl nu)))]) [0, 1, 2, 3, 4, 5] rfl
        have hDc := hD.sub (ws' := [(hm, .inr (2, [.int (nI 0), .ref ml, .ref mw, .ref mb, .ref ms, .ref mn])), (ml, .inl (cI, 8, .inl ln)), (mw, .inl (cI, 512, .inl wh)), (mb, .inl (cI, 48, .inl bi)), (ms, .inl (cZ, 48, .inl si)), (mn, .inl (cJ, 6, .inr (.inl nu)))]) [0, 1, 2, 3, 4, 5] (by decide) rfl
        have hKc := hK.sub (tys' := [(cI, .int), (cZ, .boolean), (cJ, .long)]) [0, 1, 2] rfl
        have hFc := va_free (wc := [(hm, .inr (2, [.int (nI 0), .ref ml, .ref mw, .ref mb, .ref ms, .ref mn])), (ml, .inl (cI, 8, .inl ln)), (mw, .inl (cI, 512, .inl wh)), (mb, .inl (cI, 48, .inl bi)), (ms, .inl (cZ, 48, .inl si)), (mn, .inl (cJ, 6, .inr (.inl nu)))]) hD hS hA [0, 1, 2, 3, 4, 5] rfl
        refine va_calli (va_runV (As := [.int (nI 0), .int (nI 2)]) (rest := []) ⟨hx, hb, hml, hown, hw⟩ (c_M_fails0 l dC dI _ cI cZ cJ hm ml mw mb ms mn ln wh bi si nu 2 (by decide)) (cwV 2 hw (gV kw_420 kw_422 kw_5 kw_16 kw_423) rfl rfl rfl (by decide +kernel) ⟨Nat.le_of_ble_eq_true rfl, Nat.le_of_ble_eq_true rfl⟩) (rw_preV (q0 := 0) hKc hPc hDc rfl rfl) rfl rfl hl.1 rfl (lv_room (Nat.le_of_ble_eq_true rfl)) dM_encode_40 ⟨Nat.zero_le _, Nat.zero_le _⟩) hS (fun q _ h => hFc q h) hFc (fun v40 u t H1 locs ht hvm e40 hB hz1 hk1 hS => ?_)
        obtain ⟨hP1, hK1, hD1⟩ := hB
        rw [ht] at hP1
        obtain ⟨hP, hD⟩ := va_join (wr := []) (w1 := [(hm, .inr (2, [.int (nI 0), .ref ml, .ref mw, .ref mb, .ref ms, .ref mn])), (ml, .inl (cI, 8, .inl ln)), (mw, .inl (cI, 512, .inl wh)), (mb, .inl (cI, 48, .inl bi)), (ms, .inl (cZ, 48, .inl si)), (mn, .inl (cJ, 6, .inr (.inl nu)))]) hP hD [0, 1, 2, 3, 4, 5] [] rfl rfl (by decide) (by decide) hk1 hFc hP1 hD1
        generalize H1 = H at hP hS ⊢
        have hP : va_P (dC, dI) cls3 [(hm, .inr (2, [.int (nI 0), .ref ml, .ref mw, .ref mb, .ref ms, .ref mn])), (ml, .inl (cI, 8, .inl ln)), (mw, .inl (cI, 512, .inl wh)), (mb, .inl (cI, 48, .inl bi)), (ms, .inl (cZ, 48, .inl si)), (mn, .inl (cJ, 6, .inr (.inl nu)))] H := hP
        have hD : va_D A [(hm, .inr (2, [.int (nI 0), .ref ml, .ref mw, .ref mb, .ref ms, .ref mn])), (ml, .inl (cI, 8, .inl ln)), (mw, .inl (cI, 512, .inl wh)), (mb, .inl (cI, 48, .inl bi)), (ms, .inl (cZ, 48, .inl si)), (mn, .inl (cJ, 6, .inr (.inl nu)))] := hD
        obtain rfl : v40 = nI 0 := e40
        refine lv_if_eq (tgt := 48) hx hb dM_encode_43 (by decide) (fun h43 => ?_) (fun h43 => ?_)
        · refine lv_iconst (v := nI 0) hx hb dM_encode_48 (by decide +kernel) ?_
          refine lv_istore_n hx hb dM_encode_49 rfl hl (by decide) rfl (fun ls hl => ?_)
          have hl : lv_has ls 7 [(2, .int (nI 0)), (0, .ref hm), (1, .int (nI f))] := hl
          refine (?_ : ∀ (kk : Nat) (o : Nat) (H : Heap) (locs : List Loc) (ls : Array Slot), kk = 6 - o → lv_has ls 7 [(2, .int (nI o)), (0, .ref hm), (1, .int (nI f))] → (o ≤ 6) → (allb (fun o => decide (wss f o = 0) || fitB (wss f o) (sbs f o) (nu o)) o = true) → va_P (dC, dI) cls3 [(hm, .inr (2, [.int (nI 0), .ref ml, .ref mw, .ref mb, .ref ms, .ref mn])), (ml, .inl (cI, 8, .inl ln)), (mw, .inl (cI, 512, .inl wh)), (mb, .inl (cI, 48, .inl bi)), (ms, .inl (cZ, 48, .inl si)), (mn, .inl (cJ, 6, .inr (.inl nu)))] H → va_D A [(hm, .inr (2, [.int (nI 0), .ref ml, .ref mw, .ref mb, .ref ms, .ref mn])), (ml, .inl (cI, 8, .inl ln)), (mw, .inl (cI, 512, .inl wh)), (mb, .inl (cI, 48, .inl bi)), (ms, .inl (cZ, 48, .inl si)), (mn, .inl (cJ, 6, .inr (.inl nu)))] → va_S A s.heap H locs → W p l e _ s m _ below meth c H locs _ _ _ (F0 m 50 ls [])) _ 0 _ _ ls rfl (lv_sub hl [0, 1, 2] rfl) (by omega) rfl hP hD hS
          intro kk
          induction kk using Nat.strongRecOn with
          | ind kk50 ih50 =>
            intro o H locs ls hkk50 hl ho ha hP hD hS
            refine lv_iload_n hx hb dM_encode_50 rfl (lv_at hl 0 rfl) ?_
            refine lv_bipush (v := nI 6) hx hb dM_encode_51 (by decide +kernel) ?_
            refine lv_icmp_ge (tgt := 101) hx hb dM_encode_53 (by decide) (fun h53 => ?_) (fun h53 => ?_)
            · rw [nI_leI (by omega) (by omega)] at h53
              have haf : afit (wss f) (sbs f) nu = true := by rw [show o = 6 by omega] at ha; exact ha
              refine lv_lconst (v := lN 0) hx hb dM_encode_101 (by decide +kernel) ?_
              refine lv_lstore_n hx hb dM_encode_102 rfl hl (by decide) rfl (fun ls hl => ?_)
              have hl : lv_has ls 7 [(2, .long (lN 0)), (0, .ref hm), (1, .int (nI f))] := hl
              refine lv_iconst (v := nI 0) hx hb dM_encode_103 (by decide +kernel) ?_
              refine lv_istore hx hb dM_encode_104 hl (by decide) rfl (fun ls hl => ?_)
              have hl : lv_has ls 7 [(4, .int (nI 0)), (2, .long (lN 0)), (0, .ref hm), (1, .int (nI f))] := hl
              refine (?_ : ∀ (kk : Nat) (j : Nat) (H : Heap) (locs : List Loc) (ls : Array Slot), kk = ns f - j → lv_has ls 7 [(4, .int (nI j)), (2, .long (lN (wrp (ebit (its f) nu) (ns f) j))), (0, .ref hm), (1, .int (nI f))] → (j ≤ ns f) → va_P (dC, dI) cls3 [(hm, .inr (2, [.int (nI 0), .ref ml, .ref mw, .ref mb, .ref ms, .ref mn])), (ml, .inl (cI, 8, .inl ln)), (mw, .inl (cI, 512, .inl wh)), (mb, .inl (cI, 48, .inl bi)), (ms, .inl (cZ, 48, .inl si)), (mn, .inl (cJ, 6, .inr (.inl nu)))] H → va_D A [(hm, .inr (2, [.int (nI 0), .ref ml, .ref mw, .ref mb, .ref ms, .ref mn])), (ml, .inl (cI, 8, .inl ln)), (mw, .inl (cI, 512, .inl wh)), (mb, .inl (cI, 48, .inl bi)), (ms, .inl (cZ, 48, .inl si)), (mn, .inl (cJ, 6, .inr (.inl nu)))] → va_S A s.heap H locs → W p l e _ s m _ below meth c H locs _ _ _ (F0 m 106 ls [])) _ 0 _ _ ls rfl (lv_sub hl [0, 1, 2, 3] rfl) (by omega) hP hD hS
              intro kk
              induction kk using Nat.strongRecOn with
              | ind kk106 ih106 =>
                intro j H locs ls hkk106 hl hj hP hD hS
                refine lv_iload hx hb dM_encode_106 (lv_at hl 0 rfl) ?_
                refine lv_aload_n hx hb dM_encode_108 rfl (lv_at hl 2 rfl) ?_
                refine va_get (D := (dC, dI)) (ci := 2) (v := .ref ml) (C := RM) (T := TM) (N := 6) hx hb hw inM hown hK hP 0 rfl rfl 1 (by decide) (hw _ kw_387) (fun _ h9 => h9) rfl dM_encode_109 ?_
                refine lv_iload_n hx hb dM_encode_112 rfl (lv_at hl 3 rfl) ?_
                refine va_iald hx hb hK hP 1 0 rfl rfl (vp_in_nI (by omega) (by decide)) dM_encode_113 ?_
                refine lv_topi (fun v113 e113 => ?_)
                rw [nI_clamp (by omega)] at e113
                obtain rfl : v113 = nI (ns f) := e113.trans (hM f hf).2.1
                refine lv_icmp_ge (tgt := 180) hx hb dM_encode_114 (by decide) (fun h114 => ?_) (fun h114 => ?_)
                · rw [nI_leI (by omega) (by omega)] at h114
                  refine lv_lload_n hx hb dM_encode_180 rfl (lv_at hl 1 rfl) ?_
                  have hcd : cdEnc ns its wss sbs nu (nI f) = 0 := by unfold cdEnc; first | (rw [h10]; rfl) | (rw [isF_nI hf, if_pos rfl, hff, if_neg (by omega)]) | (rw [isF_nI hf, if_pos rfl, hff, if_pos (by omega), b_ff (b := afit (wss f) (sbs f) nu) (fun q9 => absurd ((allb_iff _ 6).mp q9 o (by omega)) (by rw [decide_eq_false h63, (b_nat0 _).mp h78]; decide))]; rfl) | (rw [isF_nI hf, if_pos rfl, hff, if_pos (by omega), if_pos haf])
                  exact W.lret (v := lN (wrp (ebit (its f) nu) (ns f) j)) hx hb hr (fun t ht hW => ⟨⟨_, (), rfl, (by intro h0; first | exact absurd (hcd.symm.trans h0) (by decide) | (rw [hff, show j = ns f by omega, wrp_all])), by rw [ht, hcd]; exact hP, va_K.moved hW.alike hK, by rw [hcd]; exact hD⟩, hS.F ht⟩) hS.2.2 dM_encode_181
                · rw [nI_leI (by omega) (by omega)] at h114
                  have hij := hit (ns f - 1 - j) (by omega)
                  refine lv_aload_n hx hb dM_encode_117 rfl (lv_at hl 2 rfl) ?_
                  refine lv_iload_n hx hb dM_encode_118 rfl (lv_at hl 3 rfl) ?_
                  refine lv_iload hx hb dM_encode_119 (lv_at hl 0 rfl) ?_
                  refine vp_callSi (W.runV (As := [.int (nI f), .int (nI j)]) (rest := []) ⟨hx, hb, hml, hown, hw⟩ (c_M_at l dC dI cI cZ cJ hm ml mw mb ms mn (nI 0) ln wh bi si nu ns its wss sbs hM f j hf (by omega)) (cwV 2 hw (gV kw_480 kw_482 kw_11 kw_16 kw_483) rfl rfl rfl (by decide +kernel) ⟨Nat.le_of_ble_eq_true rfl, Nat.le_of_ble_eq_true rfl⟩) (ro_preV (q0 := 0) hK hP rfl rfl) rfl rfl hl.1 rfl (lv_room (Nat.le_of_ble_eq_true rfl)) dM_encode_121 ⟨Nat.zero_le _, Nat.zero_le _⟩) (fun v121 e121 => ?_)
                  obtain rfl : v121 = nI (its f (ns f - 1 - j)) := e121
                  refine lv_istore hx hb dM_encode_124 hl (by decide) rfl (fun ls hl => ?_)
                  have hl : lv_has ls 7 [(5, .int (nI (its f (ns f - 1 - j)))), (4, .int (nI j)), (2, .long (lN (wrp (ebit (its f) nu) (ns f) j))), (0, .ref hm), (1, .int (nI f))] := hl
                  refine lv_iload hx hb dM_encode_126 (lv_at hl 0 rfl) ?_
                  refine lv_iconst (v := nI 2) hx hb dM_encode_128 (by decide +kernel) ?_
                  refine lv_icmp_ge (tgt := 137) hx hb dM_encode_129 (by decide) (fun h129 => ?_) (fun h129 => ?_)
                  · rw [nI_leI (by omega) (by omega)] at h129
                    have h129 : ¬ its f (ns f - 1 - j) < 2 := by omega
                    refine lv_aload_n hx hb dM_encode_137 rfl (lv_at hl 3 rfl) ?_
                    refine va_get (D := (dC, dI)) (ci := 2) (v := .ref mn) (C := RM) (T := TM) (N := 6) hx hb hw inM hown hK hP 0 rfl rfl 5 (by decide) (hw _ kw_391) (fun _ h9 => h9) rfl dM_encode_138 ?_
                    refine lv_iload hx hb dM_encode_141 (lv_at hl 0 rfl) ?_
                    refine lv_iconst (v := nI 2) hx hb dM_encode_143 (by decide +kernel) ?_
                    refine lv_isub hx hb dM_encode_144 ?_
                    refine lv_topi (fun v144 e144 => ?_)
                    obtain rfl : v144 = nI (its f (ns f - 1 - j) - 2) := e144.trans (pk_sub (by omega))
                    refine lv_bipush (v := nI 64) hx hb dM_encode_145 (by decide +kernel) ?_
                    refine lv_idiv hx hb dM_encode_147 (by decide +kernel) ?_
                    refine lv_topi (fun v147 e147 => ?_)
                    obtain rfl : v147 = nI ((its f (ns f - 1 - j) - 2) / 64) := e147.trans (pk_div (by omega) (by decide) (by decide))
                    refine va_lald hx hb hK hP 5 2 rfl rfl (vp_in_nI (by omega) (by decide)) dM_encode_148 ?_
                    refine lv_topl (fun v148 e148 => ?_)
                    rw [nI_clamp (by omega)] at e148
                    obtain rfl : v148 = nu ((its f (ns f - 1 - j) - 2) / 64) := e148
                    refine lv_iload hx hb dM_encode_149 (lv_at hl 0 rfl) ?_
                    refine lv_iconst (v := nI 2) hx hb dM_encode_151 (by decide +kernel) ?_
                    refine lv_isub hx hb dM_encode_152 ?_
                    refine lv_topi (fun v152 e152 => ?_)
                    obtain rfl : v152 = nI (its f (ns f - 1 - j) - 2) := e152.trans (pk_sub (by omega))
                    refine lv_bipush (v := nI 64) hx hb dM_encode_153 (by decide +kernel) ?_
                    refine lv_irem hx hb dM_encode_155 (by decide +kernel) ?_
                    refine lv_topi (fun v155 e155 => ?_)
                    obtain rfl : v155 = nI ((its f (ns f - 1 - j) - 2) % 64) := e155.trans (pk_rem (by omega) (by decide) (by decide))
                    refine vp_callSi (W.runS (As := [.long (nu ((its f (ns f - 1 - j) - 2) / 64)), .int (nI ((its f (ns f - 1 - j) - 2) % 64))]) (rest := []) ⟨hx, hb, hml, hown, hw⟩ (c_M_bit l (nu ((its f (ns f - 1 - j) - 2) / 64)) ((its f (ns f - 1 - j) - 2) % 64) (by omega)) (cwS 2 hw (gS kw_441 kw_442 kw_16 kw_443) rfl rfl rfl (by decide +kernel) ⟨Nat.le_of_ble_eq_true rfl, Nat.le_of_ble_eq_true rfl⟩) preEq rfl rfl hl.1 rfl (lv_room (Nat.le_of_ble_eq_true rfl)) dM_encode_156 ⟨Nat.zero_le _, Nat.zero_le _⟩) (fun v156 e156 => ?_)
                    obtain rfl : v156 = nI (ebit (its f) nu (ns f - 1 - j)) := e156.trans (ebit_hi h129)
                    refine lv_istore hx hb dM_encode_159 hl (by decide) rfl (fun ls hl => ?_)
                    have hl : lv_has ls 7 [(6, .int (nI (ebit (its f) nu (ns f - 1 - j)))), (5, .int (nI (its f (ns f - 1 - j)))), (4, .int (nI j)), (2, .long (lN (wrp (ebit (its f) nu) (ns f) j))), (0, .ref hm), (1, .int (nI f))] := hl
                    refine lv_iload hx hb dM_encode_161 (lv_at hl 0 rfl) ?_
                    refine lv_iconst (v := nI 1) hx hb dM_encode_163 (by decide +kernel) ?_
                    refine lv_icmp_ne (tgt := 174) hx hb dM_encode_164 (by decide) (fun h164 => ?_) (fun h164 => ?_)
                    · have hb1 := ebit_lt (its f) nu (ns f - 1 - j)
                      rw [nI_eq (by omega) (by omega)] at h164
                      refine lv_iinc (k := 2) (v := nI (j + 1)) hx hb dM_encode_174 hl rfl (cw_inc _) (by decide) rfl (fun ls hl => ?_)
                      have hl : lv_has ls 7 [(4, .int (nI (j + 1))), (6, .int (nI (ebit (its f) nu (ns f - 1 - j)))), (5, .int (nI (its f (ns f - 1 - j)))), (2, .long (lN (wrp (ebit (its f) nu) (ns f) j))), (0, .ref hm), (1, .int (nI f))] := hl
                      refine lv_goto (tgt := 106) hx hb dM_encode_177 (by decide) ?_
                      exact ih106 _ (by omega) (j + 1) _ _ ls rfl (cw_lvx (lv_sub (l' := [(4, .int (nI (j + 1))), (2, .long (lN (wrp (ebit (its f) nu) (ns f) j))), (0, .ref hm), (1, .int (nI f))]) hl [0, 3, 4, 5] rfl) (by first | rfl | rw [wrp_stay (ebit (its f) nu) (ns f) (j := j) (by omega)])) (by omega) hP hD hS
                    · have hb1 := ebit_lt (its f) nu (ns f - 1 - j)
                      rw [nI_eq (by omega) (by omega)] at h164
                      refine lv_lload_n hx hb dM_encode_167 rfl (lv_at hl 3 rfl) ?_
                      refine lv_lconst (v := lN 1) hx hb dM_encode_168 (by decide +kernel) ?_
                      refine lv_iload hx hb dM_encode_169 (lv_at hl 2 rfl) ?_
                      refine lv_lshl hx hb dM_encode_171 rfl ?_
                      refine lv_topl (fun v171 e171 => ?_)
                      refine lv_lor hx hb dM_encode_172 ?_
                      refine lv_topl (fun v172 e172 => ?_)
                      obtain rfl : v172 = lN (wrp (ebit (its f) nu) (ns f) (j + 1)) := e172.trans (by rw [e171]; exact wrp_step _ _ (by omega) (by omega) (fun i _ => ebit_lt _ _ _) h164)
                      refine lv_lstore_n hx hb dM_encode_173 rfl hl (by decide) rfl (fun ls hl => ?_)
                      have hl : lv_has ls 7 [(2, .long (lN (wrp (ebit (its f) nu) (ns f) (j + 1)))), (6, .int (nI (ebit (its f) nu (ns f - 1 - j)))), (5, .int (nI (its f (ns f - 1 - j)))), (4, .int (nI j)), (0, .ref hm), (1, .int (nI f))] := hl
                      refine lv_iinc (k := 3) (v := nI (j + 1)) hx hb dM_encode_174 hl rfl (cw_inc _) (by decide) rfl (fun ls hl => ?_)
                      have hl : lv_has ls 7 [(4, .int (nI (j + 1))), (2, .long (lN (wrp (ebit (its f) nu) (ns f) (j + 1)))), (6, .int (nI (ebit (its f) nu (ns f - 1 - j)))), (5, .int (nI (its f (ns f - 1 - j)))), (0, .ref hm), (1, .int (nI f))] := hl
                      refine lv_goto (tgt := 106) hx hb dM_encode_177 (by decide) ?_
                      exact ih106 _ (by omega) (j + 1) _ _ ls rfl (cw_lvx (lv_sub (l' := [(4, .int (nI (j + 1))), (2, .long (lN (wrp (ebit (its f) nu) (ns f) (j + 1)))), (0, .ref hm), (1, .int (nI f))]) hl [0, 1, 4, 5] rfl) (by first | rfl | rw [wrp_stay (ebit (its f) nu) (ns f) (j := j) (by omega)])) (by omega) hP hD hS
                  · rw [nI_leI (by omega) (by omega)] at h129
                    have h129 : its f (ns f - 1 - j) < 2 := by omega
                    refine lv_iload hx hb dM_encode_132 (lv_at hl 0 rfl) ?_
                    refine lv_topi (fun w132 ew132 => ?_)
                    obtain rfl : w132 = nI (ebit (its f) nu (ns f - 1 - j)) := ew132.trans (by rw [← ebit_lo h129, cw_C_lo h129])
                    refine lv_goto (tgt := 159) hx hb dM_encode_134 (by decide) ?_
                    refine lv_istore hx hb dM_encode_159 hl (by decide) rfl (fun ls hl => ?_)
                    have hl : lv_has ls 7 [(6, .int (nI (ebit (its f) nu (ns f - 1 - j)))), (5, .int (nI (its f (ns f - 1 - j)))), (4, .int (nI j)), (2, .long (lN (wrp (ebit (its f) nu) (ns f) j))), (0, .ref hm), (1, .int (nI f))] := hl
                    refine lv_iload hx hb dM_encode_161 (lv_at hl 0 rfl) ?_
                    refine lv_iconst (v := nI 1) hx hb dM_encode_163 (by decide +kernel) ?_
                    refine lv_icmp_ne (tgt := 174) hx hb dM_encode_164 (by decide) (fun h164 => ?_) (fun h164 => ?_)
                    · have hb1 := ebit_lt (its f) nu (ns f - 1 - j)
                      rw [nI_eq (by omega) (by omega)] at h164
                      refine lv_iinc (k := 2) (v := nI (j + 1)) hx hb dM_encode_174 hl rfl (cw_inc _) (by decide) rfl (fun ls hl => ?_)
                      have hl : lv_has ls 7 [(4, .int (nI (j + 1))), (6, .int (nI (ebit (its f) nu (ns f - 1 - j)))), (5, .int (nI (its f (ns f - 1 - j)))), (2, .long (lN (wrp (ebit (its f) nu) (ns f) j))), (0, .ref hm), (1, .int (nI f))] := hl
                      refine lv_goto (tgt := 106) hx hb dM_encode_177 (by decide) ?_
                      exact ih106 _ (by omega) (j + 1) _ _ ls rfl (cw_lvx (lv_sub (l' := [(4, .int (nI (j + 1))), (2, .long (lN (wrp (ebit (its f) nu) (ns f) j))), (0, .ref hm), (1, .int (nI f))]) hl [0, 3, 4, 5] rfl) (by first | rfl | rw [wrp_stay (ebit (its f) nu) (ns f) (j := j) (by omega)])) (by omega) hP hD hS
                    · have hb1 := ebit_lt (its f) nu (ns f - 1 - j)
                      rw [nI_eq (by omega) (by omega)] at h164
                      refine lv_lload_n hx hb dM_encode_167 rfl (lv_at hl 3 rfl) ?_
                      refine lv_lconst (v := lN 1) hx hb dM_encode_168 (by decide +kernel) ?_
                      refine lv_iload hx hb dM_encode_169 (lv_at hl 2 rfl) ?_
                      refine lv_lshl hx hb dM_encode_171 rfl ?_
                      refine lv_topl (fun v171 e171 => ?_)
                      refine lv_lor hx hb dM_encode_172 ?_
                      refine lv_topl (fun v172 e172 => ?_)
                      obtain rfl : v172 = lN (wrp (ebit (its f) nu) (ns f) (j + 1)) := e172.trans (by rw [e171]; exact wrp_step _ _ (by omega) (by omega) (fun i _ => ebit_lt _ _ _) h164)
                      refine lv_lstore_n hx hb dM_encode_173 rfl hl (by decide) rfl (fun ls hl => ?_)
                      have hl : lv_has ls 7 [(2, .long (lN (wrp (ebit (its f) nu) (ns f) (j + 1)))), (6, .int (nI (ebit (its f) nu (ns f - 1 - j)))), (5, .int (nI (its f (ns f - 1 - j)))), (4, .int (nI j)), (0, .ref hm), (1, .int (nI f))] := hl
                      refine lv_iinc (k := 3) (v := nI (j + 1)) hx hb dM_encode_174 hl rfl (cw_inc _) (by decide) rfl (fun ls hl => ?_)
                      have hl : lv_has ls 7 [(4, .int (nI (j + 1))), (2, .long (lN (wrp (ebit (its f) nu) (ns f) (j + 1)))), (6, .int (nI (ebit (its f) nu (ns f - 1 - j)))), (5, .int (nI (its f (ns f - 1 - j)))), (0, .ref hm), (1, .int (nI f))] := hl
                      refine lv_goto (tgt := 106) hx hb dM_encode_177 (by decide) ?_
                      exact ih106 _ (by omega) (j + 1) _ _ ls rfl (cw_lvx (lv_sub (l' := [(4, .int (nI (j + 1))), (2, .long (lN (wrp (ebit (its f) nu) (ns f) (j + 1)))), (0, .ref hm), (1, .int (nI f))]) hl [0, 1, 4, 5] rfl) (by first | rfl | rw [wrp_stay (ebit (its f) nu) (ns f) (j := j) (by omega)])) (by omega) hP hD hS
            · rw [nI_leI (by omega) (by omega)] at h53
              refine lv_aload_n hx hb dM_encode_56 rfl (lv_at hl 1 rfl) ?_
              refine lv_aload_n hx hb dM_encode_57 rfl (lv_at hl 1 rfl) ?_
              refine lv_iload_n hx hb dM_encode_58 rfl (lv_at hl 2 rfl) ?_
              refine lv_iload_n hx hb dM_encode_59 rfl (lv_at hl 0 rfl) ?_
              refine vp_callSi (W.runV (As := [.int (nI f), .int (nI o)]) (rest := [.ref hm]) ⟨hx, hb, hml, hown, hw⟩ (c_M_many l dC dI cI cZ cJ hm ml mw mb ms mn (nI 0) ln wh bi si nu ns its wss sbs hM f o hf (by omega)) (cwV 2 hw (gV kw_433 kw_435 kw_6 kw_16 kw_436) rfl rfl rfl (by decide +kernel) ⟨Nat.le_of_ble_eq_true rfl, Nat.le_of_ble_eq_true rfl⟩) (ro_preV (q0 := 0) hK hP rfl rfl) rfl rfl hl.1 rfl (lv_room (Nat.le_of_ble_eq_true rfl)) dM_encode_60 ⟨Nat.zero_le _, Nat.zero_le _⟩) (fun v60 e60 => ?_)
              obtain rfl : v60 = nI (wss f o) := e60
              refine lv_if_le (tgt := 85) hx hb dM_encode_63 (by decide) (fun h63 => ?_) (fun h63 => ?_)
              · have hwo := hw64 o (by omega)
                rw [nI_le0 (by omega)] at h63
                refine lv_iconst (v := nI 0) hx hb dM_encode_85 (by decide +kernel) ?_
                refine lv_iconst (v := nI 3) hx hb dM_encode_86 (by decide +kernel) ?_
                have hPc := hP.sub (ws' := [(hm, .inr (2, [.int (nI 0), .ref ml, .ref mw, .ref mb, .ref ms, .ref mn])), (ml, .inl (cI, 8, .inl ln)), (mw, .inl (cI, 512, .inl wh)), (mb, .inl (cI, 48, .inl bi)), (ms, .inl (cZ, 48, .inl si)), (mn, .inl (cJ, 6, .inr (.inl nu)))]) [0, 1, 2, 3, 4, 5] rfl
                have hDc := hD.sub (ws' := [(hm, .inr (2, [.int (nI 0), .ref ml, .ref mw, .ref mb, .ref ms, .ref mn])), (ml, .inl (cI, 8, .inl ln)), (mw, .inl (cI, 512, .inl wh)), (mb, .inl (cI, 48, .inl bi)), (ms, .inl (cZ, 48, .inl si)), (mn, .inl (cJ, 6, .inr (.inl nu)))]) [0, 1, 2, 3, 4, 5] (by decide) rfl
                have hKc := hK.sub (tys' := [(cI, .int), (cZ, .boolean), (cJ, .long)]) [0, 1, 2] rfl
                have hFc := va_free (wc := [(hm, .inr (2, [.int (nI 0), .ref ml, .ref mw, .ref mb, .ref ms, .ref mn])), (ml, .inl (cI, 8, .inl ln)), (mw, .inl (cI, 512, .inl wh)), (mb, .inl (cI, 48, .inl bi)), (ms, .inl (cZ, 48, .inl si)), (mn, .inl (cJ, 6, .inr (.inl nu)))]) hD hS hA [0, 1, 2, 3, 4, 5] rfl
                refine va_calli (va_runV (As := [.int (nI 0), .int (nI 3)]) (rest := []) ⟨hx, hb, hml, hown, hw⟩ (c_M_fails0 l dC dI _ cI cZ cJ hm ml mw mb ms mn ln wh bi si nu 3 (by decide)) (cwV 2 hw (gV kw_420 kw_422 kw_5 kw_16 kw_423) rfl rfl rfl (by decide +kernel) ⟨Nat.le_of_ble_eq_true rfl, Nat.le_of_ble_eq_true rfl⟩) (rw_preV (q0 := 0) hKc hPc hDc rfl rfl) rfl rfl hl.1 rfl (lv_room (Nat.le_of_ble_eq_true rfl)) dM_encode_87 ⟨Nat.zero_le _, Nat.zero_le _⟩) hS (fun q _ h => hFc q h) hFc (fun v87 u t H1 locs ht hvm e87 hB hz1 hk1 hS => ?_)
                obtain ⟨hP1, hK1, hD1⟩ := hB
                rw [ht] at hP1
                obtain ⟨hP, hD⟩ := va_join (wr := []) (w1 := [(hm, .inr (2, [.int (nI 0), .ref ml, .ref mw, .ref mb, .ref ms, .ref mn])), (ml, .inl (cI, 8, .inl ln)), (mw, .inl (cI, 512, .inl wh)), (mb, .inl (cI, 48, .inl bi)), (ms, .inl (cZ, 48, .inl si)), (mn, .inl (cJ, 6, .inr (.inl nu)))]) hP hD [0, 1, 2, 3, 4, 5] [] rfl rfl (by decide) (by decide) hk1 hFc hP1 hD1
                generalize H1 = H at hP hS ⊢
                have hP : va_P (dC, dI) cls3 [(hm, .inr (2, [.int (nI 0), .ref ml, .ref mw, .ref mb, .ref ms, .ref mn])), (ml, .inl (cI, 8, .inl ln)), (mw, .inl (cI, 512, .inl wh)), (mb, .inl (cI, 48, .inl bi)), (ms, .inl (cZ, 48, .inl si)), (mn, .inl (cJ, 6, .inr (.inl nu)))] H := hP
                have hD : va_D A [(hm, .inr (2, [.int (nI 0), .ref ml, .ref mw, .ref mb, .ref ms, .ref mn])), (ml, .inl (cI, 8, .inl ln)), (mw, .inl (cI, 512, .inl wh)), (mb, .inl (cI, 48, .inl bi)), (ms, .inl (cZ, 48, .inl si)), (mn, .inl (cJ, 6, .inr (.inl nu)))] := hD
                obtain rfl : v87 = nI 0 := e87
                refine lv_if_eq (tgt := 95) hx hb dM_encode_90 (by decide) (fun h90 => ?_) (fun h90 => ?_)
                · refine lv_iinc (k := 0) (v := nI (o + 1)) hx hb dM_encode_95 hl rfl (cw_inc _) (by decide) rfl (fun ls hl => ?_)
                  have hl : lv_has ls 7 [(2, .int (nI (o + 1))), (0, .ref hm), (1, .int (nI f))] := hl
                  refine lv_goto (tgt := 50) hx hb dM_encode_98 (by decide) ?_
                  exact ih50 _ (by omega) (o + 1) _ _ ls rfl (lv_sub (l' := [(2, .int (nI (o + 1))), (0, .ref hm), (1, .int (nI f))]) hl [0, 1, 2] rfl) (by omega) (by simp only [allb, ha, Bool.true_and]; first | (rw [decide_eq_true h63, Bool.true_or]) | (rw [b_nf h78, Bool.or_true])) hP hD hS
                · exfalso
                  first | exact h90 (by decide +kernel) | exact absurd h90 (by decide +kernel)
              · have hwo := hw64 o (by omega)
                rw [nI_le0 (by omega)] at h63
                refine lv_aload_n hx hb dM_encode_66 rfl (lv_at hl 1 rfl) ?_
                refine lv_iload_n hx hb dM_encode_67 rfl (lv_at hl 2 rfl) ?_
                refine lv_iload_n hx hb dM_encode_68 rfl (lv_at hl 0 rfl) ?_
                refine lv_aload_n hx hb dM_encode_69 rfl (lv_at hl 1 rfl) ?_
                refine va_get (D := (dC, dI)) (ci := 2) (v := .ref mn) (C := RM) (T := TM) (N := 6) hx hb hw inM hown hK hP 0 rfl rfl 5 (by decide) (hw _ kw_391) (fun _ h9 => h9) rfl dM_encode_70 ?_
                refine lv_iload_n hx hb dM_encode_73 rfl (lv_at hl 0 rfl) ?_
                refine va_lald hx hb hK hP 5 2 rfl rfl (vp_in_nI (by omega) (by decide)) dM_encode_74 ?_
                refine lv_topl (fun v74 e74 => ?_)
                rw [nI_clamp (by omega)] at e74
                obtain rfl : v74 = nu o := e74
                refine vp_callSi (W.runV (As := [.int (nI f), .int (nI o), .long (nu o)]) (rest := [.ref hm]) ⟨hx, hb, hml, hown, hw⟩ (c_M_holds l dC dI cI cZ cJ hm ml mw mb ms mn (nI 0) ln wh bi si nu ns its wss sbs hM f o (nu o) hf (by omega) (by omega)) (cwV 3 hw (gV kw_472 kw_474 kw_10 kw_16 kw_475) rfl rfl rfl (by decide +kernel) ⟨Nat.le_of_ble_eq_true rfl, Nat.le_of_ble_eq_true rfl⟩) (ro_preV (q0 := 0) hK hP rfl rfl) rfl rfl hl.1 rfl (lv_room (Nat.le_of_ble_eq_true rfl)) dM_encode_75 ⟨Nat.zero_le _, Nat.zero_le _⟩) (fun v75 e75 => ?_)
                obtain rfl : v75 = nI (fitB (wss f o) (sbs f o) (nu o)).toNat := e75
                refine lv_if_ne (tgt := 85) hx hb dM_encode_78 (by decide) (fun h78 => ?_) (fun h78 => ?_)
                · refine lv_iconst (v := nI 0) hx hb dM_encode_85 (by decide +kernel) ?_
                  refine lv_iconst (v := nI 3) hx hb dM_encode_86 (by decide +kernel) ?_
                  have hPc := hP.sub (ws' := [(hm, .inr (2, [.int (nI 0), .ref ml, .ref mw, .ref mb, .ref ms, .ref mn])), (ml, .inl (cI, 8, .inl ln)), (mw, .inl (cI, 512, .inl wh)), (mb, .inl (cI, 48, .inl bi)), (ms, .inl (cZ, 48, .inl si)), (mn, .inl (cJ, 6, .inr (.inl nu)))]) [0, 1, 2, 3, 4, 5] rfl
                  have hDc := hD.sub (ws' := [(hm, .inr (2, [.int (nI 0), .ref ml, .ref mw, .ref mb, .ref ms, .ref mn])), (ml, .inl (cI, 8, .inl ln)), (mw, .inl (cI, 512, .inl wh)), (mb, .inl (cI, 48, .inl bi)), (ms, .inl (cZ, 48, .inl si)), (mn, .inl (cJ, 6, .inr (.inl nu)))]) [0, 1, 2, 3, 4, 5] (by decide) rfl
                  have hKc := hK.sub (tys' := [(cI, .int), (cZ, .boolean), (cJ, .long)]) [0, 1, 2] rfl
                  have hFc := va_free (wc := [(hm, .inr (2, [.int (nI 0), .ref ml, .ref mw, .ref mb, .ref ms, .ref mn])), (ml, .inl (cI, 8, .inl ln)), (mw, .inl (cI, 512, .inl wh)), (mb, .inl (cI, 48, .inl bi)), (ms, .inl (cZ, 48, .inl si)), (mn, .inl (cJ, 6, .inr (.inl nu)))]) hD hS hA [0, 1, 2, 3, 4, 5] rfl
                  refine va_calli (va_runV (As := [.int (nI 0), .int (nI 3)]) (rest := []) ⟨hx, hb, hml, hown, hw⟩ (c_M_fails0 l dC dI _ cI cZ cJ hm ml mw mb ms mn ln wh bi si nu 3 (by decide)) (cwV 2 hw (gV kw_420 kw_422 kw_5 kw_16 kw_423) rfl rfl rfl (by decide +kernel) ⟨Nat.le_of_ble_eq_true rfl, Nat.le_of_ble_eq_true rfl⟩) (rw_preV (q0 := 0) hKc hPc hDc rfl rfl) rfl rfl hl.1 rfl (lv_room (Nat.le_of_ble_eq_true rfl)) dM_encode_87 ⟨Nat.zero_le _, Nat.zero_le _⟩) hS (fun q _ h => hFc q h) hFc (fun v87 u t H1 locs ht hvm e87 hB hz1 hk1 hS => ?_)
                  obtain ⟨hP1, hK1, hD1⟩ := hB
                  rw [ht] at hP1
                  obtain ⟨hP, hD⟩ := va_join (wr := []) (w1 := [(hm, .inr (2, [.int (nI 0), .ref ml, .ref mw, .ref mb, .ref ms, .ref mn])), (ml, .inl (cI, 8, .inl ln)), (mw, .inl (cI, 512, .inl wh)), (mb, .inl (cI, 48, .inl bi)), (ms, .inl (cZ, 48, .inl si)), (mn, .inl (cJ, 6, .inr (.inl nu)))]) hP hD [0, 1, 2, 3, 4, 5] [] rfl rfl (by decide) (by decide) hk1 hFc hP1 hD1
                  generalize H1 = H at hP hS ⊢
                  have hP : va_P (dC, dI) cls3 [(hm, .inr (2, [.int (nI 0), .ref ml, .ref mw, .ref mb, .ref ms, .ref mn])), (ml, .inl (cI, 8, .inl ln)), (mw, .inl (cI, 512, .inl wh)), (mb, .inl (cI, 48, .inl bi)), (ms, .inl (cZ, 48, .inl si)), (mn, .inl (cJ, 6, .inr (.inl nu)))] H := hP
                  have hD : va_D A [(hm, .inr (2, [.int (nI 0), .ref ml, .ref mw, .ref mb, .ref ms, .ref mn])), (ml, .inl (cI, 8, .inl ln)), (mw, .inl (cI, 512, .inl wh)), (mb, .inl (cI, 48, .inl bi)), (ms, .inl (cZ, 48, .inl si)), (mn, .inl (cJ, 6, .inr (.inl nu)))] := hD
                  obtain rfl : v87 = nI 0 := e87
                  refine lv_if_eq (tgt := 95) hx hb dM_encode_90 (by decide) (fun h90 => ?_) (fun h90 => ?_)
                  · refine lv_iinc (k := 0) (v := nI (o + 1)) hx hb dM_encode_95 hl rfl (cw_inc _) (by decide) rfl (fun ls hl => ?_)
                    have hl : lv_has ls 7 [(2, .int (nI (o + 1))), (0, .ref hm), (1, .int (nI f))] := hl
                    refine lv_goto (tgt := 50) hx hb dM_encode_98 (by decide) ?_
                    exact ih50 _ (by omega) (o + 1) _ _ ls rfl (lv_sub (l' := [(2, .int (nI (o + 1))), (0, .ref hm), (1, .int (nI f))]) hl [0, 1, 2] rfl) (by omega) (by simp only [allb, ha, Bool.true_and]; first | (rw [decide_eq_true h63, Bool.true_or]) | (rw [b_nf h78, Bool.or_true])) hP hD hS
                  · exfalso
                    first | exact h90 (by decide +kernel) | exact absurd h90 (by decide +kernel)
                · refine lv_iconst (v := nI 1) hx hb dM_encode_81 (by decide +kernel) ?_
                  refine lv_goto (tgt := 86) hx hb dM_encode_82 (by decide) ?_
                  refine lv_iconst (v := nI 3) hx hb dM_encode_86 (by decide +kernel) ?_
                  have hPc := hP.sub (ws' := [(hm, .inr (2, [.int (nI 0), .ref ml, .ref mw, .ref mb, .ref ms, .ref mn])), (ml, .inl (cI, 8, .inl ln)), (mw, .inl (cI, 512, .inl wh)), (mb, .inl (cI, 48, .inl bi)), (ms, .inl (cZ, 48, .inl si)), (mn, .inl (cJ, 6, .inr (.inl nu)))]) [0, 1, 2, 3, 4, 5] rfl
                  have hDc := hD.sub (ws' := [(hm, .inr (2, [.int (nI 0), .ref ml, .ref mw, .ref mb, .ref ms, .ref mn])), (ml, .inl (cI, 8, .inl ln)), (mw, .inl (cI, 512, .inl wh)), (mb, .inl (cI, 48, .inl bi)), (ms, .inl (cZ, 48, .inl si)), (mn, .inl (cJ, 6, .inr (.inl nu)))]) [0, 1, 2, 3, 4, 5] (by decide) rfl
                  have hKc := hK.sub (tys' := [(cI, .int), (cZ, .boolean), (cJ, .long)]) [0, 1, 2] rfl
                  have hFc := va_free (wc := [(hm, .inr (2, [.int (nI 0), .ref ml, .ref mw, .ref mb, .ref ms, .ref mn])), (ml, .inl (cI, 8, .inl ln)), (mw, .inl (cI, 512, .inl wh)), (mb, .inl (cI, 48, .inl bi)), (ms, .inl (cZ, 48, .inl si)), (mn, .inl (cJ, 6, .inr (.inl nu)))]) hD hS hA [0, 1, 2, 3, 4, 5] rfl
                  refine va_calli (va_runV (As := [.int (nI 1), .int (nI 3)]) (rest := []) ⟨hx, hb, hml, hown, hw⟩ (c_M_fails1 l dC dI _ cI cZ cJ hm ml mw mb ms mn ln wh bi si nu 3 (by decide)) (cwV 2 hw (gV kw_420 kw_422 kw_5 kw_16 kw_423) rfl rfl rfl (by decide +kernel) ⟨Nat.le_of_ble_eq_true rfl, Nat.le_of_ble_eq_true rfl⟩) (rw_preV (q0 := 0) hKc hPc hDc rfl rfl) rfl rfl hl.1 rfl (lv_room (Nat.le_of_ble_eq_true rfl)) dM_encode_87 ⟨Nat.zero_le _, Nat.zero_le _⟩) hS (fun q _ h => hFc q h) hFc (fun v87 u t H1 locs ht hvm e87 hB hz1 hk1 hS => ?_)
                  obtain ⟨hP1, hK1, hD1⟩ := hB
                  rw [ht] at hP1
                  obtain ⟨hP, hD⟩ := va_join (wr := []) (w1 := [(hm, .inr (2, [.int (nI 3), .ref ml, .ref mw, .ref mb, .ref ms, .ref mn])), (ml, .inl (cI, 8, .inl ln)), (mw, .inl (cI, 512, .inl wh)), (mb, .inl (cI, 48, .inl bi)), (ms, .inl (cZ, 48, .inl si)), (mn, .inl (cJ, 6, .inr (.inl nu)))]) hP hD [0, 1, 2, 3, 4, 5] [] rfl rfl (by decide) (by decide) hk1 hFc hP1 hD1
                  generalize H1 = H at hP hS ⊢
                  have hP : va_P (dC, dI) cls3 [(hm, .inr (2, [.int (nI 3), .ref ml, .ref mw, .ref mb, .ref ms, .ref mn])), (ml, .inl (cI, 8, .inl ln)), (mw, .inl (cI, 512, .inl wh)), (mb, .inl (cI, 48, .inl bi)), (ms, .inl (cZ, 48, .inl si)), (mn, .inl (cJ, 6, .inr (.inl nu)))] H := hP
                  have hD : va_D A [(hm, .inr (2, [.int (nI 3), .ref ml, .ref mw, .ref mb, .ref ms, .ref mn])), (ml, .inl (cI, 8, .inl ln)), (mw, .inl (cI, 512, .inl wh)), (mb, .inl (cI, 48, .inl bi)), (ms, .inl (cZ, 48, .inl si)), (mn, .inl (cJ, 6, .inr (.inl nu)))] := hD
                  obtain rfl : v87 = nI 1 := e87
                  refine lv_if_eq (tgt := 95) hx hb dM_encode_90 (by decide) (fun h90 => ?_) (fun h90 => ?_)
                  · exfalso
                    first | exact h90 (by decide +kernel) | exact absurd h90 (by decide +kernel)
                  · refine lv_lconst (v := lN 0) hx hb dM_encode_93 (by decide +kernel) ?_
                    have hcd : cdEnc ns its wss sbs nu (nI f) = 3 := by unfold cdEnc; first | (rw [h10]; rfl) | (rw [isF_nI hf, if_pos rfl, hff, if_neg (by omega)]) | (rw [isF_nI hf, if_pos rfl, hff, if_pos (by omega), b_ff (b := afit (wss f) (sbs f) nu) (fun q9 => absurd ((allb_iff _ 6).mp q9 o (by omega)) (by rw [decide_eq_false h63, (b_nat0 _).mp h78]; decide))]; rfl) | (rw [isF_nI hf, if_pos rfl, hff, if_pos (by omega), if_pos haf])
                    exact W.lret (v := lN 0) hx hb hr (fun t ht hW => ⟨⟨_, (), rfl, (by intro h0; first | exact absurd (hcd.symm.trans h0) (by decide) | (rw [hff, show j = ns f by omega, wrp_all])), by rw [ht, hcd]; exact hP, va_K.moved hW.alike hK, by rw [hcd]; exact hD⟩, hS.F ht⟩) hS.2.2 dM_encode_94
        · exfalso
          first | exact h43 (by decide +kernel) | exact absurd h43 (by decide +kernel)
      · rw [nI_le0 (by omega)] at h31
        refine lv_iconst (v := nI 1) hx hb dM_encode_34 (by decide +kernel) ?_
        refine lv_goto (tgt := 39) hx hb dM_encode_35 (by decide) ?_
        refine lv_iconst (v := nI 2) hx hb dM_encode_39 (by decide +kernel) ?_
        have hPc := hP.sub (ws' := [(hm, .inr (2, [.int (nI 0), .ref ml, .ref mw, .ref mb, .ref ms, .ref mn])), (ml, .inl (cI, 8, .inl ln)), (mw, .inl (cI, 512, .inl wh)), (mb, .inl (cI, 48, .inl bi)), (ms, .inl (cZ, 48, .inl si)), (mn, .inl (cJ, 6, .inr (.inl nu)))]) [0, 1, 2, 3, 4, 5] rfl
        have hDc := hD.sub (ws' := [(hm, .inr (2, [.int (nI 0), .ref ml, .ref mw, .ref mb, .ref ms, .ref mn])), (ml, .inl (cI, 8, .inl ln)), (mw, .inl (cI, 512, .inl wh)), (mb, .inl (cI, 48, .inl bi)), (ms, .inl (cZ, 48, .inl si)), (mn, .inl (cJ, 6, .inr (.inl nu)))]) [0, 1, 2, 3, 4, 5] (by decide) rfl
        have hKc := hK.sub (tys' := [(cI, .int), (cZ, .boolean), (cJ, .long)]) [0, 1, 2] rfl
        have hFc := va_free (wc := [(hm, .inr (2, [.int (nI 0), .ref ml, .ref mw, .ref mb, .ref ms, .ref mn])), (ml, .inl (cI, 8, .inl ln)), (mw, .inl (cI, 512, .inl wh)), (mb, .inl (cI, 48, .inl bi)), (ms, .inl (cZ, 48, .inl si)), (mn, .inl (cJ, 6, .inr (.inl nu)))]) hD hS hA [0, 1, 2, 3, 4, 5] rfl
        refine va_calli (va_runV (As := [.int (nI 1), .int (nI 2)]) (rest := []) ⟨hx, hb, hml, hown, hw⟩ (c_M_fails1 l dC dI _ cI cZ cJ hm ml mw mb ms mn ln wh bi si nu 2 (by decide)) (cwV 2 hw (gV kw_420 kw_422 kw_5 kw_16 kw_423) rfl rfl rfl (by decide +kernel) ⟨Nat.le_of_ble_eq_true rfl, Nat.le_of_ble_eq_true rfl⟩) (rw_preV (q0 := 0) hKc hPc hDc rfl rfl) rfl rfl hl.1 rfl (lv_room (Nat.le_of_ble_eq_true rfl)) dM_encode_40 ⟨Nat.zero_le _, Nat.zero_le _⟩) hS (fun q _ h => hFc q h) hFc (fun v40 u t H1 locs ht hvm e40 hB hz1 hk1 hS => ?_)
        obtain ⟨hP1, hK1, hD1⟩ := hB
        rw [ht] at hP1
        obtain ⟨hP, hD⟩ := va_join (wr := []) (w1 := [(hm, .inr (2, [.int (nI 2), .ref ml, .ref mw, .ref mb, .ref ms, .ref mn])), (ml, .inl (cI, 8, .inl ln)), (mw, .inl (cI, 512, .inl wh)), (mb, .inl (cI, 48, .inl bi)), (ms, .inl (cZ, 48, .inl si)), (mn, .inl (cJ, 6, .inr (.inl nu)))]) hP hD [0, 1, 2, 3, 4, 5] [] rfl rfl (by decide) (by decide) hk1 hFc hP1 hD1
        generalize H1 = H at hP hS ⊢
        have hP : va_P (dC, dI) cls3 [(hm, .inr (2, [.int (nI 2), .ref ml, .ref mw, .ref mb, .ref ms, .ref mn])), (ml, .inl (cI, 8, .inl ln)), (mw, .inl (cI, 512, .inl wh)), (mb, .inl (cI, 48, .inl bi)), (ms, .inl (cZ, 48, .inl si)), (mn, .inl (cJ, 6, .inr (.inl nu)))] H := hP
        have hD : va_D A [(hm, .inr (2, [.int (nI 2), .ref ml, .ref mw, .ref mb, .ref ms, .ref mn])), (ml, .inl (cI, 8, .inl ln)), (mw, .inl (cI, 512, .inl wh)), (mb, .inl (cI, 48, .inl bi)), (ms, .inl (cZ, 48, .inl si)), (mn, .inl (cJ, 6, .inr (.inl nu)))] := hD
        obtain rfl : v40 = nI 1 := e40
        refine lv_if_eq (tgt := 48) hx hb dM_encode_43 (by decide) (fun h43 => ?_) (fun h43 => ?_)
        · exfalso
          first | exact h43 (by decide +kernel) | exact absurd h43 (by decide +kernel)
        · refine lv_lconst (v := lN 0) hx hb dM_encode_46 (by decide +kernel) ?_
          have hcd : cdEnc ns its wss sbs nu (nI f) = 2 := by unfold cdEnc; first | (rw [h10]; rfl) | (rw [isF_nI hf, if_pos rfl, hff, if_neg (by omega)]) | (rw [isF_nI hf, if_pos rfl, hff, if_pos (by omega), b_ff (b := afit (wss f) (sbs f) nu) (fun q9 => absurd ((allb_iff _ 6).mp q9 o (by omega)) (by rw [decide_eq_false h63, (b_nat0 _).mp h78]; decide))]; rfl) | (rw [isF_nI hf, if_pos rfl, hff, if_pos (by omega), if_pos haf])
          exact W.lret (v := lN 0) hx hb hr (fun t ht hW => ⟨⟨_, (), rfl, (by intro h0; first | exact absurd (hcd.symm.trans h0) (by decide) | (rw [hff, show j = ns f by omega, wrp_all])), by rw [ht, hcd]; exact hP, va_K.moved hW.alike hK, by rw [hcd]; exact hD⟩, hS.F ht⟩) hS.2.2 dM_encode_47
  · rw [b_nat0] at h10
    refine lv_iconst (v := nI 1) hx hb dM_encode_13 (by decide +kernel) ?_
    refine lv_goto (tgt := 18) hx hb dM_encode_14 (by decide) ?_
    refine lv_iconst (v := nI 1) hx hb dM_encode_18 (by decide +kernel) ?_
    have hPc := hP.sub (ws' := [(hm, .inr (2, [.int (nI 0), .ref ml, .ref mw, .ref mb, .ref ms, .ref mn])), (ml, .inl (cI, 8, .inl ln)), (mw, .inl (cI, 512, .inl wh)), (mb, .inl (cI, 48, .inl bi)), (ms, .inl (cZ, 48, .inl si)), (mn, .inl (cJ, 6, .inr (.inl nu)))]) [0, 1, 2, 3, 4, 5] rfl
    have hDc := hD.sub (ws' := [(hm, .inr (2, [.int (nI 0), .ref ml, .ref mw, .ref mb, .ref ms, .ref mn])), (ml, .inl (cI, 8, .inl ln)), (mw, .inl (cI, 512, .inl wh)), (mb, .inl (cI, 48, .inl bi)), (ms, .inl (cZ, 48, .inl si)), (mn, .inl (cJ, 6, .inr (.inl nu)))]) [0, 1, 2, 3, 4, 5] (by decide) rfl
    have hKc := hK.sub (tys' := [(cI, .int), (cZ, .boolean), (cJ, .long)]) [0, 1, 2] rfl
    have hFc := va_free (wc := [(hm, .inr (2, [.int (nI 0), .ref ml, .ref mw, .ref mb, .ref ms, .ref mn])), (ml, .inl (cI, 8, .inl ln)), (mw, .inl (cI, 512, .inl wh)), (mb, .inl (cI, 48, .inl bi)), (ms, .inl (cZ, 48, .inl si)), (mn, .inl (cJ, 6, .inr (.inl nu)))]) hD hS hA [0, 1, 2, 3, 4, 5] rfl
    refine va_calli (va_runV (As := [.int (nI 1), .int (nI 1)]) (rest := []) ⟨hx, hb, hml, hown, hw⟩ (c_M_fails1 l dC dI _ cI cZ cJ hm ml mw mb ms mn ln wh bi si nu 1 (by decide)) (cwV 2 hw (gV kw_420 kw_422 kw_5 kw_16 kw_423) rfl rfl rfl (by decide +kernel) ⟨Nat.le_of_ble_eq_true rfl, Nat.le_of_ble_eq_true rfl⟩) (rw_preV (q0 := 0) hKc hPc hDc rfl rfl) rfl rfl hl.1 rfl (lv_room (Nat.le_of_ble_eq_true rfl)) dM_encode_19 ⟨Nat.zero_le _, Nat.zero_le _⟩) hS (fun q _ h => hFc q h) hFc (fun v19 u t H1 locs ht hvm e19 hB hz1 hk1 hS => ?_)
    obtain ⟨hP1, hK1, hD1⟩ := hB
    rw [ht] at hP1
    obtain ⟨hP, hD⟩ := va_join (wr := []) (w1 := [(hm, .inr (2, [.int (nI 1), .ref ml, .ref mw, .ref mb, .ref ms, .ref mn])), (ml, .inl (cI, 8, .inl ln)), (mw, .inl (cI, 512, .inl wh)), (mb, .inl (cI, 48, .inl bi)), (ms, .inl (cZ, 48, .inl si)), (mn, .inl (cJ, 6, .inr (.inl nu)))]) hP hD [0, 1, 2, 3, 4, 5] [] rfl rfl (by decide) (by decide) hk1 hFc hP1 hD1
    generalize H1 = H at hP hS ⊢
    have hP : va_P (dC, dI) cls3 [(hm, .inr (2, [.int (nI 1), .ref ml, .ref mw, .ref mb, .ref ms, .ref mn])), (ml, .inl (cI, 8, .inl ln)), (mw, .inl (cI, 512, .inl wh)), (mb, .inl (cI, 48, .inl bi)), (ms, .inl (cZ, 48, .inl si)), (mn, .inl (cJ, 6, .inr (.inl nu)))] H := hP
    have hD : va_D A [(hm, .inr (2, [.int (nI 1), .ref ml, .ref mw, .ref mb, .ref ms, .ref mn])), (ml, .inl (cI, 8, .inl ln)), (mw, .inl (cI, 512, .inl wh)), (mb, .inl (cI, 48, .inl bi)), (ms, .inl (cZ, 48, .inl si)), (mn, .inl (cJ, 6, .inr (.inl nu)))] := hD
    obtain rfl : v19 = nI 1 := e19
    refine lv_if_ne (tgt := 46) hx hb dM_encode_22 (by decide) (fun h22 => ?_) (fun h22 => ?_)
    · refine lv_lconst (v := lN 0) hx hb dM_encode_46 (by decide +kernel) ?_
      have hcd : cdEnc ns its wss sbs nu x = 1 := by unfold cdEnc; first | (rw [h10]; rfl) | (rw [isF_nI hf, if_pos rfl, hff, if_neg (by omega)]) | (rw [isF_nI hf, if_pos rfl, hff, if_pos (by omega), b_ff (b := afit (wss f) (sbs f) nu) (fun q9 => absurd ((allb_iff _ 6).mp q9 o (by omega)) (by rw [decide_eq_false h63, (b_nat0 _).mp h78]; decide))]; rfl) | (rw [isF_nI hf, if_pos rfl, hff, if_pos (by omega), if_pos haf])
      exact W.lret (v := lN 0) hx hb hr (fun t ht hW => ⟨⟨_, (), rfl, (by intro h0; first | exact absurd (hcd.symm.trans h0) (by decide) | (rw [hff, show j = ns f by omega, wrp_all])), by rw [ht, hcd]; exact hP, va_K.moved hW.alike hK, by rw [hcd]; exact hD⟩, hS.F ht⟩) hS.2.2 dM_encode_47
    · exfalso
      first | exact h22 (by decide +kernel) | exact absurd h22 (by decide +kernel)
