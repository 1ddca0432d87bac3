theorem sl_of {zh zl : Int32} {w : Nat} (hw : w ≤ 64) (h1 : ¬ zl < 0) (h2 : zl ≤ zh) (h3 : zh < nI w) : ∃ hi lo, hi < w ∧ lo ≤ hi ∧ zh = nI hi ∧ zl = nI lo := by
  have a1 : 0 ≤ zl.toInt := by
    have := Int32.not_lt.mp h1
    simpa using Int32.le_iff_toInt_le.mp this
  have a2 := Int32.le_iff_toInt_le.mp h2
  have a3 := Int32.lt_iff_toInt_lt.mp h3
  rw [nI_toInt (by omega)] at a3
  exact ⟨zh.toInt.toNat, zl.toInt.toNat, by omega, by omega, toI_of (by omega) (by omega), toI_of (by omega) (by omega)⟩
theorem lft1_0 {it : Nat → Nat} {n o : Nat} : ∀ K, cw_lft1 it n o K = 0 → ∀ k, k < K → cw_has it (2 + 64 * o + k) n = true := by
  intro K
  induction K with
  | zero => intro _ k hk; omega
  | succ K ih =>
    intro h k hk
    simp only [cw_lft1] at h
    by_cases e : k = K
    · subst e
      cases hh : cw_has it (2 + 64 * o + k) n with
      | true => rfl
      | false => rw [hh] at h; simp at h
    · exact ih (by omega) k (by omega)
theorem lft_0 {it w : Nat → Nat} {n : Nat} : ∀ O, cw_lft it n w O = 0 → ∀ o k, o < O → k < w o → cw_has it (2 + 64 * o + k) n = true := by
  intro O
  induction O with
  | zero => intro _ o k ho; omega
  | succ O ih =>
    intro h o k ho hk
    simp only [cw_lft] at h
    by_cases e : o = O
    · subst e; exact lft1_0 (w o) (by omega) k hk
    · exact ih (by omega) o k (by omega) hk
theorem plR_has {it : Nat → Nat} {n x : Nat} {r : Int32} (h : plR it n x r) (hh : cw_has it x n = true) : ∃ j, j < n ∧ it j = x ∧ r = nI j := by
  rcases h with h | ⟨h, -⟩
  · exact h
  · obtain ⟨j, h1, h2⟩ := (cw_has_iff _ _ _).mp hh
    exact absurd h2 (h j h1)
/-- the number so far: its k lowest bits are told, the others are 0 -/
def dcI (it : Nat → Nat) (n w : Nat) (sg : Bool) (o : Nat) (wo : Int64) (k : Nat) (x : Int64) : Prop :=
  (∀ q, q < k → ∀ j, j < n → it j = 2 + 64 * o + (if q < w then q else w - 1) → bq x q = if q < w ∨ sg = true then bq wo (n - 1 - j) else 0) ∧ ∀ q, k ≤ q → q < 64 → bq x q = 0
theorem dcI_0 (it : Nat → Nat) (n w : Nat) (sg : Bool) (o : Nat) (wo : Int64) : dcI it n w sg o wo 0 (lN 0) :=
  ⟨fun q hq => by omega, fun q _ _ => by rw [bq_lN (by decide)]; simp⟩
theorem dcI_z {it w : Nat → Nat} {n : Nat} {sg : Bool} {o : Nat} {wo : Int64} {k : Nat} {x : Int64} (hok : cw_ok it n w) (h : dcI it n (w o) sg o wo k x) (hk : k < 64) {j : Nat} (hj : j < n) (e : it j = 2 + 64 * o + (if k < w o then k else w o - 1)) (hb : bq wo (n - 1 - j) = 0) : dcI it n (w o) sg o wo (k + 1) x := by
  refine ⟨fun q hq i hi ei => ?_, fun q h1 h2 => h.2 q (by omega) h2⟩
  by_cases c : q = k
  · subst c
    have : i = j := hok.2.2.2 i j hi hj (by omega) (by omega)
    rw [h.2 q (Nat.le_refl _) hk, this, hb]
    split <;> rfl
  · exact h.1 q (by omega) i hi ei
theorem dcI_o {it w : Nat → Nat} {n : Nat} {sg : Bool} {o : Nat} {wo : Int64} {k : Nat} {x : Int64} (hok : cw_ok it n w) (h : dcI it n (w o) sg o wo k x) (hk : k < 64) {j : Nat} (hj : j < n) (e : it j = 2 + 64 * o + (if k < w o then k else w o - 1)) (hc : k < w o ∨ sg = true) (hb : bq wo (n - 1 - j) = 1) :
    dcI it n (w o) sg o wo (k + 1) (x ||| (lN 1 <<< ((nI k).toInt64 &&& 63))) := by
  have hq1 : ∀ q, q ≠ k → bq (x ||| (lN 1 <<< ((nI k).toInt64 &&& 63))) q = bq x q := by
    intro q hq
    have := bq_lt x q
    rw [bq_or, bq_one 1 k q (by decide) hk, if_neg hq]
    by_cases z : bq x q = 1
    · rw [if_pos (Or.inl z), z]
    · rw [if_neg (by omega)]; omega
  refine ⟨fun q hq i hi ei => ?_, fun q h1 h2 => by rw [hq1 q (by omega)]; exact h.2 q (by omega) h2⟩
  by_cases c : q = k
  · subst c
    have : i = j := hok.2.2.2 i j hi hj (by omega) (by omega)
    rw [bq_or, bq_one 1 q q (by decide) hk, if_pos rfl, if_pos (Or.inr rfl), if_pos hc, this, hb]
  · rw [hq1 q c]; exact h.1 q (by omega) i hi ei
theorem dcI_end {it : Nat → Nat} {n w : Nat} {sg : Bool} {o : Nat} {wo x : Int64} {k : Nat} (hk : k = 64) (h : dcI it n w sg o wo k x) : dcP it n w sg o wo x := by
  subst hk; exact fun k hk j hj e => h.1 k hk j hj e
theorem dcI_stop {it : Nat → Nat} {n w : Nat} {o : Nat} {wo x : Int64} {k : Nat} (h : dcI it n w false o wo k x) (hw : w ≤ k) : dcP it n w false o wo x := by
  intro q hq j hj e
  by_cases c : q < k
  · exact h.1 q c j hj e
  · rw [h.2 q (by omega) hq, if_neg (fun z => z.elim (fun z => by omega) (fun z => by cases z))]
set_option maxHeartbeats 4000000 in
set_option maxRecDepth 100000 in
theorem c_M_slice (l : Launch) (dC : Nat → ClassId) (dI : Nat → Nat → Nat) (sz : Nat) (cI cZ cJ : ClassId) (hm ml mw mb ms mn : Nat) (er : Int32) (ln wh bi si : Nat → Int32) (nu : Nat → Int64) (ns : Nat → Nat) (its wss : Nat → Nat → Nat) (sbs : Nat → Nat → Bool) (hM : mR ns its wss sbs ln wh bi si) (x y zh zl : Int32) : Met l yM_slice wM_slice { frames := 3, cells := 0, slots := 0, locals := 67 } (rw_Pc (dC, dI) cls3 [(hm, .inr (2, [.int er, .ref ml, .ref mw, .ref mb, .ref ms, .ref mn])), (ml, .inl (cI, 8, .inl ln)), (mw, .inl (cI, 512, .inl wh)), (mb, .inl (cI, 48, .inl bi)), (ms, .inl (cZ, 48, .inl si)), (mn, .inl (cJ, 6, .inr (.inl nu)))] [(cI, .int), (cZ, .boolean), (cJ, .long)] sz [.ref hm, .int x, .int y, .int zh, .int zl]) (va_Qi (fun (r : Int32) (_ : Unit) => cdSlice ns its wss x y zh zl = 0 → r = nI (ns (fi x) + (fi zh + 1 - fi zl))) (fun _ t => ∃ ln' wh' : Nat → Int32, mR (stp (cdSlice ns its wss x y zh zl) (va_up ns (fi x) (ns (fi x) + (fi zh + 1 - fi zl))) ns) (stp (cdSlice ns its wss x y zh zl) (va_up its (fi x) (itS (its (fi x)) (ns (fi x)) (fi y) (fi zh))) its) wss sbs ln' wh' bi si ∧ va_P (dC, dI) cls3 [(hm, .inr (2, [.int (nI (cdSlice ns its wss x y zh zl)), .ref ml, .ref mw, .ref mb, .ref ms, .ref mn])), (ml, .inl (cI, 8, .inl ln')), (mw, .inl (cI, 512, .inl wh')), (mb, .inl (cI, 48, .inl bi)), (ms, .inl (cZ, 48, .inl si)), (mn, .inl (cJ, 6, .inr (.inl nu)))] t.heap ∧ va_K (dC, dI) cls3 [(cI, .int), (cZ, .boolean), (cJ, .long)] t ∧ va_D (va_A [(hm, .inr (2, [.int er, .ref ml, .ref mw, .ref mb, .ref ms, .ref mn])), (ml, .inl (cI, 8, .inl ln)), (mw, .inl (cI, 512, .inl wh)), (mb, .inl (cI, 48, .inl bi)), (ms, .inl (cZ, 48, .inl si)), (mn, .inl (cJ, 6, .inr (.inl nu)))] sz) [(hm, .inr (2, [.int (nI (cdSlice ns its wss x y zh zl)), .ref ml, .ref mw, .ref mb, .ref ms, .ref mn])), (ml, .inl (cI, 8, .inl ln')), (mw, .inl (cI, 512, .inl wh')), (mb, .inl (cI, 48, .inl bi)), (ms, .inl (cZ, 48, .inl si)), (mn, .inl (cJ, 6, .inr (.inl nu)))]) (va_A [(hm, .inr (2, [.int er, .ref ml, .ref mw, .ref mb, .ref ms, .ref mn])), (ml, .inl (cI, 8, .inl ln)), (mw, .inl (cI, 512, .inl wh)), (mb, .inl (cI, 48, .inl bi)), (ms, .inl (cZ, 48, .inl si)), (mn, .inl (cJ, 6, .inr (.inl nu)))] sz)) 0 0 (va_A [(hm, .inr (2, [.int er, .ref ml, .ref mw, .ref mb, .ref ms, .ref mn])), (ml, .inl (cI, 8, .inl ln)), (mw, .inl (cI, 512, .inl wh)), (mb, .inl (cI, 48, .inl bi)), (ms, .inl (cZ, 48, .inl si)), (mn, .inl (cJ, 6, .inr (.inl nu)))] sz) := by
  refine Met.ofW (cc := cM_slice) (maxL := 6) (ret := (some .int)) (by decide) rfl ?_
  intro p e s m args below meth c s₁ B hml hv
  obtain ⟨rfl, hsz, hP, hK, hD0⟩ := hv
  have hx := B.exec
  have hb := B.bytes
  have hr := B.returns
  have hts := atoms_spec (ws := wM_slice) B.pre
  have hw : ∀ w ∈ wA, w.before _ s = true := fun w h => hts w (List.mem_cons_of_mem _ h)
  have hown : s.vm.findClass RM = some m.cls := findClass_of_methodNamed B.named
  have hlocks := B.notSynchronized
  subst hsz
  have hD := hD0.self (sz := s.heap.size)
  generalize hAe : va_A [(hm, .inr (2, [.int er, .ref ml, .ref mw, .ref mb, .ref ms, .ref mn])), (ml, .inl (cI, 8, .inl ln)), (mw, .inl (cI, 512, .inl wh)), (mb, .inl (cI, 48, .inl bi)), (ms, .inl (cZ, 48, .inl si)), (mn, .inl (cJ, 6, .inr (.inl nu)))] s.heap.size = A at hD ⊢
  have hA : ∀ q : Nat, s.heap.size ≤ q → A q := fun q h => by rw [← hAe]; exact Or.inr h
  have hS : va_S A s.heap s.heap [] := va_S.rf
  have hl := lv_entry ([.ref hm, .int x, .int y, .int zh, .int zl]) (n := 6) (Nat.le_of_ble_eq_true rfl)
  rw [lg_entry_eq]
  generalize (lg_sl ([.ref hm, .int x, .int y, .int zh, .int zl]) ++ List.replicate (6 - (lg_sl ([.ref hm, .int x, .int y, .int zh, .int zl])).length) Slot.unset).toArray = ls at hl ⊢
  have hl : lv_has ls 6 [(0, .ref hm), (1, .int x), (2, .int y), (3, .int zh), (4, .int zl)] := hl
  refine lv_aload_n hx hb dM_slice_0 rfl (lv_at hl 0 rfl) ?_
  refine lv_iconst (v := nI 0) hx hb dM_slice_1 (by decide +kernel) ?_
  refine va_put (D := (dC, dI)) (ci := 2) (v := .int (nI 0)) (ty := .int) (C := RM) (T := TM) (N := 6) hx hb hw inM tM tM_ok nM hown hK hP hD hS 0 rfl rfl 0 (by decide) (hw _ kw_386) (fun _ h9 => h9) rfl (by decide +kernel) rfl rfl (Nat.le_of_ble_eq_true rfl) dM_slice_2 (fun H locs hP hD hS => ?_)
  have hP : va_P (dC, dI) cls3 [(hm, .inr (2, [.int (nI 0), .ref ml, .ref mw, .ref mb, .ref ms, .ref mn])), (ml, .inl (cI, 8, .inl ln)), (mw, .inl (cI, 512, .inl wh)), (mb, .inl (cI, 48, .inl bi)), (ms, .inl (cZ, 48, .inl si)), (mn, .inl (cJ, 6, .inr (.inl nu)))] H := hP
  have hD : va_D A [(hm, .inr (2, [.int (nI 0), .ref ml, .ref mw, .ref mb, .ref ms, .ref mn])), (ml, .inl (cI, 8, .inl ln)), (mw, .inl (cI, 512, .inl wh)), (mb, .inl (cI, 48, .inl bi)), (ms, .inl (cZ, 48, .inl si)), (mn, .inl (cJ, 6, .inr (.inl nu)))] := hD
  refine lv_aload_n hx hb dM_slice_5 rfl (lv_at hl 0 rfl) ?_
  refine lv_aload_n hx hb dM_slice_6 rfl (lv_at hl 0 rfl) ?_
  refine lv_iload_n hx hb dM_slice_7 rfl (lv_at hl 1 rfl) ?_
  refine lv_iload_n hx hb dM_slice_8 rfl (lv_at hl 2 rfl) ?_
  refine vp_callSi (W.runV (As := [.int x, .int y]) (rest := [.ref hm]) ⟨hx, hb, hml, hown, hw⟩ (c_M_isThere l dC dI cI cZ cJ hm ml mw mb ms mn (nI 0) ln wh bi si nu ns its wss sbs hM x y) (cwV 2 hw (gV kw_448 kw_450 kw_7 kw_16 kw_451) rfl rfl rfl (by decide +kernel) ⟨Nat.le_of_ble_eq_true rfl, Nat.le_of_ble_eq_true rfl⟩) (ro_preV (q0 := 0) hK hP rfl rfl) rfl rfl hl.1 rfl (lv_room (Nat.le_of_ble_eq_true rfl)) dM_slice_9 ⟨Nat.zero_le _, Nat.zero_le _⟩) (fun v9 e9 => ?_)
  obtain rfl : v9 = nI (thr wss x y).toNat := e9
  refine lv_if_eq (tgt := 21) hx hb dM_slice_12 (by decide) (fun h12 => ?_) (fun h12 => ?_)
  · rw [b_nat0] at h12
    refine lv_iconst (v := nI 1) hx hb dM_slice_21 (by decide +kernel) ?_
    refine lv_goto (tgt := 26) hx hb dM_slice_22 (by decide) ?_
    refine lv_iconst (v := nI 1) hx hb dM_slice_26 (by decide +kernel) ?_
    have hPc := hP.sub (ws' := [(hm, .inr (2, [.int (nI 0), .ref ml, .ref mw, .ref mb, .ref ms, .ref mn])), (ml, .inl (cI, 8, .inl ln)), (mw, .inl (cI, 512, .inl wh)), (mb, .inl (cI, 48, .inl bi)), (ms, .inl (cZ, 48, .inl si)), (mn, .inl (cJ, 6, .inr (.inl nu)))]) [0, 1, 2, 3, 4, 5] rfl
    have hDc := hD.sub (ws' := [(hm, .inr (2, [.int (nI 0), .ref ml, .ref mw, .ref mb, .ref ms, .ref mn])), (ml, .inl (cI, 8, .inl ln)), (mw, .inl (cI, 512, .inl wh)), (mb, .inl (cI, 48, .inl bi)), (ms, .inl (cZ, 48, .inl si)), (mn, .inl (cJ, 6, .inr (.inl nu)))]) [0, 1, 2, 3, 4, 5] (by decide) rfl
    have hKc := hK.sub (tys' := [(cI, .int), (cZ, .boolean), (cJ, .long)]) [0, 1, 2] rfl
    have hFc := va_free (wc := [(hm, .inr (2, [.int (nI 0), .ref ml, .ref mw, .ref mb, .ref ms, .ref mn])), (ml, .inl (cI, 8, .inl ln)), (mw, .inl (cI, 512, .inl wh)), (mb, .inl (cI, 48, .inl bi)), (ms, .inl (cZ, 48, .inl si)), (mn, .inl (cJ, 6, .inr (.inl nu)))]) hD hS hA [0, 1, 2, 3, 4, 5] rfl
    refine va_calli (va_runV (As := [.int (nI 1), .int (nI 1)]) (rest := []) ⟨hx, hb, hml, hown, hw⟩ (c_M_fails1 l dC dI _ cI cZ cJ hm ml mw mb ms mn ln wh bi si nu 1 (by decide)) (cwV 2 hw (gV kw_420 kw_422 kw_5 kw_16 kw_423) rfl rfl rfl (by decide +kernel) ⟨Nat.le_of_ble_eq_true rfl, Nat.le_of_ble_eq_true rfl⟩) (rw_preV (q0 := 0) hKc hPc hDc rfl rfl) rfl rfl hl.1 rfl (lv_room (Nat.le_of_ble_eq_true rfl)) dM_slice_27 ⟨Nat.zero_le _, Nat.zero_le _⟩) hS (fun q _ h => hFc q h) hFc (fun v27 u t H1 locs ht hvm e27 hB hz1 hk1 hS => ?_)
    obtain ⟨hP1, hK1, hD1⟩ := hB
    rw [ht] at hP1
    obtain ⟨hP, hD⟩ := va_join (wr := []) (w1 := [(hm, .inr (2, [.int (nI 1), .ref ml, .ref mw, .ref mb, .ref ms, .ref mn])), (ml, .inl (cI, 8, .inl ln)), (mw, .inl (cI, 512, .inl wh)), (mb, .inl (cI, 48, .inl bi)), (ms, .inl (cZ, 48, .inl si)), (mn, .inl (cJ, 6, .inr (.inl nu)))]) hP hD [0, 1, 2, 3, 4, 5] [] rfl rfl (by decide) (by decide) hk1 hFc hP1 hD1
    generalize H1 = H at hP hS ⊢
    have hP : va_P (dC, dI) cls3 [(hm, .inr (2, [.int (nI 1), .ref ml, .ref mw, .ref mb, .ref ms, .ref mn])), (ml, .inl (cI, 8, .inl ln)), (mw, .inl (cI, 512, .inl wh)), (mb, .inl (cI, 48, .inl bi)), (ms, .inl (cZ, 48, .inl si)), (mn, .inl (cJ, 6, .inr (.inl nu)))] H := hP
    have hD : va_D A [(hm, .inr (2, [.int (nI 1), .ref ml, .ref mw, .ref mb, .ref ms, .ref mn])), (ml, .inl (cI, 8, .inl ln)), (mw, .inl (cI, 512, .inl wh)), (mb, .inl (cI, 48, .inl bi)), (ms, .inl (cZ, 48, .inl si)), (mn, .inl (cJ, 6, .inr (.inl nu)))] := hD
    obtain rfl : v27 = nI 1 := e27
    refine lv_if_eq (tgt := 35) hx hb dM_slice_30 (by decide) (fun h30 => ?_) (fun h30 => ?_)
    · exfalso
      first | exact h30 (by decide +kernel) | exact absurd h30 (by decide +kernel)
    · refine lv_iconst (v := nI 0) hx hb dM_slice_33 (by decide +kernel) ?_
      have hcd : cdSlice ns its wss x y zh zl = 1 := by unfold cdSlice; first | (rw [if_neg (fun q9 => by rw [h12] at q9; exact absurd q9.1 (by decide))]) | (rw [if_neg (fun q9 => h18 q9.2)]) | (rw [if_pos ⟨thr_t hf ho hw1, h18⟩, if_pos (Or.inl h38)]) | (rw [if_pos ⟨thr_t hf ho hw1, h18⟩, if_pos (Or.inr (by rw [hff, hfo]; exact Int32.not_lt.mp h48))]) | (rw [if_pos ⟨thr_t hf ho hw1, h18⟩, if_neg (fun q9 => q9.elim h38 (fun q9 => absurd h48 (Int32.not_lt.mpr (by rw [hff, hfo] at q9; exact q9)))), hff, hfh, hfl, if_pos (by omega)]) | (rw [if_pos ⟨thr_t hf ho hw1, h18⟩, if_neg (fun q9 => q9.elim h38 (fun q9 => absurd h48 (Int32.not_lt.mpr (by rw [hff, hfo] at q9; exact q9)))), hff, hfo, hfh, hfl, if_neg (by omega), hany_p (by omega) hk (by omega) (Classical.byContradiction (fun q9 => h115 ((plR_lt hn e112).mpr q9)))]; rfl) | (rw [if_pos ⟨thr_t hf ho hw1, h18⟩, if_neg (fun q9 => q9.elim h38 (fun q9 => absurd h48 (Int32.not_lt.mpr (by rw [hff, hfo] at q9; exact q9)))), hff, hfo, hfh, hfl, if_neg (by omega), hnone]; rfl)
      exact W.iret (v := nI 0) hx hb hr (fun t ht hW => ⟨⟨_, (), rfl, (by intro h0; first | exact absurd (hcd.symm.trans h0) (by decide) | (rw [hff, hfh, hfl])), ln, wh, by rw [hcd]; exact hM, by rw [ht, hcd]; exact hP, va_K.moved hW.alike hK, by rw [hcd]; exact hD⟩, hS.F ht⟩) hS.2.2 dM_slice_34
  · obtain ⟨f, o, hf, ho, hw1, rfl, rfl⟩ := thr_of (b_nf h12)
    have hff : fi (nI f) = f := fi_nI (by omega)
    have hfo : fi (nI o) = o := fi_nI (by omega)
    have hok := (hM f hf).1
    have hn := hok.1
    have hw64 := hok.2.1
    have hit := cw_it hok
    have hwo := hw64 o ho
    refine lv_iload_n hx hb dM_slice_15 rfl (lv_at hl 3 rfl) ?_
    refine lv_iload hx hb dM_slice_16 (lv_at hl 4 rfl) ?_
    refine lv_icmp_ge (tgt := 25) hx hb dM_slice_18 (by decide) (fun h18 => ?_) (fun h18 => ?_)
    · refine lv_iconst (v := nI 0) hx hb dM_slice_25 (by decide +kernel) ?_
      refine lv_iconst (v := nI 1) hx hb dM_slice_26 (by decide +kernel) ?_
      have hPc := hP.sub (ws' := [(hm, .inr (2, [.int (nI 0), .ref ml, .ref mw, .ref mb, .ref ms, .ref mn])), (ml, .inl (cI, 8, .inl ln)), (mw, .inl (cI, 512, .inl wh)), (mb, .inl (cI, 48, .inl bi)), (ms, .inl (cZ, 48, .inl si)), (mn, .inl (cJ, 6, .inr (.inl nu)))]) [0, 1, 2, 3, 4, 5] rfl
      have hDc := hD.sub (ws' := [(hm, .inr (2, [.int (nI 0), .ref ml, .ref mw, .ref mb, .ref ms, .ref mn])), (ml, .inl (cI, 8, .inl ln)), (mw, .inl (cI, 512, .inl wh)), (mb, .inl (cI, 48, .inl bi)), (ms, .inl (cZ, 48, .inl si)), (mn, .inl (cJ, 6, .inr (.inl nu)))]) [0, 1, 2, 3, 4, 5] (by decide) rfl
      have hKc := hK.sub (tys' := [(cI, .int), (cZ, .boolean), (cJ, .long)]) [0, 1, 2] rfl
      have hFc := va_free (wc := [(hm, .inr (2, [.int (nI 0), .ref ml, .ref mw, .ref mb, .ref ms, .ref mn])), (ml, .inl (cI, 8, .inl ln)), (mw, .inl (cI, 512, .inl wh)), (mb, .inl (cI, 48, .inl bi)), (ms, .inl (cZ, 48, .inl si)), (mn, .inl (cJ, 6, .inr (.inl nu)))]) hD hS hA [0, 1, 2, 3, 4, 5] rfl
      refine va_calli (va_runV (As := [.int (nI 0), .int (nI 1)]) (rest := []) ⟨hx, hb, hml, hown, hw⟩ (c_M_fails0 l dC dI _ cI cZ cJ hm ml mw mb ms mn ln wh bi si nu 1 (by decide)) (cwV 2 hw (gV kw_420 kw_422 kw_5 kw_16 kw_423) rfl rfl rfl (by decide +kernel) ⟨Nat.le_of_ble_eq_true rfl, Nat.le_of_ble_eq_true rfl⟩) (rw_preV (q0 := 0) hKc hPc hDc rfl rfl) rfl rfl hl.1 rfl (lv_room (Nat.le_of_ble_eq_true rfl)) dM_slice_27 ⟨Nat.zero_le _, Nat.zero_le _⟩) hS (fun q _ h => hFc q h) hFc (fun v27 u t H1 locs ht hvm e27 hB hz1 hk1 hS => ?_)
      obtain ⟨hP1, hK1, hD1⟩ := hB
      rw [ht] at hP1
      obtain ⟨hP, hD⟩ := va_join (wr := []) (w1 := [(hm, .inr (2, [.int (nI 0), .ref ml, .ref mw, .ref mb, .ref ms, .ref mn])), (ml, .inl (cI, 8, .inl ln)), (mw, .inl (cI, 512, .inl wh)), (mb, .inl (cI, 48, .inl bi)), (ms, .inl (cZ, 48, .inl si)), (mn, .inl (cJ, 6, .inr (.inl nu)))]) hP hD [0, 1, 2, 3, 4, 5] [] rfl rfl (by decide) (by decide) hk1 hFc hP1 hD1
      generalize H1 = H at hP hS ⊢
      have hP : va_P (dC, dI) cls3 [(hm, .inr (2, [.int (nI 0), .ref ml, .ref mw, .ref mb, .ref ms, .ref mn])), (ml, .inl (cI, 8, .inl ln)), (mw, .inl (cI, 512, .inl wh)), (mb, .inl (cI, 48, .inl bi)), (ms, .inl (cZ, 48, .inl si)), (mn, .inl (cJ, 6, .inr (.inl nu)))] H := hP
      have hD : va_D A [(hm, .inr (2, [.int (nI 0), .ref ml, .ref mw, .ref mb, .ref ms, .ref mn])), (ml, .inl (cI, 8, .inl ln)), (mw, .inl (cI, 512, .inl wh)), (mb, .inl (cI, 48, .inl bi)), (ms, .inl (cZ, 48, .inl si)), (mn, .inl (cJ, 6, .inr (.inl nu)))] := hD
      obtain rfl : v27 = nI 0 := e27
      refine lv_if_eq (tgt := 35) hx hb dM_slice_30 (by decide) (fun h30 => ?_) (fun h30 => ?_)
      · refine lv_aload_n hx hb dM_slice_35 rfl (lv_at hl 0 rfl) ?_
        refine lv_iload hx hb dM_slice_36 (lv_at hl 4 rfl) ?_
        refine lv_if_lt (tgt := 51) hx hb dM_slice_38 (by decide) (fun h38 => ?_) (fun h38 => ?_)
        · refine lv_iconst (v := nI 1) hx hb dM_slice_51 (by decide +kernel) ?_
          refine lv_goto (tgt := 56) hx hb dM_slice_52 (by decide) ?_
          refine lv_iconst (v := nI 2) hx hb dM_slice_56 (by decide +kernel) ?_
          have hPc := hP.sub (ws' := [(hm, .inr (2, [.int (nI 0), .ref ml, .ref mw, .ref mb, .ref ms, .ref mn])), (ml, .inl (cI, 8, .inl ln)), (mw, .inl (cI, 512, .inl wh)), (mb, .inl (cI, 48, .inl bi)), (ms, .inl (cZ, 48, .inl si)), (mn, .inl (cJ, 6, .inr (.inl nu)))]) [0, 1, 2, 3, 4, 5] rfl
          have hDc := hD.sub (ws' := [(hm, .inr (2, [.int (nI 0), .ref ml, .ref mw, .ref mb, .ref ms, .ref mn])), (ml, .inl (cI, 8, .inl ln)), (mw, .inl (cI, 512, .inl wh)), (mb, .inl (cI, 48, .inl bi)), (ms, .inl (cZ, 48, .inl si)), (mn, .inl (cJ, 6, .inr (.inl nu)))]) [0, 1, 2, 3, 4, 5] (by decide) rfl
          have hKc := hK.sub (tys' := [(cI, .int), (cZ, .boolean), (cJ, .long)]) [0, 1, 2] rfl
          have hFc := va_free (wc := [(hm, .inr (2, [.int (nI 0), .ref ml, .ref mw, .ref mb, .ref ms, .ref mn])), (ml, .inl (cI, 8, .inl ln)), (mw, .inl (cI, 512, .inl wh)), (mb, .inl (cI, 48, .inl bi)), (ms, .inl (cZ, 48, .inl si)), (mn, .inl (cJ, 6, .inr (.inl nu)))]) hD hS hA [0, 1, 2, 3, 4, 5] rfl
          refine va_calli (va_runV (As := [.int (nI 1), .int (nI 2)]) (rest := []) ⟨hx, hb, hml, hown, hw⟩ (c_M_fails1 l dC dI _ cI cZ cJ hm ml mw mb ms mn ln wh bi si nu 2 (by decide)) (cwV 2 hw (gV kw_420 kw_422 kw_5 kw_16 kw_423) rfl rfl rfl (by decide +kernel) ⟨Nat.le_of_ble_eq_true rfl, Nat.le_of_ble_eq_true rfl⟩) (rw_preV (q0 := 0) hKc hPc hDc rfl rfl) rfl rfl hl.1 rfl (lv_room (Nat.le_of_ble_eq_true rfl)) dM_slice_57 ⟨Nat.zero_le _, Nat.zero_le _⟩) hS (fun q _ h => hFc q h) hFc (fun v57 u t H1 locs ht hvm e57 hB hz1 hk1 hS => ?_)
          obtain ⟨hP1, hK1, hD1⟩ := hB
          rw [ht] at hP1
          obtain ⟨hP, hD⟩ := va_join (wr := []) (w1 := [(hm, .inr (2, [.int (nI 2), .ref ml, .ref mw, .ref mb, .ref ms, .ref mn])), (ml, .inl (cI, 8, .inl ln)), (mw, .inl (cI, 512, .inl wh)), (mb, .inl (cI, 48, .inl bi)), (ms, .inl (cZ, 48, .inl si)), (mn, .inl (cJ, 6, .inr (.inl nu)))]) hP hD [0, 1, 2, 3, 4, 5] [] rfl rfl (by decide) (by decide) hk1 hFc hP1 hD1
          generalize H1 = H at hP hS ⊢
          have hP : va_P (dC, dI) cls3 [(hm, .inr (2, [.int (nI 2), .ref ml, .ref mw, .ref mb, .ref ms, .ref mn])), (ml, .inl (cI, 8, .inl ln)), (mw, .inl (cI, 512, .inl wh)), (mb, .inl (cI, 48, .inl bi)), (ms, .inl (cZ, 48, .inl si)), (mn, .inl (cJ, 6, .inr (.inl nu)))] H := hP
          have hD : va_D A [(hm, .inr (2, [.int (nI 2), .ref ml, .ref mw, .ref mb, .ref ms, .ref mn])), (ml, .inl (cI, 8, .inl ln)), (mw, .inl (cI, 512, .inl wh)), (mb, .inl (cI, 48, .inl bi)), (ms, .inl (cZ, 48, .inl si)), (mn, .inl (cJ, 6, .inr (.inl nu)))] := hD
          obtain rfl : v57 = nI 1 := e57
          refine lv_if_ne (tgt := 94) hx hb dM_slice_60 (by decide) (fun h60 => ?_) (fun h60 => ?_)
          · refine lv_iconst (v := nI 0) hx hb dM_slice_94 (by decide +kernel) ?_
            have hcd : cdSlice ns its wss (nI f) (nI o) zh zl = 2 := by unfold cdSlice; first | (rw [if_neg (fun q9 => by rw [h12] at q9; exact absurd q9.1 (by decide))]) | (rw [if_neg (fun q9 => h18 q9.2)]) | (rw [if_pos ⟨thr_t hf ho hw1, h18⟩, if_pos (Or.inl h38)]) | (rw [if_pos ⟨thr_t hf ho hw1, h18⟩, if_pos (Or.inr (by rw [hff, hfo]; exact Int32.not_lt.mp h48))]) | (rw [if_pos ⟨thr_t hf ho hw1, h18⟩, if_neg (fun q9 => q9.elim h38 (fun q9 => absurd h48 (Int32.not_lt.mpr (by rw [hff, hfo] at q9; exact q9)))), hff, hfh, hfl, if_pos (by omega)]) | (rw [if_pos ⟨thr_t hf ho hw1, h18⟩, if_neg (fun q9 => q9.elim h38 (fun q9 => absurd h48 (Int32.not_lt.mpr (by rw [hff, hfo] at q9; exact q9)))), hff, hfo, hfh, hfl, if_neg (by omega), hany_p (by omega) hk (by omega) (Classical.byContradiction (fun q9 => h115 ((plR_lt hn e112).mpr q9)))]; rfl) | (rw [if_pos ⟨thr_t hf ho hw1, h18⟩, if_neg (fun q9 => q9.elim h38 (fun q9 => absurd h48 (Int32.not_lt.mpr (by rw [hff, hfo] at q9; exact q9)))), hff, hfo, hfh, hfl, if_neg (by omega), hnone]; rfl)
            exact W.iret (v := nI 0) hx hb hr (fun t ht hW => ⟨⟨_, (), rfl, (by intro h0; first | exact absurd (hcd.symm.trans h0) (by decide) | (rw [hff, hfh, hfl])), ln, wh, by rw [hcd]; exact hM, by rw [ht, hcd]; exact hP, va_K.moved hW.alike hK, by rw [hcd]; exact hD⟩, hS.F ht⟩) hS.2.2 dM_slice_95
          · exfalso
            first | exact h60 (by decide +kernel) | exact absurd h60 (by decide +kernel)
        · refine lv_iload_n hx hb dM_slice_41 rfl (lv_at hl 3 rfl) ?_
          refine lv_aload_n hx hb dM_slice_42 rfl (lv_at hl 0 rfl) ?_
          refine lv_iload_n hx hb dM_slice_43 rfl (lv_at hl 1 rfl) ?_
          refine lv_iload_n hx hb dM_slice_44 rfl (lv_at hl 2 rfl) ?_
          refine vp_callSi (W.runV (As := [.int (nI f), .int (nI o)]) (rest := [.int zh, .ref hm]) ⟨hx, hb, hml, hown, hw⟩ (c_M_many l dC dI cI cZ cJ hm ml mw mb ms mn (nI 0) ln wh bi si nu ns its wss sbs hM f o hf ho) (cwV 2 hw (gV kw_433 kw_435 kw_6 kw_16 kw_436) rfl rfl rfl (by decide +kernel) ⟨Nat.le_of_ble_eq_true rfl, Nat.le_of_ble_eq_true rfl⟩) (ro_preV (q0 := 0) hK hP rfl rfl) rfl rfl hl.1 rfl (lv_room (Nat.le_of_ble_eq_true rfl)) dM_slice_45 ⟨Nat.zero_le _, Nat.zero_le _⟩) (fun v45 e45 => ?_)
          obtain rfl : v45 = nI (wss f o) := e45
          refine lv_icmp_lt (tgt := 55) hx hb dM_slice_48 (by decide) (fun h48 => ?_) (fun h48 => ?_)
          · obtain ⟨hi, lo, hh, hlo, rfl, rfl⟩ := sl_of hwo h38 h18 h48
            have hfh : fi (nI hi) = hi := fi_nI (by omega)
            have hfl : fi (nI lo) = lo := fi_nI (by omega)
            refine lv_iconst (v := nI 0) hx hb dM_slice_55 (by decide +kernel) ?_
            refine lv_iconst (v := nI 2) hx hb dM_slice_56 (by decide +kernel) ?_
            have hPc := hP.sub (ws' := [(hm, .inr (2, [.int (nI 0), .ref ml, .ref mw, .ref mb, .ref ms, .ref mn])), (ml, .inl (cI, 8, .inl ln)), (mw, .inl (cI, 512, .inl wh)), (mb, .inl (cI, 48, .inl bi)), (ms, .inl (cZ, 48, .inl si)), (mn, .inl (cJ, 6, .inr (.inl nu)))]) [0, 1, 2, 3, 4, 5] rfl
            have hDc := hD.sub (ws' := [(hm, .inr (2, [.int (nI 0), .ref ml, .ref mw, .ref mb, .ref ms, .ref mn])), (ml, .inl (cI, 8, .inl ln)), (mw, .inl (cI, 512, .inl wh)), (mb, .inl (cI, 48, .inl bi)), (ms, .inl (cZ, 48, .inl si)), (mn, .inl (cJ, 6, .inr (.inl nu)))]) [0, 1, 2, 3, 4, 5] (by decide) rfl
            have hKc := hK.sub (tys' := [(cI, .int), (cZ, .boolean), (cJ, .long)]) [0, 1, 2] rfl
            have hFc := va_free (wc := [(hm, .inr (2, [.int (nI 0), .ref ml, .ref mw, .ref mb, .ref ms, .ref mn])), (ml, .inl (cI, 8, .inl ln)), (mw, .inl (cI, 512, .inl wh)), (mb, .inl (cI, 48, .inl bi)), (ms, .inl (cZ, 48, .inl si)), (mn, .inl (cJ, 6, .inr (.inl nu)))]) hD hS hA [0, 1, 2, 3, 4, 5] rfl
            refine va_calli (va_runV (As := [.int (nI 0), .int (nI 2)]) (rest := []) ⟨hx, hb, hml, hown, hw⟩ (c_M_fails0 l dC dI _ cI cZ cJ hm ml mw mb ms mn ln wh bi si nu 2 (by decide)) (cwV 2 hw (gV kw_420 kw_422 kw_5 kw_16 kw_423) rfl rfl rfl (by decide +kernel) ⟨Nat.le_of_ble_eq_true rfl, Nat.le_of_ble_eq_true rfl⟩) (rw_preV (q0 := 0) hKc hPc hDc rfl rfl) rfl rfl hl.1 rfl (lv_room (Nat.le_of_ble_eq_true rfl)) dM_slice_57 ⟨Nat.zero_le _, Nat.zero_le _⟩) hS (fun q _ h => hFc q h) hFc (fun v57 u t H1 locs ht hvm e57 hB hz1 hk1 hS => ?_)
            obtain ⟨hP1, hK1, hD1⟩ := hB
            rw [ht] at hP1
            obtain ⟨hP, hD⟩ := va_join (wr := []) (w1 := [(hm, .inr (2, [.int (nI 0), .ref ml, .ref mw, .ref mb, .ref ms, .ref mn])), (ml, .inl (cI, 8, .inl ln)), (mw, .inl (cI, 512, .inl wh)), (mb, .inl (cI, 48, .inl bi)), (ms, .inl (cZ, 48, .inl si)), (mn, .inl (cJ, 6, .inr (.inl nu)))]) hP hD [0, 1, 2, 3, 4, 5] [] rfl rfl (by decide) (by decide) hk1 hFc hP1 hD1
            generalize H1 = H at hP hS ⊢
            have hP : va_P (dC, dI) cls3 [(hm, .inr (2, [.int (nI 0), .ref ml, .ref mw, .ref mb, .ref ms, .ref mn])), (ml, .inl (cI, 8, .inl ln)), (mw, .inl (cI, 512, .inl wh)), (mb, .inl (cI, 48, .inl bi)), (ms, .inl (cZ, 48, .inl si)), (mn, .inl (cJ, 6, .inr (.inl nu)))] H := hP
            have hD : va_D A [(hm, .inr (2, [.int (nI 0), .ref ml, .ref mw, .ref mb, .ref ms, .ref mn])), (ml, .inl (cI, 8, .inl ln)), (mw, .inl (cI, 512, .inl wh)), (mb, .inl (cI, 48, .inl bi)), (ms, .inl (cZ, 48, .inl si)), (mn, .inl (cJ, 6, .inr (.inl nu)))] := hD
            obtain rfl : v57 = nI 0 := e57
            refine lv_if_ne (tgt := 94) hx hb dM_slice_60 (by decide) (fun h60 => ?_) (fun h60 => ?_)
            · exfalso
              first | exact h60 (by decide +kernel) | exact absurd h60 (by decide +kernel)
            · refine lv_aload_n hx hb dM_slice_63 rfl (lv_at hl 0 rfl) ?_
              refine lv_aload_n hx hb dM_slice_64 rfl (lv_at hl 0 rfl) ?_
              refine va_get (D := (dC, dI)) (ci := 2) (v := .ref ml) (C := RM) (T := TM) (N := 6) hx hb hw inM hown hK hP 0 rfl rfl 1 (by decide) (hw _ kw_387) (fun _ h9 => h9) rfl dM_slice_65 ?_
              refine lv_iload_n hx hb dM_slice_68 rfl (lv_at hl 1 rfl) ?_
              refine va_iald hx hb hK hP 1 0 rfl rfl (vp_in_nI (by omega) (by decide)) dM_slice_69 ?_
              refine lv_topi (fun v69 e69 => ?_)
              rw [nI_clamp (by omega)] at e69
              obtain rfl : v69 = nI (ns f) := e69.trans (hM f hf).2.1
              refine lv_iload_n hx hb dM_slice_70 rfl (lv_at hl 3 rfl) ?_
              refine lv_iadd hx hb dM_slice_71 ?_
              refine lv_topi (fun v71 e71 => ?_)
              obtain rfl : v71 = nI (ns f + hi) := e71.trans (nI_add _ _)
              refine lv_iload hx hb dM_slice_72 (lv_at hl 4 rfl) ?_
              refine lv_isub hx hb dM_slice_74 ?_
              refine lv_topi (fun v74 e74 => ?_)
              obtain rfl : v74 = nI (ns f + hi - lo) := e74.trans (pk_sub (by omega))
              refine lv_iconst (v := nI 1) hx hb dM_slice_75 (by decide +kernel) ?_
              refine lv_iadd hx hb dM_slice_76 ?_
              refine lv_topi (fun v76 e76 => ?_)
              obtain rfl : v76 = nI (ns f + hi - lo + 1) := e76.trans (nI_add _ _)
              refine lv_bipush (v := nI 64) hx hb dM_slice_77 (by decide +kernel) ?_
              refine lv_icmp_le (tgt := 86) hx hb dM_slice_79 (by decide) (fun h79 => ?_) (fun h79 => ?_)
              · rw [nI_leI (by omega) (by omega)] at h79
                refine lv_iconst (v := nI 0) hx hb dM_slice_86 (by decide +kernel) ?_
                refine lv_iconst (v := nI 2) hx hb dM_slice_87 (by decide +kernel) ?_
                have hPc := hP.sub (ws' := [(hm, .inr (2, [.int (nI 0), .ref ml, .ref mw, .ref mb, .ref ms, .ref mn])), (ml, .inl (cI, 8, .inl ln)), (mw, .inl (cI, 512, .inl wh)), (mb, .inl (cI, 48, .inl bi)), (ms, .inl (cZ, 48, .inl si)), (mn, .inl (cJ, 6, .inr (.inl nu)))]) [0, 1, 2, 3, 4, 5] rfl
                have hDc := hD.sub (ws' := [(hm, .inr (2, [.int (nI 0), .ref ml, .ref mw, .ref mb, .ref ms, .ref mn])), (ml, .inl (cI, 8, .inl ln)), (mw, .inl (cI, 512, .inl wh)), (mb, .inl (cI, 48, .inl bi)), (ms, .inl (cZ, 48, .inl si)), (mn, .inl (cJ, 6, .inr (.inl nu)))]) [0, 1, 2, 3, 4, 5] (by decide) rfl
                have hKc := hK.sub (tys' := [(cI, .int), (cZ, .boolean), (cJ, .long)]) [0, 1, 2] rfl
                have hFc := va_free (wc := [(hm, .inr (2, [.int (nI 0), .ref ml, .ref mw, .ref mb, .ref ms, .ref mn])), (ml, .inl (cI, 8, .inl ln)), (mw, .inl (cI, 512, .inl wh)), (mb, .inl (cI, 48, .inl bi)), (ms, .inl (cZ, 48, .inl si)), (mn, .inl (cJ, 6, .inr (.inl nu)))]) hD hS hA [0, 1, 2, 3, 4, 5] rfl
                refine va_calli (va_runV (As := [.int (nI 0), .int (nI 2)]) (rest := []) ⟨hx, hb, hml, hown, hw⟩ (c_M_fails0 l dC dI _ cI cZ cJ hm ml mw mb ms mn ln wh bi si nu 2 (by decide)) (cwV 2 hw (gV kw_420 kw_422 kw_5 kw_16 kw_423) rfl rfl rfl (by decide +kernel) ⟨Nat.le_of_ble_eq_true rfl, Nat.le_of_ble_eq_true rfl⟩) (rw_preV (q0 := 0) hKc hPc hDc rfl rfl) rfl rfl hl.1 rfl (lv_room (Nat.le_of_ble_eq_true rfl)) dM_slice_88 ⟨Nat.zero_le _, Nat.zero_le _⟩) hS (fun q _ h => hFc q h) hFc (fun v88 u t H1 locs ht hvm e88 hB hz1 hk1 hS => ?_)
                obtain ⟨hP1, hK1, hD1⟩ := hB
                rw [ht] at hP1
                obtain ⟨hP, hD⟩ := va_join (wr := []) (w1 := [(hm, .inr (2, [.int (nI 0), .ref ml, .ref mw, .ref mb, .ref ms, .ref mn])), (ml, .inl (cI, 8, .inl ln)), (mw, .inl (cI, 512, .inl wh)), (mb, .inl (cI, 48, .inl bi)), (ms, .inl (cZ, 48, .inl si)), (mn, .inl (cJ, 6, .inr (.inl nu)))]) hP hD [0, 1, 2, 3, 4, 5] [] rfl rfl (by decide) (by decide) hk1 hFc hP1 hD1
                generalize H1 = H at hP hS ⊢
                have hP : va_P (dC, dI) cls3 [(hm, .inr (2, [.int (nI 0), .ref ml, .ref mw, .ref mb, .ref ms, .ref mn])), (ml, .inl (cI, 8, .inl ln)), (mw, .inl (cI, 512, .inl wh)), (mb, .inl (cI, 48, .inl bi)), (ms, .inl (cZ, 48, .inl si)), (mn, .inl (cJ, 6, .inr (.inl nu)))] H := hP
                have hD : va_D A [(hm, .inr (2, [.int (nI 0), .ref ml, .ref mw, .ref mb, .ref ms, .ref mn])), (ml, .inl (cI, 8, .inl ln)), (mw, .inl (cI, 512, .inl wh)), (mb, .inl (cI, 48, .inl bi)), (ms, .inl (cZ, 48, .inl si)), (mn, .inl (cJ, 6, .inr (.inl nu)))] := hD
                obtain rfl : v88 = nI 0 := e88
                refine lv_if_eq (tgt := 96) hx hb dM_slice_91 (by decide) (fun h91 => ?_) (fun h91 => ?_)
                · refine lv_iload hx hb dM_slice_96 (lv_at hl 4 rfl) ?_
                  refine lv_istore hx hb dM_slice_98 hl (by decide) rfl (fun ls hl => ?_)
                  have hl : lv_has ls 6 [(5, .int (nI lo)), (0, .ref hm), (1, .int (nI f)), (2, .int (nI o)), (3, .int (nI hi)), (4, .int (nI lo))] := hl
                  refine (?_ : ∀ (kk : Nat) (k : Nat) (H : Heap) (locs : List Loc) (ls : Array Slot), kk = hi + 1 - k → lv_has ls 6 [(5, .int (nI k)), (0, .ref hm), (1, .int (nI f)), (2, .int (nI o)), (3, .int (nI hi)), (4, .int (nI lo))] → (lo ≤ k) → (k ≤ hi + 1) → (∀ q, lo ≤ q → q < k → ¬ cw_has (its f) (2 + 64 * o + q) (ns f) = true) → va_P (dC, dI) cls3 [(hm, .inr (2, [.int (nI 0), .ref ml, .ref mw, .ref mb, .ref ms, .ref mn])), (ml, .inl (cI, 8, .inl ln)), (mw, .inl (cI, 512, .inl wh)), (mb, .inl (cI, 48, .inl bi)), (ms, .inl (cZ, 48, .inl si)), (mn, .inl (cJ, 6, .inr (.inl nu)))] H → va_D A [(hm, .inr (2, [.int (nI 0), .ref ml, .ref mw, .ref mb, .ref ms, .ref mn])), (ml, .inl (cI, 8, .inl ln)), (mw, .inl (cI, 512, .inl wh)), (mb, .inl (cI, 48, .inl bi)), (ms, .inl (cZ, 48, .inl si)), (mn, .inl (cJ, 6, .inr (.inl nu)))] → va_S A s.heap H locs → W p l e _ s m _ below meth c H locs _ _ _ (F0 m 100 ls [])) _ lo _ _ ls rfl (lv_sub hl [0, 1, 2, 3, 4, 5] rfl) (by omega) (by omega) (fun q _ _ => by omega) hP hD hS
                  intro kk
                  induction kk using Nat.strongRecOn with
                  | ind kk100 ih100 =>
                    intro k H locs ls hkk100 hl hk hk1 hq hP hD hS
                    refine lv_iload hx hb dM_slice_100 (lv_at hl 0 rfl) ?_
                    refine lv_iload_n hx hb dM_slice_102 rfl (lv_at hl 4 rfl) ?_
                    refine lv_icmp_gt (tgt := 138) hx hb dM_slice_103 (by decide) (fun h103 => ?_) (fun h103 => ?_)
                    · rw [nI_ltI (by omega) (by omega)] at h103
                      have hnone := hany_q (it := its f) (n := ns f) (o := o) (hi := hi) (lo := lo) (fun q h1 h2 => hq q h1 (by omega))
                      have hno := hany_no hnone (by omega)
                      refine lv_iload_n hx hb dM_slice_138 rfl (lv_at hl 4 rfl) ?_
                      refine lv_istore hx hb dM_slice_139 hl (by decide) rfl (fun ls hl => ?_)
                      have hl : lv_has ls 6 [(5, .int (nI hi)), (0, .ref hm), (1, .int (nI f)), (2, .int (nI o)), (3, .int (nI hi)), (4, .int (nI lo))] := hl
                      refine (?_ : ∀ (kk : Nat) (k2 : Nat) (ln2 : Nat → Int32) (wh2 : Nat → Int32) (H : Heap) (locs : List Loc) (ls : Array Slot), kk = k2 → lv_has ls 6 [(5, .int (nI k2 - nI 1)), (0, .ref hm), (1, .int (nI f)), (2, .int (nI o)), (3, .int (nI hi)), (4, .int (nI lo))] → (k2 ≤ hi + 1) → (lo ≤ k2) → (mR (va_up ns f (ns f + (hi + 1 - k2))) (va_up its f (itS (its f) (ns f) o hi)) wss sbs ln2 wh2 bi si) → va_P (dC, dI) cls3 [(hm, .inr (2, [.int (nI 0), .ref ml, .ref mw, .ref mb, .ref ms, .ref mn])), (ml, .inl (cI, 8, .inl ln2)), (mw, .inl (cI, 512, .inl wh2)), (mb, .inl (cI, 48, .inl bi)), (ms, .inl (cZ, 48, .inl si)), (mn, .inl (cJ, 6, .inr (.inl nu)))] H → va_D A [(hm, .inr (2, [.int (nI 0), .ref ml, .ref mw, .ref mb, .ref ms, .ref mn])), (ml, .inl (cI, 8, .inl ln2)), (mw, .inl (cI, 512, .inl wh2)), (mb, .inl (cI, 48, .inl bi)), (ms, .inl (cZ, 48, .inl si)), (mn, .inl (cJ, 6, .inr (.inl nu)))] → va_S A s.heap H locs → W p l e _ s m _ below meth c H locs _ _ _ (F0 m 141 ls [])) _ (hi + 1) ln wh _ _ ls rfl (cw_lvx (lv_sub (l' := [(5, .int (nI hi)), (0, .ref hm), (1, .int (nI f)), (2, .int (nI o)), (3, .int (nI hi)), (4, .int (nI lo))]) hl [0, 1, 2, 3, 4, 5] rfl) (by rw [show nI (hi + 1) - nI 1 = nI hi from nI_pred hi])) (by omega) (by omega) (by rw [Nat.sub_self, Nat.add_zero]; exact mR_st hM (fun j hj => itS_lt hj)) hP hD hS
                      intro kk
                      induction kk using Nat.strongRecOn with
                      | ind kk141 ih141 =>
                        intro k2 ln2 wh2 H locs ls hkk141 hl hm1 hm2 hR hP hD hS
                        refine lv_iload hx hb dM_slice_141 (lv_at hl 0 rfl) ?_
                        refine lv_iload hx hb dM_slice_143 (lv_at hl 5 rfl) ?_
                        refine lv_icmp_lt (tgt := 184) hx hb dM_slice_145 (by decide) (fun h145 => ?_) (fun h145 => ?_)
                        · rw [dn_lt (by omega) (by omega)] at h145
                          have hkl : k2 = lo := by omega
                          rw [hkl] at hR
                          refine lv_aload_n hx hb dM_slice_184 rfl (lv_at hl 1 rfl) ?_
                          refine va_get (D := (dC, dI)) (ci := 2) (v := .ref ml) (C := RM) (T := TM) (N := 6) hx hb hw inM hown hK hP 0 rfl rfl 1 (by decide) (hw _ kw_387) (fun _ h9 => h9) rfl dM_slice_185 ?_
                          refine lv_iload_n hx hb dM_slice_188 rfl (lv_at hl 2 rfl) ?_
                          refine va_iald hx hb hK hP 1 0 rfl rfl (vp_in_nI (by omega) (by decide)) dM_slice_189 ?_
                          refine lv_topi (fun v189 e189 => ?_)
                          rw [nI_clamp (by omega)] at e189
                          obtain rfl : v189 = nI (ns f + (hi + 1 - lo)) := e189.trans (mR_ln hR hf)
                          have hcd : cdSlice ns its wss (nI f) (nI o) (nI hi) (nI lo) = 0 := by unfold cdSlice; first | (rw [if_neg (fun q9 => by rw [h12] at q9; exact absurd q9.1 (by decide))]) | (rw [if_neg (fun q9 => h18 q9.2)]) | (rw [if_pos ⟨thr_t hf ho hw1, h18⟩, if_pos (Or.inl h38)]) | (rw [if_pos ⟨thr_t hf ho hw1, h18⟩, if_pos (Or.inr (by rw [hff, hfo]; exact Int32.not_lt.mp h48))]) | (rw [if_pos ⟨thr_t hf ho hw1, h18⟩, if_neg (fun q9 => q9.elim h38 (fun q9 => absurd h48 (Int32.not_lt.mpr (by rw [hff, hfo] at q9; exact q9)))), hff, hfh, hfl, if_pos (by omega)]) | (rw [if_pos ⟨thr_t hf ho hw1, h18⟩, if_neg (fun q9 => q9.elim h38 (fun q9 => absurd h48 (Int32.not_lt.mpr (by rw [hff, hfo] at q9; exact q9)))), hff, hfo, hfh, hfl, if_neg (by omega), hany_p (by omega) hk (by omega) (Classical.byContradiction (fun q9 => h115 ((plR_lt hn e112).mpr q9)))]; rfl) | (rw [if_pos ⟨thr_t hf ho hw1, h18⟩, if_neg (fun q9 => q9.elim h38 (fun q9 => absurd h48 (Int32.not_lt.mpr (by rw [hff, hfo] at q9; exact q9)))), hff, hfo, hfh, hfl, if_neg (by omega), hnone]; rfl)
                          exact W.iret (v := nI (ns f + (hi + 1 - lo))) hx hb hr (fun t ht hW => ⟨⟨_, (), rfl, (by intro h0; first | exact absurd (hcd.symm.trans h0) (by decide) | (rw [hff, hfh, hfl])), ln2, wh2, by rw [hcd, hff, hfo, hfh, hfl]; exact hR, by rw [ht, hcd]; exact hP, va_K.moved hW.alike hK, by rw [hcd]; exact hD⟩, hS.F ht⟩) hS.2.2 dM_slice_190
                        · rw [dn_lt (by omega) (by omega)] at h145
                          have hnn : ns f + (hi + 1 - (k2 - 1)) = ns f + (hi + 1 - k2) + 1 := by omega
                          have hok1 : cw_ok (itS (its f) (ns f) o hi) (ns f + (hi + 1 - k2) + 1) (wss f) := itS_ok hok ho hh hlo hno (by omega) (by omega) (by omega)
                          have hnx : itS (its f) (ns f) o hi (ns f + (hi + 1 - k2)) = 2 + 64 * o + (k2 - 1) := by rw [itS_ge (by omega)]; omega
                          refine lv_aload_n hx hb dM_slice_148 rfl (lv_at hl 1 rfl) ?_
                          refine va_get (D := (dC, dI)) (ci := 2) (v := .ref mw) (C := RM) (T := TM) (N := 6) hx hb hw inM hown hK hP 0 rfl rfl 2 (by decide) (hw _ kw_388) (fun _ h9 => h9) rfl dM_slice_149 ?_
                          refine lv_bipush (v := nI 64) hx hb dM_slice_152 (by decide +kernel) ?_
                          refine lv_iload_n hx hb dM_slice_154 rfl (lv_at hl 2 rfl) ?_
                          refine lv_imul hx hb dM_slice_155 ?_
                          refine lv_topi (fun v155 e155 => ?_)
                          obtain rfl : v155 = nI (64 * f) := e155.trans (pk_mul _ _)
                          refine lv_aload_n hx hb dM_slice_156 rfl (lv_at hl 1 rfl) ?_
                          refine va_get (D := (dC, dI)) (ci := 2) (v := .ref ml) (C := RM) (T := TM) (N := 6) hx hb hw inM hown hK hP 0 rfl rfl 1 (by decide) (hw _ kw_387) (fun _ h9 => h9) rfl dM_slice_157 ?_
                          refine lv_iload_n hx hb dM_slice_160 rfl (lv_at hl 2 rfl) ?_
                          refine lv_dup2_11 hx hb dM_slice_161 rfl rfl ?_
                          refine va_iald hx hb hK hP 1 0 rfl rfl (vp_in_nI (by omega) (by decide)) dM_slice_162 ?_
                          refine lv_topi (fun v162 e162 => ?_)
                          rw [nI_clamp (by omega)] at e162
                          obtain rfl : v162 = nI (ns f + (hi + 1 - k2)) := e162.trans (mR_ln hR hf)
                          refine lv_dup_x2 hx hb dM_slice_163 rfl rfl rfl ?_
                          refine lv_iconst (v := nI 1) hx hb dM_slice_164 (by decide +kernel) ?_
                          refine lv_iadd hx hb dM_slice_165 ?_
                          refine lv_topi (fun v165 e165 => ?_)
                          obtain rfl : v165 = nI (ns f + (hi + 1 - k2) + 1) := e165.trans (nI_add _ _)
                          refine va_iast hx hb hK hP hD hS 1 0 rfl rfl (vp_in_nI (by omega) (by decide)) dM_slice_166 (fun H locs hP hD hS => ?_)
                          rw [show (nI f).toNatClampNeg = f from nI_clamp (by omega)] at hP hD
                          have hP : va_P (dC, dI) cls3 [(hm, .inr (2, [.int (nI 0), .ref ml, .ref mw, .ref mb, .ref ms, .ref mn])), (ml, .inl (cI, 8, .inl (upd ln2 f (nI (ns f + (hi + 1 - k2) + 1))))), (mw, .inl (cI, 512, .inl wh2)), (mb, .inl (cI, 48, .inl bi)), (ms, .inl (cZ, 48, .inl si)), (mn, .inl (cJ, 6, .inr (.inl nu)))] H := hP
                          have hD : va_D A [(hm, .inr (2, [.int (nI 0), .ref ml, .ref mw, .ref mb, .ref ms, .ref mn])), (ml, .inl (cI, 8, .inl (upd ln2 f (nI (ns f + (hi + 1 - k2) + 1))))), (mw, .inl (cI, 512, .inl wh2)), (mb, .inl (cI, 48, .inl bi)), (ms, .inl (cZ, 48, .inl si)), (mn, .inl (cJ, 6, .inr (.inl nu)))] := hD
                          refine lv_iadd hx hb dM_slice_167 ?_
                          refine lv_topi (fun v167 e167 => ?_)
                          obtain rfl : v167 = nI (64 * f + (ns f + (hi + 1 - k2))) := e167.trans (nI_add _ _)
                          refine lv_iconst (v := nI 2) hx hb dM_slice_168 (by decide +kernel) ?_
                          refine lv_bipush (v := nI 64) hx hb dM_slice_169 (by decide +kernel) ?_
                          refine lv_iload_n hx hb dM_slice_171 rfl (lv_at hl 3 rfl) ?_
                          refine lv_imul hx hb dM_slice_172 ?_
                          refine lv_topi (fun v172 e172 => ?_)
                          obtain rfl : v172 = nI (64 * o) := e172.trans (pk_mul _ _)
                          refine lv_iadd hx hb dM_slice_173 ?_
                          refine lv_topi (fun v173 e173 => ?_)
                          obtain rfl : v173 = nI (2 + 64 * o) := e173.trans (nI_add _ _)
                          refine lv_iload hx hb dM_slice_174 (lv_at hl 0 rfl) ?_
                          refine lv_topi (fun w174 ew174 => ?_)
                          obtain rfl : w174 = nI (k2 - 1) := ew174.trans (cw_m1 (by omega))
                          refine lv_iadd hx hb dM_slice_176 ?_
                          refine lv_topi (fun v176 e176 => ?_)
                          obtain rfl : v176 = nI (itS (its f) (ns f) o hi (ns f + (hi + 1 - k2))) := (e176.trans (nI_add _ _)).trans (by rw [hnx])
                          refine va_iast hx hb hK hP hD hS 2 0 rfl rfl (vp_in_nI (by omega) (by decide)) dM_slice_177 (fun H locs hP hD hS => ?_)
                          rw [show (nI (64 * f + (ns f + (hi + 1 - k2)))).toNatClampNeg = (64 * f + (ns f + (hi + 1 - k2))) from nI_clamp (by omega)] at hP hD
                          have hP : va_P (dC, dI) cls3 [(hm, .inr (2, [.int (nI 0), .ref ml, .ref mw, .ref mb, .ref ms, .ref mn])), (ml, .inl (cI, 8, .inl (upd ln2 f (nI (ns f + (hi + 1 - k2) + 1))))), (mw, .inl (cI, 512, .inl (upd wh2 (64 * f + (ns f + (hi + 1 - k2))) (nI (itS (its f) (ns f) o hi (ns f + (hi + 1 - k2))))))), (mb, .inl (cI, 48, .inl bi)), (ms, .inl (cZ, 48, .inl si)), (mn, .inl (cJ, 6, .inr (.inl nu)))] H := hP
                          have hD : va_D A [(hm, .inr (2, [.int (nI 0), .ref ml, .ref mw, .ref mb, .ref ms, .ref mn])), (ml, .inl (cI, 8, .inl (upd ln2 f (nI (ns f + (hi + 1 - k2) + 1))))), (mw, .inl (cI, 512, .inl (upd wh2 (64 * f + (ns f + (hi + 1 - k2))) (nI (itS (its f) (ns f) o hi (ns f + (hi + 1 - k2))))))), (mb, .inl (cI, 48, .inl bi)), (ms, .inl (cZ, 48, .inl si)), (mn, .inl (cJ, 6, .inr (.inl nu)))] := hD
                          refine lv_iinc (k := 0) (v := nI (k2 - 1) - nI 1) hx hb dM_slice_178 hl rfl (cw_dec (by omega)) (by decide) rfl (fun ls hl => ?_)
                          have hl : lv_has ls 6 [(5, .int (nI (k2 - 1) - nI 1)), (0, .ref hm), (1, .int (nI f)), (2, .int (nI o)), (3, .int (nI hi)), (4, .int (nI lo))] := hl
                          refine lv_goto (tgt := 141) hx hb dM_slice_181 (by decide) ?_
                          exact ih141 _ (by omega) (k2 - 1) (upd ln2 f (nI (ns f + (hi + 1 - k2) + 1))) (upd wh2 (64 * f + (ns f + (hi + 1 - k2))) (nI (itS (its f) (ns f) o hi (ns f + (hi + 1 - k2))))) _ _ ls rfl (lv_sub (l' := [(5, .int (nI (k2 - 1) - nI 1)), (0, .ref hm), (1, .int (nI f)), (2, .int (nI o)), (3, .int (nI hi)), (4, .int (nI lo))]) hl [0, 1, 2, 3, 4, 5] rfl) (by omega) (by omega) (by rw [hnn]; exact mR_app hf hR hok1) hP hD hS
                    · rw [nI_ltI (by omega) (by omega)] at h103
                      refine lv_aload_n hx hb dM_slice_106 rfl (lv_at hl 1 rfl) ?_
                      refine lv_aload_n hx hb dM_slice_107 rfl (lv_at hl 1 rfl) ?_
                      refine lv_iload_n hx hb dM_slice_108 rfl (lv_at hl 2 rfl) ?_
                      refine lv_iload_n hx hb dM_slice_109 rfl (lv_at hl 3 rfl) ?_
                      refine lv_iload hx hb dM_slice_110 (lv_at hl 0 rfl) ?_
                      refine vp_callSi (W.runV (As := [.int (nI f), .int (nI o), .int (nI k)]) (rest := [.ref hm]) ⟨hx, hb, hml, hown, hw⟩ (c_M_place l dC dI cI cZ cJ hm ml mw mb ms mn (nI 0) ln wh bi si nu ns its wss sbs hM f o k hf ho (by omega)) (cwV 3 hw (gV kw_452 kw_454 kw_8 kw_16 kw_455) rfl rfl rfl (by decide +kernel) ⟨Nat.le_of_ble_eq_true rfl, Nat.le_of_ble_eq_true rfl⟩) (ro_preV (q0 := 0) hK hP rfl rfl) rfl rfl hl.1 rfl (lv_room (Nat.le_of_ble_eq_true rfl)) dM_slice_112 ⟨Nat.zero_le _, Nat.zero_le _⟩) (fun v112 e112 => ?_)
                      refine lv_if_lt (tgt := 122) hx hb dM_slice_115 (by decide) (fun h115 => ?_) (fun h115 => ?_)
                      · refine lv_iconst (v := nI 0) hx hb dM_slice_122 (by decide +kernel) ?_
                        refine lv_iconst (v := nI 3) hx hb dM_slice_123 (by decide +kernel) ?_
                        have hPc := hP.sub (ws' := [(hm, .inr (2, [.int (nI 0), .ref ml, .ref mw, .ref mb, .ref ms, .ref mn])), (ml, .inl (cI, 8, .inl ln)), (mw, .inl (cI, 512, .inl wh)), (mb, .inl (cI, 48, .inl bi)), (ms, .inl (cZ, 48, .inl si)), (mn, .inl (cJ, 6, .inr (.inl nu)))]) [0, 1, 2, 3, 4, 5] rfl
                        have hDc := hD.sub (ws' := [(hm, .inr (2, [.int (nI 0), .ref ml, .ref mw, .ref mb, .ref ms, .ref mn])), (ml, .inl (cI, 8, .inl ln)), (mw, .inl (cI, 512, .inl wh)), (mb, .inl (cI, 48, .inl bi)), (ms, .inl (cZ, 48, .inl si)), (mn, .inl (cJ, 6, .inr (.inl nu)))]) [0, 1, 2, 3, 4, 5] (by decide) rfl
                        have hKc := hK.sub (tys' := [(cI, .int), (cZ, .boolean), (cJ, .long)]) [0, 1, 2] rfl
                        have hFc := va_free (wc := [(hm, .inr (2, [.int (nI 0), .ref ml, .ref mw, .ref mb, .ref ms, .ref mn])), (ml, .inl (cI, 8, .inl ln)), (mw, .inl (cI, 512, .inl wh)), (mb, .inl (cI, 48, .inl bi)), (ms, .inl (cZ, 48, .inl si)), (mn, .inl (cJ, 6, .inr (.inl nu)))]) hD hS hA [0, 1, 2, 3, 4, 5] rfl
                        refine va_calli (va_runV (As := [.int (nI 0), .int (nI 3)]) (rest := []) ⟨hx, hb, hml, hown, hw⟩ (c_M_fails0 l dC dI _ cI cZ cJ hm ml mw mb ms mn ln wh bi si nu 3 (by decide)) (cwV 2 hw (gV kw_420 kw_422 kw_5 kw_16 kw_423) rfl rfl rfl (by decide +kernel) ⟨Nat.le_of_ble_eq_true rfl, Nat.le_of_ble_eq_true rfl⟩) (rw_preV (q0 := 0) hKc hPc hDc rfl rfl) rfl rfl hl.1 rfl (lv_room (Nat.le_of_ble_eq_true rfl)) dM_slice_124 ⟨Nat.zero_le _, Nat.zero_le _⟩) hS (fun q _ h => hFc q h) hFc (fun v124 u t H1 locs ht hvm e124 hB hz1 hk1 hS => ?_)
                        obtain ⟨hP1, hK1, hD1⟩ := hB
                        rw [ht] at hP1
                        obtain ⟨hP, hD⟩ := va_join (wr := []) (w1 := [(hm, .inr (2, [.int (nI 0), .ref ml, .ref mw, .ref mb, .ref ms, .ref mn])), (ml, .inl (cI, 8, .inl ln)), (mw, .inl (cI, 512, .inl wh)), (mb, .inl (cI, 48, .inl bi)), (ms, .inl (cZ, 48, .inl si)), (mn, .inl (cJ, 6, .inr (.inl nu)))]) hP hD [0, 1, 2, 3, 4, 5] [] rfl rfl (by decide) (by decide) hk1 hFc hP1 hD1
                        generalize H1 = H at hP hS ⊢
                        have hP : va_P (dC, dI) cls3 [(hm, .inr (2, [.int (nI 0), .ref ml, .ref mw, .ref mb, .ref ms, .ref mn])), (ml, .inl (cI, 8, .inl ln)), (mw, .inl (cI, 512, .inl wh)), (mb, .inl (cI, 48, .inl bi)), (ms, .inl (cZ, 48, .inl si)), (mn, .inl (cJ, 6, .inr (.inl nu)))] H := hP
                        have hD : va_D A [(hm, .inr (2, [.int (nI 0), .ref ml, .ref mw, .ref mb, .ref ms, .ref mn])), (ml, .inl (cI, 8, .inl ln)), (mw, .inl (cI, 512, .inl wh)), (mb, .inl (cI, 48, .inl bi)), (ms, .inl (cZ, 48, .inl si)), (mn, .inl (cJ, 6, .inr (.inl nu)))] := hD
                        obtain rfl : v124 = nI 0 := e124
                        refine lv_if_eq (tgt := 132) hx hb dM_slice_127 (by decide) (fun h127 => ?_) (fun h127 => ?_)
                        · refine lv_iinc (k := 0) (v := nI (k + 1)) hx hb dM_slice_132 hl rfl (cw_inc _) (by decide) rfl (fun ls hl => ?_)
                          have hl : lv_has ls 6 [(5, .int (nI (k + 1))), (0, .ref hm), (1, .int (nI f)), (2, .int (nI o)), (3, .int (nI hi)), (4, .int (nI lo))] := hl
                          refine lv_goto (tgt := 100) hx hb dM_slice_135 (by decide) ?_
                          exact ih100 _ (by omega) (k + 1) _ _ ls rfl (lv_sub (l' := [(5, .int (nI (k + 1))), (0, .ref hm), (1, .int (nI f)), (2, .int (nI o)), (3, .int (nI hi)), (4, .int (nI lo))]) hl [0, 1, 2, 3, 4, 5] rfl) (by omega) (by omega) (cw_ext hq ((plR_lt hn e112).mp h115)) hP hD hS
                        · exfalso
                          first | exact h127 (by decide +kernel) | exact absurd h127 (by decide +kernel)
                      · refine lv_iconst (v := nI 1) hx hb dM_slice_118 (by decide +kernel) ?_
                        refine lv_goto (tgt := 123) hx hb dM_slice_119 (by decide) ?_
                        refine lv_iconst (v := nI 3) hx hb dM_slice_123 (by decide +kernel) ?_
                        have hPc := hP.sub (ws' := [(hm, .inr (2, [.int (nI 0), .ref ml, .ref mw, .ref mb, .ref ms, .ref mn])), (ml, .inl (cI, 8, .inl ln)), (mw, .inl (cI, 512, .inl wh)), (mb, .inl (cI, 48, .inl bi)), (ms, .inl (cZ, 48, .inl si)), (mn, .inl (cJ, 6, .inr (.inl nu)))]) [0, 1, 2, 3, 4, 5] rfl
                        have hDc := hD.sub (ws' := [(hm, .inr (2, [.int (nI 0), .ref ml, .ref mw, .ref mb, .ref ms, .ref mn])), (ml, .inl (cI, 8, .inl ln)), (mw, .inl (cI, 512, .inl wh)), (mb, .inl (cI, 48, .inl bi)), (ms, .inl (cZ, 48, .inl si)), (mn, .inl (cJ, 6, .inr (.inl nu)))]) [0, 1, 2, 3, 4, 5] (by decide) rfl
                        have hKc := hK.sub (tys' := [(cI, .int), (cZ, .boolean), (cJ, .long)]) [0, 1, 2] rfl
                        have hFc := va_free (wc := [(hm, .inr (2, [.int (nI 0), .ref ml, .ref mw, .ref mb, .ref ms, .ref mn])), (ml, .inl (cI, 8, .inl ln)), (mw, .inl (cI, 512, .inl wh)), (mb, .inl (cI, 48, .inl bi)), (ms, .inl (cZ, 48, .inl si)), (mn, .inl (cJ, 6, .inr (.inl nu)))]) hD hS hA [0, 1, 2, 3, 4, 5] rfl
                        refine va_calli (va_runV (As := [.int (nI 1), .int (nI 3)]) (rest := []) ⟨hx, hb, hml, hown, hw⟩ (c_M_fails1 l dC dI _ cI cZ cJ hm ml mw mb ms mn ln wh bi si nu 3 (by decide)) (cwV 2 hw (gV kw_420 kw_422 kw_5 kw_16 kw_423) rfl rfl rfl (by decide +kernel) ⟨Nat.le_of_ble_eq_true rfl, Nat.le_of_ble_eq_true rfl⟩) (rw_preV (q0 := 0) hKc hPc hDc rfl rfl) rfl rfl hl.1 rfl (lv_room (Nat.le_of_ble_eq_true rfl)) dM_slice_124 ⟨Nat.zero_le _, Nat.zero_le _⟩) hS (fun q _ h => hFc q h) hFc (fun v124 u t H1 locs ht hvm e124 hB hz1 hk1 hS => ?_)
                        obtain ⟨hP1, hK1, hD1⟩ := hB
                        rw [ht] at hP1
                        obtain ⟨hP, hD⟩ := va_join (wr := []) (w1 := [(hm, .inr (2, [.int (nI 3), .ref ml, .ref mw, .ref mb, .ref ms, .ref mn])), (ml, .inl (cI, 8, .inl ln)), (mw, .inl (cI, 512, .inl wh)), (mb, .inl (cI, 48, .inl bi)), (ms, .inl (cZ, 48, .inl si)), (mn, .inl (cJ, 6, .inr (.inl nu)))]) hP hD [0, 1, 2, 3, 4, 5] [] rfl rfl (by decide) (by decide) hk1 hFc hP1 hD1
                        generalize H1 = H at hP hS ⊢
                        have hP : va_P (dC, dI) cls3 [(hm, .inr (2, [.int (nI 3), .ref ml, .ref mw, .ref mb, .ref ms, .ref mn])), (ml, .inl (cI, 8, .inl ln)), (mw, .inl (cI, 512, .inl wh)), (mb, .inl (cI, 48, .inl bi)), (ms, .inl (cZ, 48, .inl si)), (mn, .inl (cJ, 6, .inr (.inl nu)))] H := hP
                        have hD : va_D A [(hm, .inr (2, [.int (nI 3), .ref ml, .ref mw, .ref mb, .ref ms, .ref mn])), (ml, .inl (cI, 8, .inl ln)), (mw, .inl (cI, 512, .inl wh)), (mb, .inl (cI, 48, .inl bi)), (ms, .inl (cZ, 48, .inl si)), (mn, .inl (cJ, 6, .inr (.inl nu)))] := hD
                        obtain rfl : v124 = nI 1 := e124
                        refine lv_if_eq (tgt := 132) hx hb dM_slice_127 (by decide) (fun h127 => ?_) (fun h127 => ?_)
                        · exfalso
                          first | exact h127 (by decide +kernel) | exact absurd h127 (by decide +kernel)
                        · refine lv_iconst (v := nI 0) hx hb dM_slice_130 (by decide +kernel) ?_
                          have hcd : cdSlice ns its wss (nI f) (nI o) (nI hi) (nI lo) = 3 := by unfold cdSlice; first | (rw [if_neg (fun q9 => by rw [h12] at q9; exact absurd q9.1 (by decide))]) | (rw [if_neg (fun q9 => h18 q9.2)]) | (rw [if_pos ⟨thr_t hf ho hw1, h18⟩, if_pos (Or.inl h38)]) | (rw [if_pos ⟨thr_t hf ho hw1, h18⟩, if_pos (Or.inr (by rw [hff, hfo]; exact Int32.not_lt.mp h48))]) | (rw [if_pos ⟨thr_t hf ho hw1, h18⟩, if_neg (fun q9 => q9.elim h38 (fun q9 => absurd h48 (Int32.not_lt.mpr (by rw [hff, hfo] at q9; exact q9)))), hff, hfh, hfl, if_pos (by omega)]) | (rw [if_pos ⟨thr_t hf ho hw1, h18⟩, if_neg (fun q9 => q9.elim h38 (fun q9 => absurd h48 (Int32.not_lt.mpr (by rw [hff, hfo] at q9; exact q9)))), hff, hfo, hfh, hfl, if_neg (by omega), hany_p (by omega) hk (by omega) (Classical.byContradiction (fun q9 => h115 ((plR_lt hn e112).mpr q9)))]; rfl) | (rw [if_pos ⟨thr_t hf ho hw1, h18⟩, if_neg (fun q9 => q9.elim h38 (fun q9 => absurd h48 (Int32.not_lt.mpr (by rw [hff, hfo] at q9; exact q9)))), hff, hfo, hfh, hfl, if_neg (by omega), hnone]; rfl)
                          exact W.iret (v := nI 0) hx hb hr (fun t ht hW => ⟨⟨_, (), rfl, (by intro h0; first | exact absurd (hcd.symm.trans h0) (by decide) | (rw [hff, hfh, hfl])), ln, wh, by rw [hcd]; exact hM, by rw [ht, hcd]; exact hP, va_K.moved hW.alike hK, by rw [hcd]; exact hD⟩, hS.F ht⟩) hS.2.2 dM_slice_131
                · exfalso
                  first | exact h91 (by decide +kernel) | exact absurd h91 (by decide +kernel)
              · rw [nI_leI (by omega) (by omega)] at h79
                refine lv_iconst (v := nI 1) hx hb dM_slice_82 (by decide +kernel) ?_
                refine lv_goto (tgt := 87) hx hb dM_slice_83 (by decide) ?_
                refine lv_iconst (v := nI 2) hx hb dM_slice_87 (by decide +kernel) ?_
                have hPc := hP.sub (ws' := [(hm, .inr (2, [.int (nI 0), .ref ml, .ref mw, .ref mb, .ref ms, .ref mn])), (ml, .inl (cI, 8, .inl ln)), (mw, .inl (cI, 512, .inl wh)), (mb, .inl (cI, 48, .inl bi)), (ms, .inl (cZ, 48, .inl si)), (mn, .inl (cJ, 6, .inr (.inl nu)))]) [0, 1, 2, 3, 4, 5] rfl
                have hDc := hD.sub (ws' := [(hm, .inr (2, [.int (nI 0), .ref ml, .ref mw, .ref mb, .ref ms, .ref mn])), (ml, .inl (cI, 8, .inl ln)), (mw, .inl (cI, 512, .inl wh)), (mb, .inl (cI, 48, .inl bi)), (ms, .inl (cZ, 48, .inl si)), (mn, .inl (cJ, 6, .inr (.inl nu)))]) [0, 1, 2, 3, 4, 5] (by decide) rfl
                have hKc := hK.sub (tys' := [(cI, .int), (cZ, .boolean), (cJ, .long)]) [0, 1, 2] rfl
                have hFc := va_free (wc := [(hm, .inr (2, [.int (nI 0), .ref ml, .ref mw, .ref mb, .ref ms, .ref mn])), (ml, .inl (cI, 8, .inl ln)), (mw, .inl (cI, 512, .inl wh)), (mb, .inl (cI, 48, .inl bi)), (ms, .inl (cZ, 48, .inl si)), (mn, .inl (cJ, 6, .inr (.inl nu)))]) hD hS hA [0, 1, 2, 3, 4, 5] rfl
                refine va_calli (va_runV (As := [.int (nI 1), .int (nI 2)]) (rest := []) ⟨hx, hb, hml, hown, hw⟩ (c_M_fails1 l dC dI _ cI cZ cJ hm ml mw mb ms mn ln wh bi si nu 2 (by decide)) (cwV 2 hw (gV kw_420 kw_422 kw_5 kw_16 kw_423) rfl rfl rfl (by decide +kernel) ⟨Nat.le_of_ble_eq_true rfl, Nat.le_of_ble_eq_true rfl⟩) (rw_preV (q0 := 0) hKc hPc hDc rfl rfl) rfl rfl hl.1 rfl (lv_room (Nat.le_of_ble_eq_true rfl)) dM_slice_88 ⟨Nat.zero_le _, Nat.zero_le _⟩) hS (fun q _ h => hFc q h) hFc (fun v88 u t H1 locs ht hvm e88 hB hz1 hk1 hS => ?_)
                obtain ⟨hP1, hK1, hD1⟩ := hB
                rw [ht] at hP1
                obtain ⟨hP, hD⟩ := va_join (wr := []) (w1 := [(hm, .inr (2, [.int (nI 2), .ref ml, .ref mw, .ref mb, .ref ms, .ref mn])), (ml, .inl (cI, 8, .inl ln)), (mw, .inl (cI, 512, .inl wh)), (mb, .inl (cI, 48, .inl bi)), (ms, .inl (cZ, 48, .inl si)), (mn, .inl (cJ, 6, .inr (.inl nu)))]) hP hD [0, 1, 2, 3, 4, 5] [] rfl rfl (by decide) (by decide) hk1 hFc hP1 hD1
                generalize H1 = H at hP hS ⊢
                have hP : va_P (dC, dI) cls3 [(hm, .inr (2, [.int (nI 2), .ref ml, .ref mw, .ref mb, .ref ms, .ref mn])), (ml, .inl (cI, 8, .inl ln)), (mw, .inl (cI, 512, .inl wh)), (mb, .inl (cI, 48, .inl bi)), (ms, .inl (cZ, 48, .inl si)), (mn, .inl (cJ, 6, .inr (.inl nu)))] H := hP
                have hD : va_D A [(hm, .inr (2, [.int (nI 2), .ref ml, .ref mw, .ref mb, .ref ms, .ref mn])), (ml, .inl (cI, 8, .inl ln)), (mw, .inl (cI, 512, .inl wh)), (mb, .inl (cI, 48, .inl bi)), (ms, .inl (cZ, 48, .inl si)), (mn, .inl (cJ, 6, .inr (.inl nu)))] := hD
                obtain rfl : v88 = nI 1 := e88
                refine lv_if_eq (tgt := 96) hx hb dM_slice_91 (by decide) (fun h91 => ?_) (fun h91 => ?_)
                · exfalso
                  first | exact h91 (by decide +kernel) | exact absurd h91 (by decide +kernel)
                · refine lv_iconst (v := nI 0) hx hb dM_slice_94 (by decide +kernel) ?_
                  have hcd : cdSlice ns its wss (nI f) (nI o) (nI hi) (nI lo) = 2 := by unfold cdSlice; first | (rw [if_neg (fun q9 => by rw [h12] at q9; exact absurd q9.1 (by decide))]) | (rw [if_neg (fun q9 => h18 q9.2)]) | (rw [if_pos ⟨thr_t hf ho hw1, h18⟩, if_pos (Or.inl h38)]) | (rw [if_pos ⟨thr_t hf ho hw1, h18⟩, if_pos (Or.inr (by rw [hff, hfo]; exact Int32.not_lt.mp h48))]) | (rw [if_pos ⟨thr_t hf ho hw1, h18⟩, if_neg (fun q9 => q9.elim h38 (fun q9 => absurd h48 (Int32.not_lt.mpr (by rw [hff, hfo] at q9; exact q9)))), hff, hfh, hfl, if_pos (by omega)]) | (rw [if_pos ⟨thr_t hf ho hw1, h18⟩, if_neg (fun q9 => q9.elim h38 (fun q9 => absurd h48 (Int32.not_lt.mpr (by rw [hff, hfo] at q9; exact q9)))), hff, hfo, hfh, hfl, if_neg (by omega), hany_p (by omega) hk (by omega) (Classical.byContradiction (fun q9 => h115 ((plR_lt hn e112).mpr q9)))]; rfl) | (rw [if_pos ⟨thr_t hf ho hw1, h18⟩, if_neg (fun q9 => q9.elim h38 (fun q9 => absurd h48 (Int32.not_lt.mpr (by rw [hff, hfo] at q9; exact q9)))), hff, hfo, hfh, hfl, if_neg (by omega), hnone]; rfl)
                  exact W.iret (v := nI 0) hx hb hr (fun t ht hW => ⟨⟨_, (), rfl, (by intro h0; first | exact absurd (hcd.symm.trans h0) (by decide) | (rw [hff, hfh, hfl])), ln, wh, by rw [hcd]; exact hM, by rw [ht, hcd]; exact hP, va_K.moved hW.alike hK, by rw [hcd]; exact hD⟩, hS.F ht⟩) hS.2.2 dM_slice_95
          · refine lv_iconst (v := nI 1) hx hb dM_slice_51 (by decide +kernel) ?_
            refine lv_goto (tgt := 56) hx hb dM_slice_52 (by decide) ?_
            refine lv_iconst (v := nI 2) hx hb dM_slice_56 (by decide +kernel) ?_
            have hPc := hP.sub (ws' := [(hm, .inr (2, [.int (nI 0), .ref ml, .ref mw, .ref mb, .ref ms, .ref mn])), (ml, .inl (cI, 8, .inl ln)), (mw, .inl (cI, 512, .inl wh)), (mb, .inl (cI, 48, .inl bi)), (ms, .inl (cZ, 48, .inl si)), (mn, .inl (cJ, 6, .inr (.inl nu)))]) [0, 1, 2, 3, 4, 5] rfl
            have hDc := hD.sub (ws' := [(hm, .inr (2, [.int (nI 0), .ref ml, .ref mw, .ref mb, .ref ms, .ref mn])), (ml, .inl (cI, 8, .inl ln)), (mw, .inl (cI, 512, .inl wh)), (mb, .inl (cI, 48, .inl bi)), (ms, .inl (cZ, 48, .inl si)), (mn, .inl (cJ, 6, .inr (.inl nu)))]) [0, 1, 2, 3, 4, 5] (by decide) rfl
            have hKc := hK.sub (tys' := [(cI, .int), (cZ, .boolean), (cJ, .long)]) [0, 1, 2] rfl
            have hFc := va_free (wc := [(hm, .inr (2, [.int (nI 0), .ref ml, .ref mw, .ref mb, .ref ms, .ref mn])), (ml, .inl (cI, 8, .inl ln)), (mw, .inl (cI, 512, .inl wh)), (mb, .inl (cI, 48, .inl bi)), (ms, .inl (cZ, 48, .inl si)), (mn, .inl (cJ, 6, .inr (.inl nu)))]) hD hS hA [0, 1, 2, 3, 4, 5] rfl
            refine va_calli (va_runV (As := [.int (nI 1), .int (nI 2)]) (rest := []) ⟨hx, hb, hml, hown, hw⟩ (c_M_fails1 l dC dI _ cI cZ cJ hm ml mw mb ms mn ln wh bi si nu 2 (by decide)) (cwV 2 hw (gV kw_420 kw_422 kw_5 kw_16 kw_423) rfl rfl rfl (by decide +kernel) ⟨Nat.le_of_ble_eq_true rfl, Nat.le_of_ble_eq_true rfl⟩) (rw_preV (q0 := 0) hKc hPc hDc rfl rfl) rfl rfl hl.1 rfl (lv_room (Nat.le_of_ble_eq_true rfl)) dM_slice_57 ⟨Nat.zero_le _, Nat.zero_le _⟩) hS (fun q _ h => hFc q h) hFc (fun v57 u t H1 locs ht hvm e57 hB hz1 hk1 hS => ?_)
            obtain ⟨hP1, hK1, hD1⟩ := hB
            rw [ht] at hP1
            obtain ⟨hP, hD⟩ := va_join (wr := []) (w1 := [(hm, .inr (2, [.int (nI 2), .ref ml, .ref mw, .ref mb, .ref ms, .ref mn])), (ml, .inl (cI, 8, .inl ln)), (mw, .inl (cI, 512, .inl wh)), (mb, .inl (cI, 48, .inl bi)), (ms, .inl (cZ, 48, .inl si)), (mn, .inl (cJ, 6, .inr (.inl nu)))]) hP hD [0, 1, 2, 3, 4, 5] [] rfl rfl (by decide) (by decide) hk1 hFc hP1 hD1
            generalize H1 = H at hP hS ⊢
            have hP : va_P (dC, dI) cls3 [(hm, .inr (2, [.int (nI 2), .ref ml, .ref mw, .ref mb, .ref ms, .ref mn])), (ml, .inl (cI, 8, .inl ln)), (mw, .inl (cI, 512, .inl wh)), (mb, .inl (cI, 48, .inl bi)), (ms, .inl (cZ, 48, .inl si)), (mn, .inl (cJ, 6, .inr (.inl nu)))] H := hP
            have hD : va_D A [(hm, .inr (2, [.int (nI 2), .ref ml, .ref mw, .ref mb, .ref ms, .ref mn])), (ml, .inl (cI, 8, .inl ln)), (mw, .inl (cI, 512, .inl wh)), (mb, .inl (cI, 48, .inl bi)), (ms, .inl (cZ, 48, .inl si)), (mn, .inl (cJ, 6, .inr (.inl nu)))] := hD
            obtain rfl : v57 = nI 1 := e57
            refine lv_if_ne (tgt := 94) hx hb dM_slice_60 (by decide) (fun h60 => ?_) (fun h60 => ?_)
            · refine lv_iconst (v := nI 0) hx hb dM_slice_94 (by decide +kernel) ?_
              have hcd : cdSlice ns its wss (nI f) (nI o) zh zl = 2 := by unfold cdSlice; first | (rw [if_neg (fun q9 => by rw [h12] at q9; exact absurd q9.1 (by decide))]) | (rw [if_neg (fun q9 => h18 q9.2)]) | (rw [if_pos ⟨thr_t hf ho hw1, h18⟩, if_pos (Or.inl h38)]) | (rw [if_pos ⟨thr_t hf ho hw1, h18⟩, if_pos (Or.inr (by rw [hff, hfo]; exact Int32.not_lt.mp h48))]) | (rw [if_pos ⟨thr_t hf ho hw1, h18⟩, if_neg (fun q9 => q9.elim h38 (fun q9 => absurd h48 (Int32.not_lt.mpr (by rw [hff, hfo] at q9; exact q9)))), hff, hfh, hfl, if_pos (by omega)]) | (rw [if_pos ⟨thr_t hf ho hw1, h18⟩, if_neg (fun q9 => q9.elim h38 (fun q9 => absurd h48 (Int32.not_lt.mpr (by rw [hff, hfo] at q9; exact q9)))), hff, hfo, hfh, hfl, if_neg (by omega), hany_p (by omega) hk (by omega) (Classical.byContradiction (fun q9 => h115 ((plR_lt hn e112).mpr q9)))]; rfl) | (rw [if_pos ⟨thr_t hf ho hw1, h18⟩, if_neg (fun q9 => q9.elim h38 (fun q9 => absurd h48 (Int32.not_lt.mpr (by rw [hff, hfo] at q9; exact q9)))), hff, hfo, hfh, hfl, if_neg (by omega), hnone]; rfl)
              exact W.iret (v := nI 0) hx hb hr (fun t ht hW => ⟨⟨_, (), rfl, (by intro h0; first | exact absurd (hcd.symm.trans h0) (by decide) | (rw [hff, hfh, hfl])), ln, wh, by rw [hcd]; exact hM, by rw [ht, hcd]; exact hP, va_K.moved hW.alike hK, by rw [hcd]; exact hD⟩, hS.F ht⟩) hS.2.2 dM_slice_95
            · exfalso
              first | exact h60 (by decide +kernel) | exact absurd h60 (by decide +kernel)
      · exfalso
        first | exact h30 (by decide +kernel) | exact absurd h30 (by decide +kernel)
    · refine lv_iconst (v := nI 1) hx hb dM_slice_21 (by decide +kernel) ?_
      refine lv_goto (tgt := 26) hx hb dM_slice_22 (by decide) ?_
      refine lv_iconst (v := nI 1) hx hb dM_slice_26 (by decide +kernel) ?_
      have hPc := hP.sub (ws' := [(hm, .inr (2, [.int (nI 0), .ref ml, .ref mw, .ref mb, .ref ms, .ref mn])), (ml, .inl (cI, 8, .inl ln)), (mw, .inl (cI, 512, .inl wh)), (mb, .inl (cI, 48, .inl bi)), (ms, .inl (cZ, 48, .inl si)), (mn, .inl (cJ, 6, .inr (.inl nu)))]) [0, 1, 2, 3, 4, 5] rfl
      have hDc := hD.sub (ws' := [(hm, .inr (2, [.int (nI 0), .ref ml, .ref mw, .ref mb, .ref ms, .ref mn])), (ml, .inl (cI, 8, .inl ln)), (mw, .inl (cI, 512, .inl wh)), (mb, .inl (cI, 48, .inl bi)), (ms, .inl (cZ, 48, .inl si)), (mn, .inl (cJ, 6, .inr (.inl nu)))]) [0, 1, 2, 3, 4, 5] (by decide) rfl
      have hKc := hK.sub (tys' := [(cI, .int), (cZ, .boolean), (cJ, .long)]) [0, 1, 2] rfl
      have hFc := va_free (wc := [(hm, .inr (2, [.int (nI 0), .ref ml, .ref mw, .ref mb, .ref ms, .ref mn])), (ml, .inl (cI, 8, .inl ln)), (mw, .inl (cI, 512, .inl wh)), (mb, .inl (cI, 48, .inl bi)), (ms, .inl (cZ, 48, .inl si)), (mn, .inl (cJ, 6, .inr (.inl nu)))]) hD hS hA [0, 1, 2, 3, 4, 5] rfl
      refine va_calli (va_runV (As := [.int (nI 1), .int (nI 1)]) (rest := []) ⟨hx, hb, hml, hown, hw⟩ (c_M_fails1 l dC dI _ cI cZ cJ hm ml mw mb ms mn ln wh bi si nu 1 (by decide)) (cwV 2 hw (gV kw_420 kw_422 kw_5 kw_16 kw_423) rfl rfl rfl (by decide +kernel) ⟨Nat.le_of_ble_eq_true rfl, Nat.le_of_ble_eq_true rfl⟩) (rw_preV (q0 := 0) hKc hPc hDc rfl rfl) rfl rfl hl.1 rfl (lv_room (Nat.le_of_ble_eq_true rfl)) dM_slice_27 ⟨Nat.zero_le _, Nat.zero_le _⟩) hS (fun q _ h => hFc q h) hFc (fun v27 u t H1 locs ht hvm e27 hB hz1 hk1 hS => ?_)
      obtain ⟨hP1, hK1, hD1⟩ := hB
      rw [ht] at hP1
      obtain ⟨hP, hD⟩ := va_join (wr := []) (w1 := [(hm, .inr (2, [.int (nI 1), .ref ml, .ref mw, .ref mb, .ref ms, .ref mn])), (ml, .inl (cI, 8, .inl ln)), (mw, .inl (cI, 512, .inl wh)), (mb, .inl (cI, 48, .inl bi)), (ms, .inl (cZ, 48, .inl si)), (mn, .inl (cJ, 6, .inr (.inl nu)))]) hP hD [0, 1, 2, 3, 4, 5] [] rfl rfl (by decide) (by decide) hk1 hFc hP1 hD1
      generalize H1 = H at hP hS ⊢
      have hP : va_P (dC, dI) cls3 [(hm, .inr (2, [.int (nI 1), .ref ml, .ref mw, .ref mb, .ref ms, .ref mn])), (ml, .inl (cI, 8, .inl ln)), (mw, .inl (cI, 512, .inl wh)), (mb, .inl (cI, 48, .inl bi)), (ms, .inl (cZ, 48, .inl si)), (mn, .inl (cJ, 6, .inr (.inl nu)))] H := hP
      have hD : va_D A [(hm, .inr (2, [.int (nI 1), .ref ml, .ref mw, .ref mb, .ref ms, .ref mn])), (ml, .inl (cI, 8, .inl ln)), (mw, .inl (cI, 512, .inl wh)), (mb, .inl (cI, 48, .inl bi)), (ms, .inl (cZ, 48, .inl si)), (mn, .inl (cJ, 6, .inr (.inl nu)))] := hD
      obtain rfl : v27 = nI 1 := e27
      refine lv_if_eq (tgt := 35) hx hb dM_slice_30 (by decide) (fun h30 => ?_) (fun h30 => ?_)
      · exfalso
        first | exact h30 (by decide +kernel) | exact absurd h30 (by decide +kernel)
      · refine lv_iconst (v := nI 0) hx hb dM_slice_33 (by decide +kernel) ?_
        have hcd : cdSlice ns its wss (nI f) (nI o) zh zl = 1 := by unfold cdSlice; first | (rw [if_neg (fun q9 => by rw [h12] at q9; exact absurd q9.1 (by decide))]) | (rw [if_neg (fun q9 => h18 q9.2)]) | (rw [if_pos ⟨thr_t hf ho hw1, h18⟩, if_pos (Or.inl h38)]) | (rw [if_pos ⟨thr_t hf ho hw1, h18⟩, if_pos (Or.inr (by rw [hff, hfo]; exact Int32.not_lt.mp h48))]) | (rw [if_pos ⟨thr_t hf ho hw1, h18⟩, if_neg (fun q9 => q9.elim h38 (fun q9 => absurd h48 (Int32.not_lt.mpr (by rw [hff, hfo] at q9; exact q9)))), hff, hfh, hfl, if_pos (by omega)]) | (rw [if_pos ⟨thr_t hf ho hw1, h18⟩, if_neg (fun q9 => q9.elim h38 (fun q9 => absurd h48 (Int32.not_lt.mpr (by rw [hff, hfo] at q9; exact q9)))), hff, hfo, hfh, hfl, if_neg (by omega), hany_p (by omega) hk (by omega) (Classical.byContradiction (fun q9 => h115 ((plR_lt hn e112).mpr q9)))]; rfl) | (rw [if_pos ⟨thr_t hf ho hw1, h18⟩, if_neg (fun q9 => q9.elim h38 (fun q9 => absurd h48 (Int32.not_lt.mpr (by rw [hff, hfo] at q9; exact q9)))), hff, hfo, hfh, hfl, if_neg (by omega), hnone]; rfl)
        exact W.iret (v := nI 0) hx hb hr (fun t ht hW => ⟨⟨_, (), rfl, (by intro h0; first | exact absurd (hcd.symm.trans h0) (by decide) | (rw [hff, hfh, hfl])), ln, wh, by rw [hcd]; exact hM, by rw [ht, hcd]; exact hP, va_K.moved hW.alike hK, by rw [hcd]; exact hD⟩, hS.F ht⟩) hS.2.2 dM_slice_34

set_option maxHeartbeats 4000000 in
set_option maxRecDepth 100000 in
theorem c_M_decode (l : Launch) (dC : Nat → ClassId) (dI : Nat → Nat → Nat) (sz : Nat) (cI cZ cJ : ClassId) (hm ml mw mb ms mn : Nat) (er : Int32) (ln wh bi si : Nat → Int32) (nu : Nat → Int64) (ns : Nat → Nat) (its wss : Nat → Nat → Nat) (sbs : Nat → Nat → Bool) (hM : mR ns its wss sbs ln wh bi si) (x y : Int32) (wo : Int64) : Met l yM_decode wM_decode { frames := 3, cells := 0, slots := 0, locals := 67 } (rw_Pc (dC, dI) cls3 [(hm, .inr (2, [.int er, .ref ml, .ref mw, .ref mb, .ref ms, .ref mn])), (ml, .inl (cI, 8, .inl ln)), (mw, .inl (cI, 512, .inl wh)), (mb, .inl (cI, 48, .inl bi)), (ms, .inl (cZ, 48, .inl si)), (mn, .inl (cJ, 6, .inr (.inl nu)))] [(cI, .int), (cZ, .boolean), (cJ, .long)] sz [.ref hm, .int x, .int y, .long wo]) (va_Ql (fun (r : Int64) (_ : Unit) => cdDec ns its wss x y wo = 0 → dcP (its (fi x)) (ns (fi x)) (wss (fi x) (fi y)) (sbs (fi x) (fi y)) (fi y) wo r) (fun _ t => va_P (dC, dI) cls3 [(hm, .inr (2, [.int (nI (cdDec ns its wss x y wo)), .ref ml, .ref mw, .ref mb, .ref ms, .ref mn])), (ml, .inl (cI, 8, .inl ln)), (mw, .inl (cI, 512, .inl wh)), (mb, .inl (cI, 48, .inl bi)), (ms, .inl (cZ, 48, .inl si)), (mn, .inl (cJ, 6, .inr (.inl nu)))] t.heap ∧ va_K (dC, dI) cls3 [(cI, .int), (cZ, .boolean), (cJ, .long)] t ∧ va_D (va_A [(hm, .inr (2, [.int er, .ref ml, .ref mw, .ref mb, .ref ms, .ref mn])), (ml, .inl (cI, 8, .inl ln)), (mw, .inl (cI, 512, .inl wh)), (mb, .inl (cI, 48, .inl bi)), (ms, .inl (cZ, 48, .inl si)), (mn, .inl (cJ, 6, .inr (.inl nu)))] sz) [(hm, .inr (2, [.int (nI (cdDec ns its wss x y wo)), .ref ml, .ref mw, .ref mb, .ref ms, .ref mn])), (ml, .inl (cI, 8, .inl ln)), (mw, .inl (cI, 512, .inl wh)), (mb, .inl (cI, 48, .inl bi)), (ms, .inl (cZ, 48, .inl si)), (mn, .inl (cJ, 6, .inr (.inl nu)))]) (va_A [(hm, .inr (2, [.int er, .ref ml, .ref mw, .ref mb, .ref ms, .ref mn])), (ml, .inl (cI, 8, .inl ln)), (mw, .inl (cI, 512, .inl wh)), (mb, .inl (cI, 48, .inl bi)), (ms, .inl (cZ, 48, .inl si)), (mn, .inl (cJ, 6, .inr (.inl nu)))] sz)) 0 0 (va_A [(hm, .inr (2, [.int er, .ref ml, .ref mw, .ref mb, .ref ms, .ref mn])), (ml, .inl (cI, 8, .inl ln)), (mw, .inl (cI, 512, .inl wh)), (mb, .inl (cI, 48, .inl bi)), (ms, .inl (cZ, 48, .inl si)), (mn, .inl (cJ, 6, .inr (.inl nu)))] sz) := by
  refine Met.ofW (cc := cM_decode) (maxL := 11) (ret := (some .long)) (by decide) rfl ?_
  intro p e s m args below meth c s₁ B hml hv
  obtain ⟨rfl, hsz, hP, hK, hD0⟩ := hv
  have hx := B.exec
  have hb := B.bytes
  have hr := B.returns
  have hts := atoms_spec (ws := wM_decode) B.pre
  have hw : ∀ w ∈ wA, w.before _ s = true := fun w h => hts w (List.mem_cons_of_mem _ h)
  have hown : s.vm.findClass RM = some m.cls := findClass_of_methodNamed B.named
  have hlocks := B.notSynchronized
  subst hsz
  have hD := hD0.self (sz := s.heap.size)
  generalize hAe : va_A [(hm, .inr (2, [.int er, .ref ml, .ref mw, .ref mb, .ref ms, .ref mn])), (ml, .inl (cI, 8, .inl ln)), (mw, .inl (cI, 512, .inl wh)), (mb, .inl (cI, 48, .inl bi)), (ms, .inl (cZ, 48, .inl si)), (mn, .inl (cJ, 6, .inr (.inl nu)))] s.heap.size = A at hD ⊢
  have hA : ∀ q : Nat, s.heap.size ≤ q → A q := fun q h => by rw [← hAe]; exact Or.inr h
  have hS : va_S A s.heap s.heap [] := va_S.rf
  have hl := lv_entry ([.ref hm, .int x, .int y, .long wo]) (n := 11) (Nat.le_of_ble_eq_true rfl)
  rw [lg_entry_eq]
  generalize (lg_sl ([.ref hm, .int x, .int y, .long wo]) ++ List.replicate (11 - (lg_sl ([.ref hm, .int x, .int y, .long wo])).length) Slot.unset).toArray = ls at hl ⊢
  have hl : lv_has ls 11 [(0, .ref hm), (1, .int x), (2, .int y), (3, .long wo)] := hl
  refine lv_aload_n hx hb dM_decode_0 rfl (lv_at hl 0 rfl) ?_
  refine lv_iconst (v := nI 0) hx hb dM_decode_1 (by decide +kernel) ?_
  refine va_put (D := (dC, dI)) (ci := 2) (v := .int (nI 0)) (ty := .int) (C := RM) (T := TM) (N := 6) hx hb hw inM tM tM_ok nM hown hK hP hD hS 0 rfl rfl 0 (by decide) (hw _ kw_386) (fun _ h9 => h9) rfl (by decide +kernel) rfl rfl (Nat.le_of_ble_eq_true rfl) dM_decode_2 (fun H locs hP hD hS => ?_)
  have hP : va_P (dC, dI) cls3 [(hm, .inr (2, [.int (nI 0), .ref ml, .ref mw, .ref mb, .ref ms, .ref mn])), (ml, .inl (cI, 8, .inl ln)), (mw, .inl (cI, 512, .inl wh)), (mb, .inl (cI, 48, .inl bi)), (ms, .inl (cZ, 48, .inl si)), (mn, .inl (cJ, 6, .inr (.inl nu)))] H := hP
  have hD : va_D A [(hm, .inr (2, [.int (nI 0), .ref ml, .ref mw, .ref mb, .ref ms, .ref mn])), (ml, .inl (cI, 8, .inl ln)), (mw, .inl (cI, 512, .inl wh)), (mb, .inl (cI, 48, .inl bi)), (ms, .inl (cZ, 48, .inl si)), (mn, .inl (cJ, 6, .inr (.inl nu)))] := hD
  refine lv_aload_n hx hb dM_decode_5 rfl (lv_at hl 0 rfl) ?_
  refine lv_aload_n hx hb dM_decode_6 rfl (lv_at hl 0 rfl) ?_
  refine lv_iload_n hx hb dM_decode_7 rfl (lv_at hl 1 rfl) ?_
  refine lv_iload_n hx hb dM_decode_8 rfl (lv_at hl 2 rfl) ?_
  refine vp_callSi (W.runV (As := [.int x, .int y]) (rest := [.ref hm]) ⟨hx, hb, hml, hown, hw⟩ (c_M_isThere l dC dI cI cZ cJ hm ml mw mb ms mn (nI 0) ln wh bi si nu ns its wss sbs hM x y) (cwV 2 hw (gV kw_448 kw_450 kw_7 kw_16 kw_451) rfl rfl rfl (by decide +kernel) ⟨Nat.le_of_ble_eq_true rfl, Nat.le_of_ble_eq_true rfl⟩) (ro_preV (q0 := 0) hK hP rfl rfl) rfl rfl hl.1 rfl (lv_room (Nat.le_of_ble_eq_true rfl)) dM_decode_9 ⟨Nat.zero_le _, Nat.zero_le _⟩) (fun v9 e9 => ?_)
  obtain rfl : v9 = nI (thr wss x y).toNat := e9
  refine lv_if_ne (tgt := 19) hx hb dM_decode_12 (by decide) (fun h12 => ?_) (fun h12 => ?_)
  · obtain ⟨f, o, hf, ho, hw1, rfl, rfl⟩ := thr_of (b_nf h12)
    have hff : fi (nI f) = f := fi_nI (by omega)
    have hfo : fi (nI o) = o := fi_nI (by omega)
    have hok := (hM f hf).1
    have hn := hok.1
    have hw64 := hok.2.1
    have hit := cw_it hok
    have hwo := hw64 o ho
    have hlf : cw_lft (its f) (ns f) (wss f) 6 ≤ 384 := by have := cw_missing (its f) (wss f) (ns f) hok; have := cw_sum_le (wss f) 6 hw64; omega
    refine lv_iconst (v := nI 0) hx hb dM_decode_19 (by decide +kernel) ?_
    refine lv_iconst (v := nI 1) hx hb dM_decode_20 (by decide +kernel) ?_
    have hPc := hP.sub (ws' := [(hm, .inr (2, [.int (nI 0), .ref ml, .ref mw, .ref mb, .ref ms, .ref mn])), (ml, .inl (cI, 8, .inl ln)), (mw, .inl (cI, 512, .inl wh)), (mb, .inl (cI, 48, .inl bi)), (ms, .inl (cZ, 48, .inl si)), (mn, .inl (cJ, 6, .inr (.inl nu)))]) [0, 1, 2, 3, 4, 5] rfl
    have hDc := hD.sub (ws' := [(hm, .inr (2, [.int (nI 0), .ref ml, .ref mw, .ref mb, .ref ms, .ref mn])), (ml, .inl (cI, 8, .inl ln)), (mw, .inl (cI, 512, .inl wh)), (mb, .inl (cI, 48, .inl bi)), (ms, .inl (cZ, 48, .inl si)), (mn, .inl (cJ, 6, .inr (.inl nu)))]) [0, 1, 2, 3, 4, 5] (by decide) rfl
    have hKc := hK.sub (tys' := [(cI, .int), (cZ, .boolean), (cJ, .long)]) [0, 1, 2] rfl
    have hFc := va_free (wc := [(hm, .inr (2, [.int (nI 0), .ref ml, .ref mw, .ref mb, .ref ms, .ref mn])), (ml, .inl (cI, 8, .inl ln)), (mw, .inl (cI, 512, .inl wh)), (mb, .inl (cI, 48, .inl bi)), (ms, .inl (cZ, 48, .inl si)), (mn, .inl (cJ, 6, .inr (.inl nu)))]) hD hS hA [0, 1, 2, 3, 4, 5] rfl
    refine va_calli (va_runV (As := [.int (nI 0), .int (nI 1)]) (rest := []) ⟨hx, hb, hml, hown, hw⟩ (c_M_fails0 l dC dI _ cI cZ cJ hm ml mw mb ms mn ln wh bi si nu 1 (by decide)) (cwV 2 hw (gV kw_420 kw_422 kw_5 kw_16 kw_423) rfl rfl rfl (by decide +kernel) ⟨Nat.le_of_ble_eq_true rfl, Nat.le_of_ble_eq_true rfl⟩) (rw_preV (q0 := 0) hKc hPc hDc rfl rfl) rfl rfl hl.1 rfl (lv_room (Nat.le_of_ble_eq_true rfl)) dM_decode_21 ⟨Nat.zero_le _, Nat.zero_le _⟩) hS (fun q _ h => hFc q h) hFc (fun v21 u t H1 locs ht hvm e21 hB hz1 hk1 hS => ?_)
    obtain ⟨hP1, hK1, hD1⟩ := hB
    rw [ht] at hP1
    obtain ⟨hP, hD⟩ := va_join (wr := []) (w1 := [(hm, .inr (2, [.int (nI 0), .ref ml, .ref mw, .ref mb, .ref ms, .ref mn])), (ml, .inl (cI, 8, .inl ln)), (mw, .inl (cI, 512, .inl wh)), (mb, .inl (cI, 48, .inl bi)), (ms, .inl (cZ, 48, .inl si)), (mn, .inl (cJ, 6, .inr (.inl nu)))]) hP hD [0, 1, 2, 3, 4, 5] [] rfl rfl (by decide) (by decide) hk1 hFc hP1 hD1
    generalize H1 = H at hP hS ⊢
    have hP : va_P (dC, dI) cls3 [(hm, .inr (2, [.int (nI 0), .ref ml, .ref mw, .ref mb, .ref ms, .ref mn])), (ml, .inl (cI, 8, .inl ln)), (mw, .inl (cI, 512, .inl wh)), (mb, .inl (cI, 48, .inl bi)), (ms, .inl (cZ, 48, .inl si)), (mn, .inl (cJ, 6, .inr (.inl nu)))] H := hP
    have hD : va_D A [(hm, .inr (2, [.int (nI 0), .ref ml, .ref mw, .ref mb, .ref ms, .ref mn])), (ml, .inl (cI, 8, .inl ln)), (mw, .inl (cI, 512, .inl wh)), (mb, .inl (cI, 48, .inl bi)), (ms, .inl (cZ, 48, .inl si)), (mn, .inl (cJ, 6, .inr (.inl nu)))] := hD
    obtain rfl : v21 = nI 0 := e21
    refine lv_if_ne (tgt := 70) hx hb dM_decode_24 (by decide) (fun h24 => ?_) (fun h24 => ?_)
    · exfalso
      first | exact h24 (by decide +kernel) | exact absurd h24 (by decide +kernel)
    · refine lv_aload_n hx hb dM_decode_27 rfl (lv_at hl 0 rfl) ?_
      refine lv_aload_n hx hb dM_decode_28 rfl (lv_at hl 0 rfl) ?_
      refine lv_iload_n hx hb dM_decode_29 rfl (lv_at hl 1 rfl) ?_
      refine vp_callSi (W.runV (As := [.int (nI f)]) (rest := [.ref hm]) ⟨hx, hb, hml, hown, hw⟩ (c_M_left l dC dI cI cZ cJ hm ml mw mb ms mn (nI 0) ln wh bi si nu ns its wss sbs hM f hf) (cwV 1 hw (gV kw_460 kw_462 kw_9 kw_16 kw_463) rfl rfl rfl (by decide +kernel) ⟨Nat.le_of_ble_eq_true rfl, Nat.le_of_ble_eq_true rfl⟩) (ro_preV (q0 := 0) hK hP rfl rfl) rfl rfl hl.1 rfl (lv_room (Nat.le_of_ble_eq_true rfl)) dM_decode_30 ⟨Nat.zero_le _, Nat.zero_le _⟩) (fun v30 e30 => ?_)
      obtain rfl : v30 = nI (cw_lft (its f) (ns f) (wss f) 6) := e30
      refine lv_if_le (tgt := 40) hx hb dM_decode_33 (by decide) (fun h33 => ?_) (fun h33 => ?_)
      · rw [nI_le0 (by omega)] at h33
        refine lv_iconst (v := nI 0) hx hb dM_decode_40 (by decide +kernel) ?_
        refine lv_iconst (v := nI 2) hx hb dM_decode_41 (by decide +kernel) ?_
        have hPc := hP.sub (ws' := [(hm, .inr (2, [.int (nI 0), .ref ml, .ref mw, .ref mb, .ref ms, .ref mn])), (ml, .inl (cI, 8, .inl ln)), (mw, .inl (cI, 512, .inl wh)), (mb, .inl (cI, 48, .inl bi)), (ms, .inl (cZ, 48, .inl si)), (mn, .inl (cJ, 6, .inr (.inl nu)))]) [0, 1, 2, 3, 4, 5] rfl
        have hDc := hD.sub (ws' := [(hm, .inr (2, [.int (nI 0), .ref ml, .ref mw, .ref mb, .ref ms, .ref mn])), (ml, .inl (cI, 8, .inl ln)), (mw, .inl (cI, 512, .inl wh)), (mb, .inl (cI, 48, .inl bi)), (ms, .inl (cZ, 48, .inl si)), (mn, .inl (cJ, 6, .inr (.inl nu)))]) [0, 1, 2, 3, 4, 5] (by decide) rfl
        have hKc := hK.sub (tys' := [(cI, .int), (cZ, .boolean), (cJ, .long)]) [0, 1, 2] rfl
        have hFc := va_free (wc := [(hm, .inr (2, [.int (nI 0), .ref ml, .ref mw, .ref mb, .ref ms, .ref mn])), (ml, .inl (cI, 8, .inl ln)), (mw, .inl (cI, 512, .inl wh)), (mb, .inl (cI, 48, .inl bi)), (ms, .inl (cZ, 48, .inl si)), (mn, .inl (cJ, 6, .inr (.inl nu)))]) hD hS hA [0, 1, 2, 3, 4, 5] rfl
        refine va_calli (va_runV (As := [.int (nI 0), .int (nI 2)]) (rest := []) ⟨hx, hb, hml, hown, hw⟩ (c_M_fails0 l dC dI _ cI cZ cJ hm ml mw mb ms mn ln wh bi si nu 2 (by decide)) (cwV 2 hw (gV kw_420 kw_422 kw_5 kw_16 kw_423) rfl rfl rfl (by decide +kernel) ⟨Nat.le_of_ble_eq_true rfl, Nat.le_of_ble_eq_true rfl⟩) (rw_preV (q0 := 0) hKc hPc hDc rfl rfl) rfl rfl hl.1 rfl (lv_room (Nat.le_of_ble_eq_true rfl)) dM_decode_42 ⟨Nat.zero_le _, Nat.zero_le _⟩) hS (fun q _ h => hFc q h) hFc (fun v42 u t H1 locs ht hvm e42 hB hz1 hk1 hS => ?_)
        obtain ⟨hP1, hK1, hD1⟩ := hB
        rw [ht] at hP1
        obtain ⟨hP, hD⟩ := va_join (wr := []) (w1 := [(hm, .inr (2, [.int (nI 0), .ref ml, .ref mw, .ref mb, .ref ms, .ref mn])), (ml, .inl (cI, 8, .inl ln)), (mw, .inl (cI, 512, .inl wh)), (mb, .inl (cI, 48, .inl bi)), (ms, .inl (cZ, 48, .inl si)), (mn, .inl (cJ, 6, .inr (.inl nu)))]) hP hD [0, 1, 2, 3, 4, 5] [] rfl rfl (by decide) (by decide) hk1 hFc hP1 hD1
        generalize H1 = H at hP hS ⊢
        have hP : va_P (dC, dI) cls3 [(hm, .inr (2, [.int (nI 0), .ref ml, .ref mw, .ref mb, .ref ms, .ref mn])), (ml, .inl (cI, 8, .inl ln)), (mw, .inl (cI, 512, .inl wh)), (mb, .inl (cI, 48, .inl bi)), (ms, .inl (cZ, 48, .inl si)), (mn, .inl (cJ, 6, .inr (.inl nu)))] H := hP
        have hD : va_D A [(hm, .inr (2, [.int (nI 0), .ref ml, .ref mw, .ref mb, .ref ms, .ref mn])), (ml, .inl (cI, 8, .inl ln)), (mw, .inl (cI, 512, .inl wh)), (mb, .inl (cI, 48, .inl bi)), (ms, .inl (cZ, 48, .inl si)), (mn, .inl (cJ, 6, .inr (.inl nu)))] := hD
        obtain rfl : v42 = nI 0 := e42
        refine lv_if_ne (tgt := 70) hx hb dM_decode_45 (by decide) (fun h45 => ?_) (fun h45 => ?_)
        · exfalso
          first | exact h45 (by decide +kernel) | exact absurd h45 (by decide +kernel)
        · refine lv_aload_n hx hb dM_decode_48 rfl (lv_at hl 0 rfl) ?_
          refine lv_aload_n hx hb dM_decode_49 rfl (lv_at hl 0 rfl) ?_
          refine lv_iload_n hx hb dM_decode_50 rfl (lv_at hl 1 rfl) ?_
          refine lv_lload_n hx hb dM_decode_51 rfl (lv_at hl 3 rfl) ?_
          refine vp_callSi (W.runV (As := [.int (nI f), .long wo]) (rest := [.ref hm]) ⟨hx, hb, hml, hown, hw⟩ (c_M_isOf l dC dI cI cZ cJ hm ml mw mb ms mn (nI 0) ln wh bi si nu ns its wss sbs hM f wo hf) (cwV 2 hw (gV kw_488 kw_490 kw_12 kw_16 kw_491) rfl rfl rfl (by decide +kernel) ⟨Nat.le_of_ble_eq_true rfl, Nat.le_of_ble_eq_true rfl⟩) (ro_preV (q0 := 0) hK hP rfl rfl) rfl rfl hl.1 rfl (lv_room (Nat.le_of_ble_eq_true rfl)) dM_decode_52 ⟨Nat.zero_le _, Nat.zero_le _⟩) (fun v52 e52 => ?_)
          obtain rfl : v52 = nI (isof (its f) (ns f) wo).toNat := e52
          refine lv_if_ne (tgt := 62) hx hb dM_decode_55 (by decide) (fun h55 => ?_) (fun h55 => ?_)
          · have h55 := b_nf h55
            refine lv_iconst (v := nI 0) hx hb dM_decode_62 (by decide +kernel) ?_
            refine lv_iconst (v := nI 3) hx hb dM_decode_63 (by decide +kernel) ?_
            have hPc := hP.sub (ws' := [(hm, .inr (2, [.int (nI 0), .ref ml, .ref mw, .ref mb, .ref ms, .ref mn])), (ml, .inl (cI, 8, .inl ln)), (mw, .inl (cI, 512, .inl wh)), (mb, .inl (cI, 48, .inl bi)), (ms, .inl (cZ, 48, .inl si)), (mn, .inl (cJ, 6, .inr (.inl nu)))]) [0, 1, 2, 3, 4, 5] rfl
            have hDc := hD.sub (ws' := [(hm, .inr (2, [.int (nI 0), .ref ml, .ref mw, .ref mb, .ref ms, .ref mn])), (ml, .inl (cI, 8, .inl ln)), (mw, .inl (cI, 512, .inl wh)), (mb, .inl (cI, 48, .inl bi)), (ms, .inl (cZ, 48, .inl si)), (mn, .inl (cJ, 6, .inr (.inl nu)))]) [0, 1, 2, 3, 4, 5] (by decide) rfl
            have hKc := hK.sub (tys' := [(cI, .int), (cZ, .boolean), (cJ, .long)]) [0, 1, 2] rfl
            have hFc := va_free (wc := [(hm, .inr (2, [.int (nI 0), .ref ml, .ref mw, .ref mb, .ref ms, .ref mn])), (ml, .inl (cI, 8, .inl ln)), (mw, .inl (cI, 512, .inl wh)), (mb, .inl (cI, 48, .inl bi)), (ms, .inl (cZ, 48, .inl si)), (mn, .inl (cJ, 6, .inr (.inl nu)))]) hD hS hA [0, 1, 2, 3, 4, 5] rfl
            refine va_calli (va_runV (As := [.int (nI 0), .int (nI 3)]) (rest := []) ⟨hx, hb, hml, hown, hw⟩ (c_M_fails0 l dC dI _ cI cZ cJ hm ml mw mb ms mn ln wh bi si nu 3 (by decide)) (cwV 2 hw (gV kw_420 kw_422 kw_5 kw_16 kw_423) rfl rfl rfl (by decide +kernel) ⟨Nat.le_of_ble_eq_true rfl, Nat.le_of_ble_eq_true rfl⟩) (rw_preV (q0 := 0) hKc hPc hDc rfl rfl) rfl rfl hl.1 rfl (lv_room (Nat.le_of_ble_eq_true rfl)) dM_decode_64 ⟨Nat.zero_le _, Nat.zero_le _⟩) hS (fun q _ h => hFc q h) hFc (fun v64 u t H1 locs ht hvm e64 hB hz1 hk1 hS => ?_)
            obtain ⟨hP1, hK1, hD1⟩ := hB
            rw [ht] at hP1
            obtain ⟨hP, hD⟩ := va_join (wr := []) (w1 := [(hm, .inr (2, [.int (nI 0), .ref ml, .ref mw, .ref mb, .ref ms, .ref mn])), (ml, .inl (cI, 8, .inl ln)), (mw, .inl (cI, 512, .inl wh)), (mb, .inl (cI, 48, .inl bi)), (ms, .inl (cZ, 48, .inl si)), (mn, .inl (cJ, 6, .inr (.inl nu)))]) hP hD [0, 1, 2, 3, 4, 5] [] rfl rfl (by decide) (by decide) hk1 hFc hP1 hD1
            generalize H1 = H at hP hS ⊢
            have hP : va_P (dC, dI) cls3 [(hm, .inr (2, [.int (nI 0), .ref ml, .ref mw, .ref mb, .ref ms, .ref mn])), (ml, .inl (cI, 8, .inl ln)), (mw, .inl (cI, 512, .inl wh)), (mb, .inl (cI, 48, .inl bi)), (ms, .inl (cZ, 48, .inl si)), (mn, .inl (cJ, 6, .inr (.inl nu)))] H := hP
            have hD : va_D A [(hm, .inr (2, [.int (nI 0), .ref ml, .ref mw, .ref mb, .ref ms, .ref mn])), (ml, .inl (cI, 8, .inl ln)), (mw, .inl (cI, 512, .inl wh)), (mb, .inl (cI, 48, .inl bi)), (ms, .inl (cZ, 48, .inl si)), (mn, .inl (cJ, 6, .inr (.inl nu)))] := hD
            obtain rfl : v64 = nI 0 := e64
            refine lv_if_eq (tgt := 72) hx hb dM_decode_67 (by decide) (fun h67 => ?_) (fun h67 => ?_)
            · refine lv_aload_n hx hb dM_decode_72 rfl (lv_at hl 0 rfl) ?_
              refine lv_iload_n hx hb dM_decode_73 rfl (lv_at hl 1 rfl) ?_
              refine lv_iload_n hx hb dM_decode_74 rfl (lv_at hl 2 rfl) ?_
              refine vp_callSi (W.runV (As := [.int (nI f), .int (nI o)]) (rest := []) ⟨hx, hb, hml, hown, hw⟩ (c_M_many l dC dI cI cZ cJ hm ml mw mb ms mn (nI 0) ln wh bi si nu ns its wss sbs hM f o hf ho) (cwV 2 hw (gV kw_433 kw_435 kw_6 kw_16 kw_436) rfl rfl rfl (by decide +kernel) ⟨Nat.le_of_ble_eq_true rfl, Nat.le_of_ble_eq_true rfl⟩) (ro_preV (q0 := 0) hK hP rfl rfl) rfl rfl hl.1 rfl (lv_room (Nat.le_of_ble_eq_true rfl)) dM_decode_75 ⟨Nat.zero_le _, Nat.zero_le _⟩) (fun v75 e75 => ?_)
              obtain rfl : v75 = nI (wss f o) := e75
              refine lv_istore hx hb dM_decode_78 hl (by decide) rfl (fun ls hl => ?_)
              have hl : lv_has ls 11 [(5, .int (nI (wss f o))), (0, .ref hm), (1, .int (nI f)), (2, .int (nI o)), (3, .long wo)] := hl
              refine lv_lconst (v := lN 0) hx hb dM_decode_80 (by decide +kernel) ?_
              refine lv_lstore hx hb dM_decode_81 hl (by decide) rfl (fun ls hl => ?_)
              have hl : lv_has ls 11 [(6, .long (lN 0)), (5, .int (nI (wss f o))), (0, .ref hm), (1, .int (nI f)), (2, .int (nI o)), (3, .long wo)] := hl
              refine lv_iconst (v := nI 0) hx hb dM_decode_83 (by decide +kernel) ?_
              refine lv_istore hx hb dM_decode_84 hl (by decide) rfl (fun ls hl => ?_)
              have hl : lv_has ls 11 [(8, .int (nI 0)), (6, .long (lN 0)), (5, .int (nI (wss f o))), (0, .ref hm), (1, .int (nI f)), (2, .int (nI o)), (3, .long wo)] := hl
              refine (?_ : ∀ (kk : Nat) (k : Nat) (z : Int64) (H : Heap) (locs : List Loc) (ls : Array Slot), kk = 64 - k → lv_has ls 11 [(8, .int (nI k)), (6, .long z), (5, .int (nI (wss f o))), (0, .ref hm), (1, .int (nI f)), (2, .int (nI o)), (3, .long wo)] → (k ≤ 64) → (dcI (its f) (ns f) (wss f o) (sbs f o) o wo k z) → va_P (dC, dI) cls3 [(hm, .inr (2, [.int (nI 0), .ref ml, .ref mw, .ref mb, .ref ms, .ref mn])), (ml, .inl (cI, 8, .inl ln)), (mw, .inl (cI, 512, .inl wh)), (mb, .inl (cI, 48, .inl bi)), (ms, .inl (cZ, 48, .inl si)), (mn, .inl (cJ, 6, .inr (.inl nu)))] H → va_D A [(hm, .inr (2, [.int (nI 0), .ref ml, .ref mw, .ref mb, .ref ms, .ref mn])), (ml, .inl (cI, 8, .inl ln)), (mw, .inl (cI, 512, .inl wh)), (mb, .inl (cI, 48, .inl bi)), (ms, .inl (cZ, 48, .inl si)), (mn, .inl (cJ, 6, .inr (.inl nu)))] → va_S A s.heap H locs → W p l e _ s m _ below meth c H locs _ _ _ (F0 m 86 ls [])) _ 0 (lN 0) _ _ ls rfl (lv_sub hl [0, 1, 2, 3, 4, 5, 6] rfl) (by omega) (dcI_0 _ _ _ _ _ _) hP hD hS
              intro kk
              induction kk using Nat.strongRecOn with
              | ind kk86 ih86 =>
                intro k z H locs ls hkk86 hl hk hI hP hD hS
                refine lv_iload hx hb dM_decode_86 (lv_at hl 0 rfl) ?_
                refine lv_bipush (v := nI 64) hx hb dM_decode_88 (by decide +kernel) ?_
                refine lv_icmp_ge (tgt := 185) hx hb dM_decode_90 (by decide) (fun h90 => ?_) (fun h90 => ?_)
                · rw [nI_leI (by omega) (by omega)] at h90
                  refine lv_lload hx hb dM_decode_185 (lv_at hl 1 rfl) ?_
                  have hcd : cdDec ns its wss (nI f) (nI o) wo = 0 := by unfold cdDec; first | (rw [h12]; rfl) | (rw [thr_t hf ho hw1, if_pos rfl, hff, if_neg (by omega)]) | (rw [thr_t hf ho hw1, if_pos rfl, hff, if_pos (by omega), h55]; rfl)
                  exact W.lret (v := z) hx hb hr (fun t ht hW => ⟨⟨_, (), rfl, (by intro h0; first | exact absurd (hcd.symm.trans h0) (by decide) | (rw [hff, hfo]; first | exact dcI_end (by omega) hI | (rw [h123] at hI ⊢; exact dcI_stop hI (by omega)))), by rw [ht, hcd]; exact hP, va_K.moved hW.alike hK, by rw [hcd]; exact hD⟩, hS.F ht⟩) hS.2.2 dM_decode_187
                · rw [nI_leI (by omega) (by omega)] at h90
                  refine lv_iload hx hb dM_decode_93 (lv_at hl 0 rfl) ?_
                  refine lv_iload hx hb dM_decode_95 (lv_at hl 2 rfl) ?_
                  refine lv_icmp_ge (tgt := 104) hx hb dM_decode_97 (by decide) (fun h97 => ?_) (fun h97 => ?_)
                  · rw [nI_leI (by omega) (by omega)] at h97
                    refine lv_iconst (v := nI 0) hx hb dM_decode_104 (by decide +kernel) ?_
                    refine lv_istore hx hb dM_decode_105 hl (by decide) rfl (fun ls hl => ?_)
                    have hl : lv_has ls 11 [(9, .int (nI 0)), (8, .int (nI k)), (6, .long z), (5, .int (nI (wss f o))), (0, .ref hm), (1, .int (nI f)), (2, .int (nI o)), (3, .long wo)] := hl
                    refine lv_iload hx hb dM_decode_107 (lv_at hl 0 rfl) ?_
                    refine lv_if_ne (tgt := 129) hx hb dM_decode_109 (by decide) (fun h109 => ?_) (fun h109 => ?_)
                    · exfalso
                      first | exact h109 (by decide +kernel) | exact absurd h109 (by decide +kernel)
                    · refine lv_aload_n hx hb dM_decode_112 rfl (lv_at hl 4 rfl) ?_
                      refine va_get (D := (dC, dI)) (ci := 2) (v := .ref ms) (C := RM) (T := TM) (N := 6) hx hb hw inM hown hK hP 0 rfl rfl 4 (by decide) (hw _ kw_390) (fun _ h9 => h9) rfl dM_decode_113 ?_
                      refine lv_bipush (v := nI 6) hx hb dM_decode_116 (by decide +kernel) ?_
                      refine lv_iload_n hx hb dM_decode_118 rfl (lv_at hl 5 rfl) ?_
                      refine lv_imul hx hb dM_decode_119 ?_
                      refine lv_topi (fun v119 e119 => ?_)
                      obtain rfl : v119 = nI (6 * f) := e119.trans (pk_mul _ _)
                      refine lv_iload_n hx hb dM_decode_120 rfl (lv_at hl 6 rfl) ?_
                      refine lv_iadd hx hb dM_decode_121 ?_
                      refine lv_topi (fun v121 e121 => ?_)
                      obtain rfl : v121 = nI (6 * f + o) := e121.trans (nI_add _ _)
                      refine va_zald hx hb hK hP 4 1 rfl rfl (vp_in_nI (by omega) (by decide)) dM_decode_122 ?_
                      refine lv_topi (fun v122 e122 => ?_)
                      rw [nI_clamp (by omega)] at e122
                      obtain rfl : v122 = nI (sbs f o).toNat := e122.trans ((hM f hf).2.2.1 o (by omega)).2
                      refine lv_if_ne (tgt := 129) hx hb dM_decode_123 (by decide) (fun h123 => ?_) (fun h123 => ?_)
                      · have h123 := b_nf h123
                        have hn1 : 0 < ns f := by obtain ⟨j9, h9, -⟩ := (cw_has_iff _ _ _).mp (lft_0 (it := its f) (n := ns f) (w := wss f) 6 (by omega) o 0 ho hw1); omega
                        refine lv_aload_n hx hb dM_decode_129 rfl (lv_at hl 4 rfl) ?_
                        refine va_get (D := (dC, dI)) (ci := 2) (v := .ref ml) (C := RM) (T := TM) (N := 6) hx hb hw inM hown hK hP 0 rfl rfl 1 (by decide) (hw _ kw_387) (fun _ h9 => h9) rfl dM_decode_130 ?_
                        refine lv_iload_n hx hb dM_decode_133 rfl (lv_at hl 5 rfl) ?_
                        refine va_iald hx hb hK hP 1 0 rfl rfl (vp_in_nI (by omega) (by decide)) dM_decode_134 ?_
                        refine lv_topi (fun v134 e134 => ?_)
                        rw [nI_clamp (by omega)] at e134
                        obtain rfl : v134 = nI (ns f) := e134.trans (hM f hf).2.1
                        refine lv_iconst (v := nI 1) hx hb dM_decode_135 (by decide +kernel) ?_
                        refine lv_isub hx hb dM_decode_136 ?_
                        refine lv_topi (fun v136 e136 => ?_)
                        obtain rfl : v136 = nI (ns f - 1) := e136.trans (pk_sub (by omega))
                        refine lv_aload_n hx hb dM_decode_137 rfl (lv_at hl 4 rfl) ?_
                        refine lv_iload_n hx hb dM_decode_138 rfl (lv_at hl 5 rfl) ?_
                        refine lv_iload_n hx hb dM_decode_139 rfl (lv_at hl 6 rfl) ?_
                        refine lv_iload hx hb dM_decode_140 (lv_at hl 0 rfl) ?_
                        refine lv_if_eq (tgt := 150) hx hb dM_decode_142 (by decide) (fun h142 => ?_) (fun h142 => ?_)
                        · refine lv_iload hx hb dM_decode_150 (lv_at hl 3 rfl) ?_
                          refine lv_iconst (v := nI 1) hx hb dM_decode_152 (by decide +kernel) ?_
                          refine lv_isub hx hb dM_decode_153 ?_
                          refine lv_topi (fun v153 e153 => ?_)
                          obtain rfl : v153 = nI (wss f o - 1) := e153.trans (pk_sub (by omega))
                          refine vp_callSi (W.runV (As := [.int (nI f), .int (nI o), .int (nI (wss f o - 1))]) (rest := [.int (nI (ns f - 1))]) ⟨hx, hb, hml, hown, hw⟩ (c_M_place l dC dI cI cZ cJ hm ml mw mb ms mn (nI 0) ln wh bi si nu ns its wss sbs hM f o (wss f o - 1) hf ho (by omega)) (cwV 3 hw (gV kw_452 kw_454 kw_8 kw_16 kw_455) rfl rfl rfl (by decide +kernel) ⟨Nat.le_of_ble_eq_true rfl, Nat.le_of_ble_eq_true rfl⟩) (ro_preV (q0 := 0) hK hP rfl rfl) rfl rfl hl.1 rfl (lv_room (Nat.le_of_ble_eq_true rfl)) dM_decode_154 ⟨Nat.zero_le _, Nat.zero_le _⟩) (fun v154 e154 => ?_)
                          obtain ⟨j, hj, hje, rfl⟩ := plR_has e154 (lft_0 6 (by omega) o _ ho (by omega))
                          have hje2 : its f j = 2 + 64 * o + (if k < wss f o then k else wss f o - 1) := by rw [hje]; first | rw [if_pos (by omega)] | rw [if_neg (by omega)]
                          refine lv_isub hx hb dM_decode_157 ?_
                          refine lv_topi (fun v157 e157 => ?_)
                          obtain rfl : v157 = nI (ns f - 1 - j) := e157.trans (pk_sub (by omega))
                          refine lv_istore hx hb dM_decode_158 hl (by decide) rfl (fun ls hl => ?_)
                          have hl : lv_has ls 11 [(10, .int (nI (ns f - 1 - j))), (9, .int (nI 0)), (8, .int (nI k)), (6, .long z), (5, .int (nI (wss f o))), (0, .ref hm), (1, .int (nI f)), (2, .int (nI o)), (3, .long wo)] := hl
                          refine lv_lload_n hx hb dM_decode_160 rfl (lv_at hl 8 rfl) ?_
                          refine lv_iload hx hb dM_decode_161 (lv_at hl 0 rfl) ?_
                          refine vp_callSi (W.runS (As := [.long wo, .int (nI (ns f - 1 - j))]) (rest := []) ⟨hx, hb, hml, hown, hw⟩ (c_M_bit l wo (ns f - 1 - j) (by omega)) (cwS 2 hw (gS kw_441 kw_442 kw_16 kw_443) rfl rfl rfl (by decide +kernel) ⟨Nat.le_of_ble_eq_true rfl, Nat.le_of_ble_eq_true rfl⟩) preEq rfl rfl hl.1 rfl (lv_room (Nat.le_of_ble_eq_true rfl)) dM_decode_163 ⟨Nat.zero_le _, Nat.zero_le _⟩) (fun v163 e163 => ?_)
                          obtain rfl : v163 = nI (bq wo (ns f - 1 - j)) := e163
                          refine lv_iconst (v := nI 1) hx hb dM_decode_166 (by decide +kernel) ?_
                          refine lv_icmp_ne (tgt := 179) hx hb dM_decode_167 (by decide) (fun h167 => ?_) (fun h167 => ?_)
                          · have hb1 := bq_lt wo (ns f - 1 - j)
                            rw [nI_eq (by omega) (by omega)] at h167
                            refine lv_iinc (k := 2) (v := nI (k + 1)) hx hb dM_decode_179 hl rfl (cw_inc _) (by decide) rfl (fun ls hl => ?_)
                            have hl : lv_has ls 11 [(8, .int (nI (k + 1))), (10, .int (nI (ns f - 1 - j))), (9, .int (nI 0)), (6, .long z), (5, .int (nI (wss f o))), (0, .ref hm), (1, .int (nI f)), (2, .int (nI o)), (3, .long wo)] := hl
                            refine lv_goto (tgt := 86) hx hb dM_decode_182 (by decide) ?_
                            exact ih86 _ (by omega) (k + 1) z _ _ ls rfl (lv_sub (l' := [(8, .int (nI (k + 1))), (6, .long z), (5, .int (nI (wss f o))), (0, .ref hm), (1, .int (nI f)), (2, .int (nI o)), (3, .long wo)]) hl [0, 3, 4, 5, 6, 7, 8] rfl) (by omega) (by first | (rw [e176, e175]; exact dcI_o hok hI (by omega) hj hje2 (by first | exact Or.inr h123 | exact Or.inl (by omega)) h167) | exact dcI_z hok hI (by omega) hj hje2 (by omega)) hP hD hS
                          · have hb1 := bq_lt wo (ns f - 1 - j)
                            rw [nI_eq (by omega) (by omega)] at h167
                            refine lv_lload hx hb dM_decode_170 (lv_at hl 3 rfl) ?_
                            refine lv_lconst (v := lN 1) hx hb dM_decode_172 (by decide +kernel) ?_
                            refine lv_iload hx hb dM_decode_173 (lv_at hl 2 rfl) ?_
                            refine lv_lshl hx hb dM_decode_175 rfl ?_
                            refine lv_topl (fun v175 e175 => ?_)
                            refine lv_lor hx hb dM_decode_176 ?_
                            refine lv_topl (fun v176 e176 => ?_)
                            refine lv_lstore hx hb dM_decode_177 hl (by decide) rfl (fun ls hl => ?_)
                            have hl : lv_has ls 11 [(6, .long v176), (10, .int (nI (ns f - 1 - j))), (9, .int (nI 0)), (8, .int (nI k)), (5, .int (nI (wss f o))), (0, .ref hm), (1, .int (nI f)), (2, .int (nI o)), (3, .long wo)] := hl
                            refine lv_iinc (k := 3) (v := nI (k + 1)) hx hb dM_decode_179 hl rfl (cw_inc _) (by decide) rfl (fun ls hl => ?_)
                            have hl : lv_has ls 11 [(8, .int (nI (k + 1))), (6, .long v176), (10, .int (nI (ns f - 1 - j))), (9, .int (nI 0)), (5, .int (nI (wss f o))), (0, .ref hm), (1, .int (nI f)), (2, .int (nI o)), (3, .long wo)] := hl
                            refine lv_goto (tgt := 86) hx hb dM_decode_182 (by decide) ?_
                            exact ih86 _ (by omega) (k + 1) v176 _ _ ls rfl (lv_sub (l' := [(8, .int (nI (k + 1))), (6, .long v176), (5, .int (nI (wss f o))), (0, .ref hm), (1, .int (nI f)), (2, .int (nI o)), (3, .long wo)]) hl [0, 1, 4, 5, 6, 7, 8] rfl) (by omega) (by first | (rw [e176, e175]; exact dcI_o hok hI (by omega) hj hje2 (by first | exact Or.inr h123 | exact Or.inl (by omega)) h167) | exact dcI_z hok hI (by omega) hj hje2 (by omega)) hP hD hS
                        · exfalso
                          first | exact h142 (by decide +kernel) | exact absurd h142 (by decide +kernel)
                      · rw [b_nat0] at h123
                        refine lv_goto (tgt := 185) hx hb dM_decode_126 (by decide) ?_
                        refine lv_lload hx hb dM_decode_185 (lv_at hl 2 rfl) ?_
                        have hcd : cdDec ns its wss (nI f) (nI o) wo = 0 := by unfold cdDec; first | (rw [h12]; rfl) | (rw [thr_t hf ho hw1, if_pos rfl, hff, if_neg (by omega)]) | (rw [thr_t hf ho hw1, if_pos rfl, hff, if_pos (by omega), h55]; rfl)
                        exact W.lret (v := z) hx hb hr (fun t ht hW => ⟨⟨_, (), rfl, (by intro h0; first | exact absurd (hcd.symm.trans h0) (by decide) | (rw [hff, hfo]; first | exact dcI_end (by omega) hI | (rw [h123] at hI ⊢; exact dcI_stop hI (by omega)))), by rw [ht, hcd]; exact hP, va_K.moved hW.alike hK, by rw [hcd]; exact hD⟩, hS.F ht⟩) hS.2.2 dM_decode_187
                  · rw [nI_leI (by omega) (by omega)] at h97
                    refine lv_iconst (v := nI 1) hx hb dM_decode_100 (by decide +kernel) ?_
                    refine lv_goto (tgt := 105) hx hb dM_decode_101 (by decide) ?_
                    refine lv_istore hx hb dM_decode_105 hl (by decide) rfl (fun ls hl => ?_)
                    have hl : lv_has ls 11 [(9, .int (nI 1)), (8, .int (nI k)), (6, .long z), (5, .int (nI (wss f o))), (0, .ref hm), (1, .int (nI f)), (2, .int (nI o)), (3, .long wo)] := hl
                    refine lv_iload hx hb dM_decode_107 (lv_at hl 0 rfl) ?_
                    refine lv_if_ne (tgt := 129) hx hb dM_decode_109 (by decide) (fun h109 => ?_) (fun h109 => ?_)
                    · have hn1 : 0 < ns f := by obtain ⟨j9, h9, -⟩ := (cw_has_iff _ _ _).mp (lft_0 (it := its f) (n := ns f) (w := wss f) 6 (by omega) o 0 ho hw1); omega
                      refine lv_aload_n hx hb dM_decode_129 rfl (lv_at hl 4 rfl) ?_
                      refine va_get (D := (dC, dI)) (ci := 2) (v := .ref ml) (C := RM) (T := TM) (N := 6) hx hb hw inM hown hK hP 0 rfl rfl 1 (by decide) (hw _ kw_387) (fun _ h9 => h9) rfl dM_decode_130 ?_
                      refine lv_iload_n hx hb dM_decode_133 rfl (lv_at hl 5 rfl) ?_
                      refine va_iald hx hb hK hP 1 0 rfl rfl (vp_in_nI (by omega) (by decide)) dM_decode_134 ?_
                      refine lv_topi (fun v134 e134 => ?_)
                      rw [nI_clamp (by omega)] at e134
                      obtain rfl : v134 = nI (ns f) := e134.trans (hM f hf).2.1
                      refine lv_iconst (v := nI 1) hx hb dM_decode_135 (by decide +kernel) ?_
                      refine lv_isub hx hb dM_decode_136 ?_
                      refine lv_topi (fun v136 e136 => ?_)
                      obtain rfl : v136 = nI (ns f - 1) := e136.trans (pk_sub (by omega))
                      refine lv_aload_n hx hb dM_decode_137 rfl (lv_at hl 4 rfl) ?_
                      refine lv_iload_n hx hb dM_decode_138 rfl (lv_at hl 5 rfl) ?_
                      refine lv_iload_n hx hb dM_decode_139 rfl (lv_at hl 6 rfl) ?_
                      refine lv_iload hx hb dM_decode_140 (lv_at hl 0 rfl) ?_
                      refine lv_if_eq (tgt := 150) hx hb dM_decode_142 (by decide) (fun h142 => ?_) (fun h142 => ?_)
                      · exfalso
                        first | exact h142 (by decide +kernel) | exact absurd h142 (by decide +kernel)
                      · refine lv_iload hx hb dM_decode_145 (lv_at hl 1 rfl) ?_
                        refine lv_goto (tgt := 154) hx hb dM_decode_147 (by decide) ?_
                        refine vp_callSi (W.runV (As := [.int (nI f), .int (nI o), .int (nI k)]) (rest := [.int (nI (ns f - 1))]) ⟨hx, hb, hml, hown, hw⟩ (c_M_place l dC dI cI cZ cJ hm ml mw mb ms mn (nI 0) ln wh bi si nu ns its wss sbs hM f o k hf ho (by omega)) (cwV 3 hw (gV kw_452 kw_454 kw_8 kw_16 kw_455) rfl rfl rfl (by decide +kernel) ⟨Nat.le_of_ble_eq_true rfl, Nat.le_of_ble_eq_true rfl⟩) (ro_preV (q0 := 0) hK hP rfl rfl) rfl rfl hl.1 rfl (lv_room (Nat.le_of_ble_eq_true rfl)) dM_decode_154 ⟨Nat.zero_le _, Nat.zero_le _⟩) (fun v154 e154 => ?_)
                        obtain ⟨j, hj, hje, rfl⟩ := plR_has e154 (lft_0 6 (by omega) o _ ho (by omega))
                        have hje2 : its f j = 2 + 64 * o + (if k < wss f o then k else wss f o - 1) := by rw [hje]; first | rw [if_pos (by omega)] | rw [if_neg (by omega)]
                        refine lv_isub hx hb dM_decode_157 ?_
                        refine lv_topi (fun v157 e157 => ?_)
                        obtain rfl : v157 = nI (ns f - 1 - j) := e157.trans (pk_sub (by omega))
                        refine lv_istore hx hb dM_decode_158 hl (by decide) rfl (fun ls hl => ?_)
                        have hl : lv_has ls 11 [(10, .int (nI (ns f - 1 - j))), (9, .int (nI 1)), (8, .int (nI k)), (6, .long z), (5, .int (nI (wss f o))), (0, .ref hm), (1, .int (nI f)), (2, .int (nI o)), (3, .long wo)] := hl
                        refine lv_lload_n hx hb dM_decode_160 rfl (lv_at hl 8 rfl) ?_
                        refine lv_iload hx hb dM_decode_161 (lv_at hl 0 rfl) ?_
                        refine vp_callSi (W.runS (As := [.long wo, .int (nI (ns f - 1 - j))]) (rest := []) ⟨hx, hb, hml, hown, hw⟩ (c_M_bit l wo (ns f - 1 - j) (by omega)) (cwS 2 hw (gS kw_441 kw_442 kw_16 kw_443) rfl rfl rfl (by decide +kernel) ⟨Nat.le_of_ble_eq_true rfl, Nat.le_of_ble_eq_true rfl⟩) preEq rfl rfl hl.1 rfl (lv_room (Nat.le_of_ble_eq_true rfl)) dM_decode_163 ⟨Nat.zero_le _, Nat.zero_le _⟩) (fun v163 e163 => ?_)
                        obtain rfl : v163 = nI (bq wo (ns f - 1 - j)) := e163
                        refine lv_iconst (v := nI 1) hx hb dM_decode_166 (by decide +kernel) ?_
                        refine lv_icmp_ne (tgt := 179) hx hb dM_decode_167 (by decide) (fun h167 => ?_) (fun h167 => ?_)
                        · have hb1 := bq_lt wo (ns f - 1 - j)
                          rw [nI_eq (by omega) (by omega)] at h167
                          refine lv_iinc (k := 2) (v := nI (k + 1)) hx hb dM_decode_179 hl rfl (cw_inc _) (by decide) rfl (fun ls hl => ?_)
                          have hl : lv_has ls 11 [(8, .int (nI (k + 1))), (10, .int (nI (ns f - 1 - j))), (9, .int (nI 1)), (6, .long z), (5, .int (nI (wss f o))), (0, .ref hm), (1, .int (nI f)), (2, .int (nI o)), (3, .long wo)] := hl
                          refine lv_goto (tgt := 86) hx hb dM_decode_182 (by decide) ?_
                          exact ih86 _ (by omega) (k + 1) z _ _ ls rfl (lv_sub (l' := [(8, .int (nI (k + 1))), (6, .long z), (5, .int (nI (wss f o))), (0, .ref hm), (1, .int (nI f)), (2, .int (nI o)), (3, .long wo)]) hl [0, 3, 4, 5, 6, 7, 8] rfl) (by omega) (by first | (rw [e176, e175]; exact dcI_o hok hI (by omega) hj hje2 (by first | exact Or.inr h123 | exact Or.inl (by omega)) h167) | exact dcI_z hok hI (by omega) hj hje2 (by omega)) hP hD hS
                        · have hb1 := bq_lt wo (ns f - 1 - j)
                          rw [nI_eq (by omega) (by omega)] at h167
                          refine lv_lload hx hb dM_decode_170 (lv_at hl 3 rfl) ?_
                          refine lv_lconst (v := lN 1) hx hb dM_decode_172 (by decide +kernel) ?_
                          refine lv_iload hx hb dM_decode_173 (lv_at hl 2 rfl) ?_
                          refine lv_lshl hx hb dM_decode_175 rfl ?_
                          refine lv_topl (fun v175 e175 => ?_)
                          refine lv_lor hx hb dM_decode_176 ?_
                          refine lv_topl (fun v176 e176 => ?_)
                          refine lv_lstore hx hb dM_decode_177 hl (by decide) rfl (fun ls hl => ?_)
                          have hl : lv_has ls 11 [(6, .long v176), (10, .int (nI (ns f - 1 - j))), (9, .int (nI 1)), (8, .int (nI k)), (5, .int (nI (wss f o))), (0, .ref hm), (1, .int (nI f)), (2, .int (nI o)), (3, .long wo)] := hl
                          refine lv_iinc (k := 3) (v := nI (k + 1)) hx hb dM_decode_179 hl rfl (cw_inc _) (by decide) rfl (fun ls hl => ?_)
                          have hl : lv_has ls 11 [(8, .int (nI (k + 1))), (6, .long v176), (10, .int (nI (ns f - 1 - j))), (9, .int (nI 1)), (5, .int (nI (wss f o))), (0, .ref hm), (1, .int (nI f)), (2, .int (nI o)), (3, .long wo)] := hl
                          refine lv_goto (tgt := 86) hx hb dM_decode_182 (by decide) ?_
                          exact ih86 _ (by omega) (k + 1) v176 _ _ ls rfl (lv_sub (l' := [(8, .int (nI (k + 1))), (6, .long v176), (5, .int (nI (wss f o))), (0, .ref hm), (1, .int (nI f)), (2, .int (nI o)), (3, .long wo)]) hl [0, 1, 4, 5, 6, 7, 8] rfl) (by omega) (by first | (rw [e176, e175]; exact dcI_o hok hI (by omega) hj hje2 (by first | exact Or.inr h123 | exact Or.inl (by omega)) h167) | exact dcI_z hok hI (by omega) hj hje2 (by omega)) hP hD hS
                    · exfalso
                      first | exact h109 (by decide +kernel) | exact absurd h109 (by decide +kernel)
            · exfalso
              first | exact h67 (by decide +kernel) | exact absurd h67 (by decide +kernel)
          · rw [b_nat0] at h55
            refine lv_iconst (v := nI 1) hx hb dM_decode_58 (by decide +kernel) ?_
            refine lv_goto (tgt := 63) hx hb dM_decode_59 (by decide) ?_
            refine lv_iconst (v := nI 3) hx hb dM_decode_63 (by decide +kernel) ?_
            have hPc := hP.sub (ws' := [(hm, .inr (2, [.int (nI 0), .ref ml, .ref mw, .ref mb, .ref ms, .ref mn])), (ml, .inl (cI, 8, .inl ln)), (mw, .inl (cI, 512, .inl wh)), (mb, .inl (cI, 48, .inl bi)), (ms, .inl (cZ, 48, .inl si)), (mn, .inl (cJ, 6, .inr (.inl nu)))]) [0, 1, 2, 3, 4, 5] rfl
            have hDc := hD.sub (ws' := [(hm, .inr (2, [.int (nI 0), .ref ml, .ref mw, .ref mb, .ref ms, .ref mn])), (ml, .inl (cI, 8, .inl ln)), (mw, .inl (cI, 512, .inl wh)), (mb, .inl (cI, 48, .inl bi)), (ms, .inl (cZ, 48, .inl si)), (mn, .inl (cJ, 6, .inr (.inl nu)))]) [0, 1, 2, 3, 4, 5] (by decide) rfl
            have hKc := hK.sub (tys' := [(cI, .int), (cZ, .boolean), (cJ, .long)]) [0, 1, 2] rfl
            have hFc := va_free (wc := [(hm, .inr (2, [.int (nI 0), .ref ml, .ref mw, .ref mb, .ref ms, .ref mn])), (ml, .inl (cI, 8, .inl ln)), (mw, .inl (cI, 512, .inl wh)), (mb, .inl (cI, 48, .inl bi)), (ms, .inl (cZ, 48, .inl si)), (mn, .inl (cJ, 6, .inr (.inl nu)))]) hD hS hA [0, 1, 2, 3, 4, 5] rfl
            refine va_calli (va_runV (As := [.int (nI 1), .int (nI 3)]) (rest := []) ⟨hx, hb, hml, hown, hw⟩ (c_M_fails1 l dC dI _ cI cZ cJ hm ml mw mb ms mn ln wh bi si nu 3 (by decide)) (cwV 2 hw (gV kw_420 kw_422 kw_5 kw_16 kw_423) rfl rfl rfl (by decide +kernel) ⟨Nat.le_of_ble_eq_true rfl, Nat.le_of_ble_eq_true rfl⟩) (rw_preV (q0 := 0) hKc hPc hDc rfl rfl) rfl rfl hl.1 rfl (lv_room (Nat.le_of_ble_eq_true rfl)) dM_decode_64 ⟨Nat.zero_le _, Nat.zero_le _⟩) hS (fun q _ h => hFc q h) hFc (fun v64 u t H1 locs ht hvm e64 hB hz1 hk1 hS => ?_)
            obtain ⟨hP1, hK1, hD1⟩ := hB
            rw [ht] at hP1
            obtain ⟨hP, hD⟩ := va_join (wr := []) (w1 := [(hm, .inr (2, [.int (nI 3), .ref ml, .ref mw, .ref mb, .ref ms, .ref mn])), (ml, .inl (cI, 8, .inl ln)), (mw, .inl (cI, 512, .inl wh)), (mb, .inl (cI, 48, .inl bi)), (ms, .inl (cZ, 48, .inl si)), (mn, .inl (cJ, 6, .inr (.inl nu)))]) hP hD [0, 1, 2, 3, 4, 5] [] rfl rfl (by decide) (by decide) hk1 hFc hP1 hD1
            generalize H1 = H at hP hS ⊢
            have hP : va_P (dC, dI) cls3 [(hm, .inr (2, [.int (nI 3), .ref ml, .ref mw, .ref mb, .ref ms, .ref mn])), (ml, .inl (cI, 8, .inl ln)), (mw, .inl (cI, 512, .inl wh)), (mb, .inl (cI, 48, .inl bi)), (ms, .inl (cZ, 48, .inl si)), (mn, .inl (cJ, 6, .inr (.inl nu)))] H := hP
            have hD : va_D A [(hm, .inr (2, [.int (nI 3), .ref ml, .ref mw, .ref mb, .ref ms, .ref mn])), (ml, .inl (cI, 8, .inl ln)), (mw, .inl (cI, 512, .inl wh)), (mb, .inl (cI, 48, .inl bi)), (ms, .inl (cZ, 48, .inl si)), (mn, .inl (cJ, 6, .inr (.inl nu)))] := hD
            obtain rfl : v64 = nI 1 := e64
            refine lv_if_eq (tgt := 72) hx hb dM_decode_67 (by decide) (fun h67 => ?_) (fun h67 => ?_)
            · exfalso
              first | exact h67 (by decide +kernel) | exact absurd h67 (by decide +kernel)
            · refine lv_lconst (v := lN 0) hx hb dM_decode_70 (by decide +kernel) ?_
              have hcd : cdDec ns its wss (nI f) (nI o) wo = 3 := by unfold cdDec; first | (rw [h12]; rfl) | (rw [thr_t hf ho hw1, if_pos rfl, hff, if_neg (by omega)]) | (rw [thr_t hf ho hw1, if_pos rfl, hff, if_pos (by omega), h55]; rfl)
              exact W.lret (v := lN 0) hx hb hr (fun t ht hW => ⟨⟨_, (), rfl, (by intro h0; first | exact absurd (hcd.symm.trans h0) (by decide) | (rw [hff, hfo]; first | exact dcI_end (by omega) hI | (rw [h123] at hI ⊢; exact dcI_stop hI (by omega)))), by rw [ht, hcd]; exact hP, va_K.moved hW.alike hK, by rw [hcd]; exact hD⟩, hS.F ht⟩) hS.2.2 dM_decode_71
      · rw [nI_le0 (by omega)] at h33
        refine lv_iconst (v := nI 1) hx hb dM_decode_36 (by decide +kernel) ?_
        refine lv_goto (tgt := 41) hx hb dM_decode_37 (by decide) ?_
        refine lv_iconst (v := nI 2) hx hb dM_decode_41 (by decide +kernel) ?_
        have hPc := hP.sub (ws' := [(hm, .inr (2, [.int (nI 0), .ref ml, .ref mw, .ref mb, .ref ms, .ref mn])), (ml, .inl (cI, 8, .inl ln)), (mw, .inl (cI, 512, .inl wh)), (mb, .inl (cI, 48, .inl bi)), (ms, .inl (cZ, 48, .inl si)), (mn, .inl (cJ, 6, .inr (.inl nu)))]) [0, 1, 2, 3, 4, 5] rfl
        have hDc := hD.sub (ws' := [(hm, .inr (2, [.int (nI 0), .ref ml, .ref mw, .ref mb, .ref ms, .ref mn])), (ml, .inl (cI, 8, .inl ln)), (mw, .inl (cI, 512, .inl wh)), (mb, .inl (cI, 48, .inl bi)), (ms, .inl (cZ, 48, .inl si)), (mn, .inl (cJ, 6, .inr (.inl nu)))]) [0, 1, 2, 3, 4, 5] (by decide) rfl
        have hKc := hK.sub (tys' := [(cI, .int), (cZ, .boolean), (cJ, .long)]) [0, 1, 2] rfl
        have hFc := va_free (wc := [(hm, .inr (2, [.int (nI 0), .ref ml, .ref mw, .ref mb, .ref ms, .ref mn])), (ml, .inl (cI, 8, .inl ln)), (mw, .inl (cI, 512, .inl wh)), (mb, .inl (cI, 48, .inl bi)), (ms, .inl (cZ, 48, .inl si)), (mn, .inl (cJ, 6, .inr (.inl nu)))]) hD hS hA [0, 1, 2, 3, 4, 5] rfl
        refine va_calli (va_runV (As := [.int (nI 1), .int (nI 2)]) (rest := []) ⟨hx, hb, hml, hown, hw⟩ (c_M_fails1 l dC dI _ cI cZ cJ hm ml mw mb ms mn ln wh bi si nu 2 (by decide)) (cwV 2 hw (gV kw_420 kw_422 kw_5 kw_16 kw_423) rfl rfl rfl (by decide +kernel) ⟨Nat.le_of_ble_eq_true rfl, Nat.le_of_ble_eq_true rfl⟩) (rw_preV (q0 := 0) hKc hPc hDc rfl rfl) rfl rfl hl.1 rfl (lv_room (Nat.le_of_ble_eq_true rfl)) dM_decode_42 ⟨Nat.zero_le _, Nat.zero_le _⟩) hS (fun q _ h => hFc q h) hFc (fun v42 u t H1 locs ht hvm e42 hB hz1 hk1 hS => ?_)
        obtain ⟨hP1, hK1, hD1⟩ := hB
        rw [ht] at hP1
        obtain ⟨hP, hD⟩ := va_join (wr := []) (w1 := [(hm, .inr (2, [.int (nI 2), .ref ml, .ref mw, .ref mb, .ref ms, .ref mn])), (ml, .inl (cI, 8, .inl ln)), (mw, .inl (cI, 512, .inl wh)), (mb, .inl (cI, 48, .inl bi)), (ms, .inl (cZ, 48, .inl si)), (mn, .inl (cJ, 6, .inr (.inl nu)))]) hP hD [0, 1, 2, 3, 4, 5] [] rfl rfl (by decide) (by decide) hk1 hFc hP1 hD1
        generalize H1 = H at hP hS ⊢
        have hP : va_P (dC, dI) cls3 [(hm, .inr (2, [.int (nI 2), .ref ml, .ref mw, .ref mb, .ref ms, .ref mn])), (ml, .inl (cI, 8, .inl ln)), (mw, .inl (cI, 512, .inl wh)), (mb, .inl (cI, 48, .inl bi)), (ms, .inl (cZ, 48, .inl si)), (mn, .inl (cJ, 6, .inr (.inl nu)))] H := hP
        have hD : va_D A [(hm, .inr (2, [.int (nI 2), .ref ml, .ref mw, .ref mb, .ref ms, .ref mn])), (ml, .inl (cI, 8, .inl ln)), (mw, .inl (cI, 512, .inl wh)), (mb, .inl (cI, 48, .inl bi)), (ms, .inl (cZ, 48, .inl si)), (mn, .inl (cJ, 6, .inr (.inl nu)))] := hD
        obtain rfl : v42 = nI 1 := e42
        refine lv_if_ne (tgt := 70) hx hb dM_decode_45 (by decide) (fun h45 => ?_) (fun h45 => ?_)
        · refine lv_lconst (v := lN 0) hx hb dM_decode_70 (by decide +kernel) ?_
          have hcd : cdDec ns its wss (nI f) (nI o) wo = 2 := by unfold cdDec; first | (rw [h12]; rfl) | (rw [thr_t hf ho hw1, if_pos rfl, hff, if_neg (by omega)]) | (rw [thr_t hf ho hw1, if_pos rfl, hff, if_pos (by omega), h55]; rfl)
          exact W.lret (v := lN 0) hx hb hr (fun t ht hW => ⟨⟨_, (), rfl, (by intro h0; first | exact absurd (hcd.symm.trans h0) (by decide) | (rw [hff, hfo]; first | exact dcI_end (by omega) hI | (rw [h123] at hI ⊢; exact dcI_stop hI (by omega)))), by rw [ht, hcd]; exact hP, va_K.moved hW.alike hK, by rw [hcd]; exact hD⟩, hS.F ht⟩) hS.2.2 dM_decode_71
        · exfalso
          first | exact h45 (by decide +kernel) | exact absurd h45 (by decide +kernel)
  · rw [b_nat0] at h12
    refine lv_iconst (v := nI 1) hx hb dM_decode_15 (by decide +kernel) ?_
    refine lv_goto (tgt := 20) hx hb dM_decode_16 (by decide) ?_
    refine lv_iconst (v := nI 1) hx hb dM_decode_20 (by decide +kernel) ?_
    have hPc := hP.sub (ws' := [(hm, .inr (2, [.int (nI 0), .ref ml, .ref mw, .ref mb, .ref ms, .ref mn])), (ml, .inl (cI, 8, .inl ln)), (mw, .inl (cI, 512, .inl wh)), (mb, .inl (cI, 48, .inl bi)), (ms, .inl (cZ, 48, .inl si)), (mn, .inl (cJ, 6, .inr (.inl nu)))]) [0, 1, 2, 3, 4, 5] rfl
    have hDc := hD.sub (ws' := [(hm, .inr (2, [.int (nI 0), .ref ml, .ref mw, .ref mb, .ref ms, .ref mn])), (ml, .inl (cI, 8, .inl ln)), (mw, .inl (cI, 512, .inl wh)), (mb, .inl (cI, 48, .inl bi)), (ms, .inl (cZ, 48, .inl si)), (mn, .inl (cJ, 6, .inr (.inl nu)))]) [0, 1, 2, 3, 4, 5] (by decide) rfl
    have hKc := hK.sub (tys' := [(cI, .int), (cZ, .boolean), (cJ, .long)]) [0, 1, 2] rfl
    have hFc := va_free (wc := [(hm, .inr (2, [.int (nI 0), .ref ml, .ref mw, .ref mb, .ref ms, .ref mn])), (ml, .inl (cI, 8, .inl ln)), (mw, .inl (cI, 512, .inl wh)), (mb, .inl (cI, 48, .inl bi)), (ms, .inl (cZ, 48, .inl si)), (mn, .inl (cJ, 6, .inr (.inl nu)))]) hD hS hA [0, 1, 2, 3, 4, 5] rfl
    refine va_calli (va_runV (As := [.int (nI 1), .int (nI 1)]) (rest := []) ⟨hx, hb, hml, hown, hw⟩ (c_M_fails1 l dC dI _ cI cZ cJ hm ml mw mb ms mn ln wh bi si nu 1 (by decide)) (cwV 2 hw (gV kw_420 kw_422 kw_5 kw_16 kw_423) rfl rfl rfl (by decide +kernel) ⟨Nat.le_of_ble_eq_true rfl, Nat.le_of_ble_eq_true rfl⟩) (rw_preV (q0 := 0) hKc hPc hDc rfl rfl) rfl rfl hl.1 rfl (lv_room (Nat.le_of_ble_eq_true rfl)) dM_decode_21 ⟨Nat.zero_le _, Nat.zero_le _⟩) hS (fun q _ h => hFc q h) hFc (fun v21 u t H1 locs ht hvm e21 hB hz1 hk1 hS => ?_)
    obtain ⟨hP1, hK1, hD1⟩ := hB
    rw [ht] at hP1
    obtain ⟨hP, hD⟩ := va_join (wr := []) (w1 := [(hm, .inr (2, [.int (nI 1), .ref ml, .ref mw, .ref mb, .ref ms, .ref mn])), (ml, .inl (cI, 8, .inl ln)), (mw, .inl (cI, 512, .inl wh)), (mb, .inl (cI, 48, .inl bi)), (ms, .inl (cZ, 48, .inl si)), (mn, .inl (cJ, 6, .inr (.inl nu)))]) hP hD [0, 1, 2, 3, 4, 5] [] rfl rfl (by decide) (by decide) hk1 hFc hP1 hD1
    generalize H1 = H at hP hS ⊢
    have hP : va_P (dC, dI) cls3 [(hm, .inr (2, [.int (nI 1), .ref ml, .ref mw, .ref mb, .ref ms, .ref mn])), (ml, .inl (cI, 8, .inl ln)), (mw, .inl (cI, 512, .inl wh)), (mb, .inl (cI, 48, .inl bi)), (ms, .inl (cZ, 48, .inl si)), (mn, .inl (cJ, 6, .inr (.inl nu)))] H := hP
    have hD : va_D A [(hm, .inr (2, [.int (nI 1), .ref ml, .ref mw, .ref mb, .ref ms, .ref mn])), (ml, .inl (cI, 8, .inl ln)), (mw, .inl (cI, 512, .inl wh)), (mb, .inl (cI, 48, .inl bi)), (ms, .inl (cZ, 48, .inl si)), (mn, .inl (cJ, 6, .inr (.inl nu)))] := hD
    obtain rfl : v21 = nI 1 := e21
    refine lv_if_ne (tgt := 70) hx hb dM_decode_24 (by decide) (fun h24 => ?_) (fun h24 => ?_)
    · refine lv_lconst (v := lN 0) hx hb dM_decode_70 (by decide +kernel) ?_
      have hcd : cdDec ns its wss x y wo = 1 := by unfold cdDec; first | (rw [h12]; rfl) | (rw [thr_t hf ho hw1, if_pos rfl, hff, if_neg (by omega)]) | (rw [thr_t hf ho hw1, if_pos rfl, hff, if_pos (by omega), h55]; rfl)
      exact W.lret (v := lN 0) hx hb hr (fun t ht hW => ⟨⟨_, (), rfl, (by intro h0; first | exact absurd (hcd.symm.trans h0) (by decide) | (rw [hff, hfo]; first | exact dcI_end (by omega) hI | (rw [h123] at hI ⊢; exact dcI_stop hI (by omega)))), by rw [ht, hcd]; exact hP, va_K.moved hW.alike hK, by rw [hcd]; exact hD⟩, hS.F ht⟩) hS.2.2 dM_decode_71
    · exfalso
      first | exact h24 (by decide +kernel) | exact absurd h24 (by decide +kernel)
