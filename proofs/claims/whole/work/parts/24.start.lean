theorem xWs_tbl : ∀ w ∈ xWs, w ∈ lw_tbl := by decide +kernel
theorem xStr_tbl : ∀ q ∈ xStr, Cond.stringRef RX q.1 q.2 ∈ lw_tbl := by decide +kernel
theorem ty_of {s : State} {args : Array Value} {t : FieldType} (ht : ∀ C, t ≠ .object C) (h : (Cond.arrayClass t).before args s = true) : ∃ cA : ClassId, ArrOfT s cA t ∧ va_RA s cA t := by
  obtain ⟨cA, k, comp, h1, h2, h3⟩ := Cond.arrayClass_spec h
  refine ⟨cA, fun n z => ⟨fun k h => (by cases h), k, h2, comp, h3⟩, ?_⟩
  cases t <;> first | exact h1 | exact absurd rfl (ht _)
theorem tyR_of {s : State} {args : Array Value} {C : String} (h : (Cond.arrayOver (.object C)).before args s = true) : ∃ cA : ClassId, ArrOfT s cA (.object C) ∧ va_RA s cA (.object C) := by
  obtain ⟨comp, cA, k, h1, h2, h3, h4, h5⟩ := Cond.arrayOver_spec h
  exact ⟨cA, fun n z => ⟨fun k h => (by cases h), k, h3, comp, h4⟩, k, comp, h3, h4, h1, h5⟩
theorem fR_0 : fR 0 (fun _ => 0) (fun _ => 0) (fun _ => false) (fun _ => 0) (fun _ => 0) (fun _ => 0) (fun _ => 0) :=
  ⟨⟨Nat.zero_le _, fun _ _ => Nat.zero_le _, fun j hj => absurd hj (Nat.not_lt_zero _), fun i j hi => absurd hi (Nat.not_lt_zero _)⟩, fun _ _ => rfl, fun _ _ => rfl, fun j hj => absurd hj (Nat.not_lt_zero _)⟩
theorem xR_0 : xR (fun _ => 0) (fun _ _ => 0) (fun _ _ => 0) (fun _ _ => false) (fun _ _ => 0) (fun _ _ => 0) (fun _ _ => 0) (fun _ _ => 0) := fun _ _ => fR_0
theorem mR_0 : mR (fun _ => 0) (fun _ _ => 0) (fun _ _ => 0) (fun _ _ => false) (fun _ => 0) (fun _ => 0) (fun _ => 0) (fun _ => 0) :=
  fun _ _ => ⟨fR_0.1, rfl, fun _ _ => ⟨rfl, rfl⟩, fun j hj => absurd hj (Nat.not_lt_zero _)⟩
def d3 {α : Type} (a b c : α) : Nat → α := fun k => match k with
  | 0 => a
  | 1 => b
  | _ => c
set_option maxHeartbeats 4000000 in
set_option maxRecDepth 100000 in
/-- from the entry, for every script of at most 2560 ints, the law comes to its end with true -/
theorem whole_start {p : Program} {e : Env} {s : State} {m : MethodId} {below : List Frame} {meth : Method} {c : Code} (l : Launch) (hl0 : l.stackTraces = false) {b L : Nat} {xs : Nat → Int32} (hL : L ≤ 2560) (C0 : lw_At p s m meth c b L xs) : W p l e room_1 s m #[Value.ref b] below meth c s.heap [] 0 0 (lw_Z below #[Value.ref b] s) (entryFrame m ([Value.ref b] : List Value).toArray 8) := by
  obtain ⟨hx, hb, hr, hml, hown, hts, hX, hbl, hlocks, hgv⟩ := C0
  have hw : ∀ w ∈ wA, w.before #[Value.ref b] s = true := fun w h => hts w (List.mem_filter.mp h).1
  have hfl := flat_of_before _ hgv
  obtain ⟨cF, iF, kF⟩ := u_known (C := RF) (T := TF) (N := 5) hw inF (hw _ kw_34)
  obtain ⟨cX, iX, kX⟩ := u_known (C := RX) (T := TX) (N := 2) hw inX (hw _ kw_25)
  obtain ⟨cM, iM, kM⟩ := u_known (C := RM) (T := TM) (N := 6) hw inM (hw _ kw_381)
  have hO : va_AO RF s := va_AO.of (hts _ (List.mem_of_getElem? (i := 33) (by decide +kernel)))
  obtain ⟨cR, r1, r2⟩ := tyR_of (C := RF) (hts _ (List.mem_of_getElem? (i := 33) (by decide +kernel)))
  obtain ⟨cI, i1, i2⟩ := ty_of (by intro C h; cases h) (hw _ kw_57)
  obtain ⟨cZ, z1, z2⟩ := ty_of (by intro C h; cases h) (hw _ kw_58)
  obtain ⟨cJ, j1, j2⟩ := ty_of (by intro C h; cases h) (hw _ kw_66)
  have hK : va_K (d3 cF cX cM, d3 iF iX iM) cls3 (tL cR cI cZ cJ) s := by
    refine ⟨fun c q hq => ?_, fun k q hq => ?_⟩
    · match c, hq with
      | 0, hq => cases hq; exact kF
      | 1, hq => cases hq; exact kX
      | 2, hq => cases hq; exact kM
      | n + 3, hq => cases hq
    · match k, hq with
      | 0, hq => cases hq; exact ⟨r1, r2⟩
      | 1, hq => cases hq; exact ⟨i1, i2⟩
      | 2, hq => cases hq; exact ⟨z1, z2⟩
      | 3, hq => cases hq; exact ⟨j1, j2⟩
      | n + 4, hq => cases hq
  have hsx : ∀ i : Nat, ∃ a : Nat, ∀ q : Nat × String, xStr[i]? = some q → vk_R RX q.1 q.2 a s := by
    intro i
    cases hi : xStr[i]? with
    | none => exact ⟨0, fun q h => by cases h⟩
    | some q =>
      have hsr := hts _ (xStr_tbl q (List.mem_of_getElem? hi))
      obtain ⟨-, -, -, a, -, -, -, -, -, hev⟩ := Cond.stringRef_spec kX.2.1 hsr
      exact ⟨a, fun q' h => by cases h; exact vk_R.of hsr hev⟩
  obtain ⟨sa, hsa⟩ := Classical.axiomOfChoice hsx
  have hV : xV sa s := ⟨fun w hw9 => va_Nw.of (xWs_on w hw9) (hts w (xWs_tbl w hw9)), hsa⟩
  have hZ : xZ s s.heap := ⟨tzS.of (hts _ (List.mem_of_getElem? (i := 106) (by decide +kernel))) (hw _ kw_17) (hfl _ (by decide +kernel)), tzS.of (hts _ (List.mem_of_getElem? (i := 108) (by decide +kernel))) (hw _ kw_17) (hfl _ (by decide +kernel))⟩
  have hN : lN9 s := ⟨va_Nc.of (hfl _ (by decide +kernel)), va_Nc.of (hfl _ (by decide +kernel)), va_Nc.of (hfl _ (by decide +kernel)), va_Nc.of (hfl _ (by decide +kernel)), va_Nc.of (hfl _ (by decide +kernel))⟩
  generalize d3 cF cX cM = dC at hK
  generalize d3 iF iX iM = dI at hK
  have hA : ∀ q : Nat, s.heap.size ≤ q → (fun q => s.heap.size ≤ q) q := fun q h => h
  have C : LC p l s m c b L xs dC dI sa cR cI cZ cJ (fun q => s.heap.size ≤ q) := ⟨hx, hb, hml, hown, hw, hX, hbl, hK, hV, hZ, hN, hl0, hL, hA, fun q h1 h2 => by omega⟩
  have hS : va_S (fun q => s.heap.size ≤ q) s.heap s.heap [] := va_S.rf
  have hP : va_P (dC, dI) cls3 [] s.heap := fun k q hq => by cases hq
  have hD : va_D (fun q => s.heap.size ≤ q) ([] : va_W) := ⟨fun _ _ _ _ hp => (by cases hp), fun _ _ hq => (by cases hq)⟩
  have hl := lv_entry ([.ref b]) (n := 8) (Nat.le_of_ble_eq_true rfl)
  rw [lg_entry_eq]
  generalize (lg_sl ([.ref b]) ++ List.replicate (8 - (lg_sl ([.ref b])).length) Slot.unset).toArray = ls at hl ⊢
  have hl : lv_has ls 8 [(0, .ref b)] := hl
  refine va_new (ci := 1) (fs := [.null, .null]) (C := RX) (T := TX) (N := 2) hx hb hw inX tX tX_ok hown (hw _ kw_24) (hw _ kw_25) (hw _ kw_14) hK hP hD hS hA rfl (fun j hj => by rcases (show j = 0 ∨ j = 1 by omega) with rfl | rfl <;> rfl) (Nat.le_of_ble_eq_true rfl) (Nat.le_of_ble_eq_true rfl) dL_law_0 (fun ax H hP hD hS => ?_)
  have hP : va_P (dC, dI) cls3 [(ax, .inr (1, [.null, .null]))] H := hP
  have hD : va_D (fun q => s.heap.size ≤ q) [(ax, .inr (1, [.null, .null]))] := hD
  refine lv_dup hx hb dL_law_3 rfl ?_
  have hFc := A_sub hD hS hA
  refine va_callv (va_runI (As := []) (rest := [.ref ax]) ⟨hx, hb, hml, hown, hw⟩ (c_X_init l dC dI H.size cR cI cZ cJ ax) (cwI 0 hw (gI kw_28) rfl rfl rfl (hw _ kw_14) (hw _ kw_26) (hw _ kw_27) rfl (by decide +kernel) ⟨Nat.le_of_ble_eq_true rfl, Nat.le_of_ble_eq_true rfl⟩) (xi_preS hK hP hD hO) rfl rfl hl.1 rfl (lv_room (Nat.le_of_ble_eq_true rfl)) dL_law_4 ⟨Nat.le_of_ble_eq_true rfl, Nat.le_of_ble_eq_true rfl⟩) hS (fun q _ h => hFc q h) hFc (fun u t H1 locs ht hvm e4 hB hz1 hk1 hS => ?_)
  obtain ⟨hfm, hq, ha, pw, ps, po, pk, hP1, hK1, hD1⟩ := hB
  rw [ht] at hP1
  have hD1 := hD1.weaken (fun k q _ h => hFc q.1 h)
  refine lv_astore_n hx hb dL_law_7 rfl hl (by decide) rfl (fun ls hl => ?_)
  have hl : lv_has ls 8 [(1, .ref ax), (0, .ref b)] := hl
  refine va_new (ci := 2) (fs := [.int 0, .null, .null, .null, .null, .null]) (C := RM) (T := TM) (N := 6) hx hb hw inM tM tM_ok hown (hw _ kw_380) (hw _ kw_381) (hw _ kw_16) hK hP1 hD1 hS hA rfl (fun j hj => by rcases (show j = 0 ∨ j = 1 ∨ j = 2 ∨ j = 3 ∨ j = 4 ∨ j = 5 by omega) with rfl | rfl | rfl | rfl | rfl | rfl <;> rfl) (Nat.le_of_ble_eq_true rfl) (Nat.le_of_ble_eq_true rfl) dL_law_8 (fun hm H hP hD hS => ?_)
  refine lv_dup hx hb dL_law_11 rfl ?_
  have hFm := A_sub (D_right hD) hS hA
  refine va_callv (va_runI (As := []) (rest := [.ref hm]) ⟨hx, hb, hml, hown, hw⟩ (c_M_init l dC dI H.size cI cZ cJ hm) (cwI 0 hw (gI kw_384) rfl rfl rfl (hw _ kw_16) (hw _ kw_382) (hw _ kw_383) rfl (by decide +kernel) ⟨Nat.le_of_ble_eq_true rfl, Nat.le_of_ble_eq_true rfl⟩) (rw_preS (hK.sub (tys' := [(cI, .int), (cZ, .boolean), (cJ, .long)]) [1, 2, 3] rfl) (P_right hP) (D_right hD)) rfl rfl hl.1 rfl (lv_room (Nat.le_of_ble_eq_true rfl)) dL_law_12 ⟨Nat.le_of_ble_eq_true rfl, Nat.le_of_ble_eq_true rfl⟩) hS (fun q _ h => hFm q h) hFm (fun u t2 H2 locs ht2 hvm2 e12 hB2 hz2 hk2 hS => ?_)
  obtain ⟨ml, mw, mb, ms, mn, hP2, hK2, hD2⟩ := hB2
  rw [ht2] at hP2
  obtain ⟨hP, hD⟩ := join_suf hP hD hk2 hFm hP2 hD2
  refine lv_astore_n hx hb dL_law_15 rfl hl (by decide) rfl (fun ls hl => ?_)
  have hl : lv_has ls 8 [(2, .ref hm), (1, .ref ax), (0, .ref b)] := hl
  refine lv_iconst (v := nI 1) hx hb dL_law_16 (by decide +kernel) ?_
  refine va_newa (atype := .long) (a0 := (1, .inr (.inl (fun _ => 0)))) (N' := 1) (ty := .long) hx hb (hw _ kw_66) rfl hK hP hD hS hA (fun _ => rfl) (by decide +kernel) (nI_clamp (by omega)) (Nat.le_of_ble_eq_true rfl) (Nat.le_of_ble_eq_true rfl) (Nat.le_of_ble_eq_true rfl) dL_law_17 (fun hu c17 H hK9 hP hD hS => ?_)
  obtain rfl : cJ = c17 := Option.some.inj ((hK.2 3 _ rfl).2.symm.trans (hK9.2 4 _ rfl).2)
  refine lv_astore_n hx hb dL_law_19 rfl hl (by decide) rfl (fun ls hl => ?_)
  have hl : lv_has ls 8 [(3, .ref hu), (2, .ref hm), (1, .ref ax), (0, .ref b)] := hl
  refine lv_iconst (v := nI 0) hx hb dL_law_20 (by decide +kernel) ?_
  refine lv_istore hx hb dL_law_21 hl (by decide) rfl (fun ls hl => ?_)
  have hl : lv_has ls 8 [(0, .ref b), (1, .ref ax), (2, .ref hm), (3, .ref hu), (4, .int (nI (5 * 0)))] := lv_sub hl [4, 3, 2, 1, 0] rfl
  have hP9 : va_P (dC, dI) cls3 (wL cR cI cZ cJ ax hfm hq hu ha pw ps po pk (fun _ => 0) (fun _ _ => 0) (fun _ _ => 0) (fun _ _ => 0) (fun _ _ => 0) (fun _ => 0) (fun _ => 0) ++ wM cI cZ cJ hm ml mw mb ms mn 0 (fun _ => 0) (fun _ => 0) (fun _ => 0) (fun _ => 0) (fun _ => 0)) H := hP.sub [0, 1, 42, 49, 2, 3, 4, 5, 6, 7, 8, 9, 10, 11, 12, 13, 14, 15, 16, 17, 18, 19, 20, 21, 22, 23, 24, 25, 26, 27, 28, 29, 30, 31, 32, 33, 34, 35, 36, 37, 38, 39, 40, 41, 43, 44, 45, 46, 47, 48] rfl
  have hD9 : va_D (fun q => s.heap.size ≤ q) (wL cR cI cZ cJ ax hfm hq hu ha pw ps po pk (fun _ => 0) (fun _ _ => 0) (fun _ _ => 0) (fun _ _ => 0) (fun _ _ => 0) (fun _ => 0) (fun _ => 0) ++ wM cI cZ cJ hm ml mw mb ms mn 0 (fun _ => 0) (fun _ => 0) (fun _ => 0) (fun _ => 0) (fun _ => 0)) := hD.sub [0, 1, 42, 49, 2, 3, 4, 5, 6, 7, 8, 9, 10, 11, 12, 13, 14, 15, 16, 17, 18, 19, 20, 21, 22, 23, 24, 25, 26, 27, 28, 29, 30, 31, 32, 33, 34, 35, 36, 37, 38, 39, 40, 41, 43, 44, 45, 46, 47, 48] (by decide +kernel) rfl
  refine W.widen (k := 50 + 0) (n := 1805 + 6 * 0) (Nat.le_of_ble_eq_true rfl) (Nat.le_of_ble_eq_true rfl) ?_
  exact ll_loop C hr hlocks 512 0 (fun _ => 0) (fun _ _ => 0) (fun _ _ => 0) (fun _ _ => false) (fun _ => 0) H locs ls (by omega) (by omega) hl ⟨_, _, _, _, _, _, _, _, _, _, xR_0, mR_0, hP9, hD9, hS⟩
