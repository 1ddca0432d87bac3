/-! the class's constructor: eight forms, one after another -/
theorem join_suf {A0 : Nat → Prop} {D : va_G} {cl : List vw_C} {ws wc w1 : va_W} {H H1 : Heap} (hP : va_P D cl (ws ++ wc) H) (hD : va_D A0 (ws ++ wc)) (hk : ∀ q : Nat, q < H.size → ¬ va_A wc H.size q → H1[q]? = H[q]?) (hF : ∀ q, va_A wc H.size q → A0 q) (hP1 : va_P D cl w1 H1) (hD1 : va_D (va_A wc H.size) w1) : va_P D cl (ws ++ w1) H1 ∧ va_D A0 (ws ++ w1) := by
  have hl : ∀ (k : Nat) (q : Nat × va_E), ws[k]? = some q → (ws ++ wc)[k]? = some q := fun k q hq => by rw [List.getElem?_append_left (List.getElem?_eq_some_iff.mp hq).1]; exact hq
  have hr : ∀ (k : Nat) (q : Nat × va_E), wc[k]? = some q → (ws ++ wc)[ws.length + k]? = some q := fun k q hq => by rw [List.getElem?_append_right (by omega), show ws.length + k - ws.length = k by omega]; exact hq
  have apart : ∀ (k : Nat) (q : Nat × va_E), ws[k]? = some q → q.1 < H.size ∧ ¬ va_A wc H.size q.1 := by
    intro k q hq
    have h1 := (hP k q (hl k q hq)).lt
    refine ⟨h1, fun h => ?_⟩
    rcases h with ⟨j, e, h⟩ | h
    · have h2 := hD.1 k _ q (q.1, e) (hl k q hq) (hr j _ h) rfl
      have h3 := (List.getElem?_eq_some_iff.mp hq).1
      omega
    · omega
  refine ⟨va_P.app (fun k q hq => (hP k q (hl k q hq)).kept (hk q.1 (apart k q hq).1 (apart k q hq).2)) hP1, va_D.app ⟨fun i j x y hi hj e => hD.1 i j x y (hl i x hi) (hl j y hj) e, fun k q hq => hD.2 k q (hl k q hq)⟩ (hD1.weaken (fun k q _ h => hF q.1 h)) (fun i j x y hx hy hxy => (apart i x hx).2 (by rw [hxy]; exact hD1.2 j y hy))⟩
theorem join_pre {A0 : Nat → Prop} {D : va_G} {cl : List vw_C} {ws wc w1 : va_W} {H H1 : Heap} (hP : va_P D cl (wc ++ ws) H) (hD : va_D A0 (wc ++ ws)) (hk : ∀ q : Nat, q < H.size → ¬ va_A wc H.size q → H1[q]? = H[q]?) (hF : ∀ q, va_A wc H.size q → A0 q) (hP1 : va_P D cl w1 H1) (hD1 : va_D (va_A wc H.size) w1) : va_P D cl (w1 ++ ws) H1 ∧ va_D A0 (w1 ++ ws) := by
  have hl : ∀ (k : Nat) (q : Nat × va_E), wc[k]? = some q → (wc ++ ws)[k]? = some q := fun k q hq => by rw [List.getElem?_append_left (List.getElem?_eq_some_iff.mp hq).1]; exact hq
  have hr : ∀ (k : Nat) (q : Nat × va_E), ws[k]? = some q → (wc ++ ws)[wc.length + k]? = some q := fun k q hq => by rw [List.getElem?_append_right (by omega), show wc.length + k - wc.length = k by omega]; exact hq
  have apart : ∀ (k : Nat) (q : Nat × va_E), ws[k]? = some q → q.1 < H.size ∧ ¬ va_A wc H.size q.1 := by
    intro k q hq
    have h1 := (hP _ q (hr k q hq)).lt
    refine ⟨h1, fun h => ?_⟩
    rcases h with ⟨j, e, h⟩ | h
    · have h2 := hD.1 _ j q (q.1, e) (hr k q hq) (hl j _ h) rfl
      have h3 := (List.getElem?_eq_some_iff.mp h).1
      omega
    · omega
  refine ⟨va_P.app hP1 (fun k q hq => (hP _ q (hr k q hq)).kept (hk q.1 (apart k q hq).1 (apart k q hq).2)), va_D.app (hD1.weaken (fun k q _ h => hF q.1 h)) ⟨fun i j x y hi hj e => by have := hD.1 _ _ x y (hr i x hi) (hr j y hj) e; omega, fun k q hq => hD.2 _ q (hr k q hq)⟩ (fun i j x y hx hy hxy => (apart j y hy).2 (by rw [← hxy]; exact hD1.2 i x hx))⟩
theorem P_left {D : va_G} {cl : List vw_C} {a b : va_W} {H : Heap} (h : va_P D cl (a ++ b) H) : va_P D cl a H := fun k q hq => h k q (by rw [List.getElem?_append_left (List.getElem?_eq_some_iff.mp hq).1]; exact hq)
theorem P_right {D : va_G} {cl : List vw_C} {a b : va_W} {H : Heap} (h : va_P D cl (a ++ b) H) : va_P D cl b H := fun k q hq => h (a.length + k) q (by rw [List.getElem?_append_right (by omega), show a.length + k - a.length = k by omega]; exact hq)
theorem D_left {A : Nat → Prop} {a b : va_W} (h : va_D A (a ++ b)) : va_D A a := by
  have hl : ∀ (k : Nat) (q : Nat × va_E), a[k]? = some q → (a ++ b)[k]? = some q := fun k q hq => by rw [List.getElem?_append_left (List.getElem?_eq_some_iff.mp hq).1]; exact hq
  exact ⟨fun i j x y hi hj e => h.1 i j x y (hl i x hi) (hl j y hj) e, fun k q hq => h.2 k q (hl k q hq)⟩
theorem D_right {A : Nat → Prop} {a b : va_W} (h : va_D A (a ++ b)) : va_D A b := by
  have hr : ∀ (k : Nat) (q : Nat × va_E), b[k]? = some q → (a ++ b)[a.length + k]? = some q := fun k q hq => by rw [List.getElem?_append_right (by omega), show a.length + k - a.length = k by omega]; exact hq
  exact ⟨fun i j x y hi hj e => by have := h.1 _ _ x y (hr i x hi) (hr j y hj) e; omega, fun k q hq => h.2 _ q (hr k q hq)⟩
theorem A_sub {A : Nat → Prop} {w : va_W} {H0 H : Heap} {locs : List Loc} (hD : va_D A w) (hS : va_S A H0 H locs) (hA : ∀ q : Nat, H0.size ≤ q → A q) : ∀ q, va_A w H.size q → A q := fun q h => h.elim (fun ⟨k, e, h⟩ => hD.2 k (q, e) h) (fun h => hA q (Nat.le_trans hS.1 h))
abbrev fc0 (cI cZ : ClassId) (ha pw ps po pk : Nat → Nat) : Nat → va_W := fc cI cZ ha pw ps po pk (fun _ => 0) (fun _ _ => 0) (fun _ _ => 0) (fun _ _ => 0) (fun _ _ => 0)
def fak (ha : Nat → Nat) (k : Nat) : Nat → Option Nat := fun i => if i < k then some (ha i) else none
abbrev wI (cR cI cZ : ClassId) (ax hfm : Nat) (ha pw ps po pk : Nat → Nat) (k : Nat) : va_W := [(ax, .inr (1, [.ref hfm, .null])), (hfm, .inl (cR, 8, .inr (.inr (.inr (.inr (fak ha k))))))] ++ fl (fc0 cI cZ ha pw ps po pk) k
theorem fl_congr {F G : Nat → va_W} : ∀ k, (∀ i, i < k → F i = G i) → fl F k = fl G k := by
  intro k
  induction k with
  | zero => intro _; rfl
  | succ k ih => intro h; simp only [fl]; rw [ih (fun i hi => h i (by omega)), h k (by omega)]
theorem wI_next {cR cI cZ : ClassId} {ax hfm : Nat} {ha pw ps po pk : Nat → Nat} (k q p1 p2 p3 p4 : Nat) :
    ([(ax, .inr (1, [.ref hfm, .null])), (hfm, .inl (cR, 8, .inr (.inr (.inr (.inr (va_up (fak ha k) k (some q)))))))] ++ fl (fc0 cI cZ ha pw ps po pk) k ++ [(q, .inr (0, [.ref p1, .ref p2, .ref p3, .ref p4, .int (nI 0)])), (p1, .inl (cI, 6, .inl (fun _ => 0))), (p2, .inl (cZ, 6, .inl (fun _ => 0))), (p3, .inl (cI, 64, .inl (fun _ => 0))), (p4, .inl (cI, 64, .inl (fun _ => 0)))] : va_W)
      = wI cR cI cZ ax hfm (va_up ha k q) (va_up pw k p1) (va_up ps k p2) (va_up po k p3) (va_up pk k p4) (k + 1) := by
  have e1 : fak (va_up ha k q) (k + 1) = va_up (fak ha k) k (some q) := by
    funext i
    by_cases e : i = k
    · subst e; rw [va_up_self]; simp only [fak, va_up_self]; rw [if_pos (by omega)]
    · rw [va_up_ne _ _ e]; simp only [fak, va_up_ne _ _ e]
      by_cases h : i < k
      · rw [if_pos h, if_pos (by omega)]
      · rw [if_neg h, if_neg (by omega)]
  have e2 : fl (fc0 cI cZ (va_up ha k q) (va_up pw k p1) (va_up ps k p2) (va_up po k p3) (va_up pk k p4)) k = fl (fc0 cI cZ ha pw ps po pk) k := fl_congr k (fun i hi => by simp only [fc, va_up_ne _ _ (show i ≠ k by omega)])
  simp only [wI, fl]
  rw [e1, e2, List.append_assoc]
  simp only [fc, va_up_self]
theorem fl_new {a b : Nat × va_E} {F : Nat → va_W} (h : ∀ i, (F i).length = 5) {k r : Nat} {Y : va_W} {q : Nat × va_E} (hr : Y[r]? = some q) : ([a, b] ++ fl F k ++ Y)[2 + 5 * k + r]? = some q := by
  rw [List.getElem?_append_right (by simp [fl_len h]; omega)]
  simp only [List.length_append, fl_len h, List.length_cons, List.length_nil]
  rw [show 2 + 5 * k + r - (0 + 1 + 1 + 5 * k) = r by omega]
  exact hr
theorem arrV_ext {cA : ClassId} {N : Nat} {f g : Nat → Value} (h : ∀ j, j < N → f j = g j) : arrV cA N f = arrV cA N g := by
  unfold arrV
  congr 1
  apply Array.ext
  · simp
  · intro i h1 h2
    simp only [Array.getElem_ofFn]
    exact h i (by simpa using h1)
def xi_Pc (D : va_G) (cl : List vw_C) (ws : va_W) (tys : List (ClassId × FieldType)) (sz : Nat) (av : List Value) : Array Value → State → Prop := va_Pc av (fun U => U.heap.size = sz ∧ va_P D cl ws U.heap ∧ va_K D cl tys U ∧ va_D (fun _ => True) ws ∧ va_AO RF U)
section XI
variable {s : State} {H : Heap} {D : va_G} {cl : List vw_C} {ws : va_W} {tys : List (ClassId × FieldType)} {sz : Nat} {As av : List Value} {A : Nat → Prop}
theorem xi_blind : FrameBlind (xi_Pc D cl ws tys sz av) := fun a U g mk q => ⟨q.1, q.2.1, q.2.2.1, va_K.moved (u := U) (U := U.calling g mk a) (Vm.Alike.refl U.vm) q.2.2.2.1, q.2.2.2.2.1, va_AO.moved (u := U) (U := U.calling g mk a) (Vm.Alike.refl U.vm) q.2.2.2.2.2⟩
theorem xi_preS (hK : va_K D cl tys s) (hP : va_P D cl ws H) (hD : va_D A ws) (hO : va_AO RF s) : PreS s H (xi_Pc D cl ws tys H.size As) As :=
  ⟨xi_blind, fun U hU hW => ⟨rfl, by rw [hU], by rw [hU]; exact hP, va_K.moved hW.alike hK, hD.weaken (fun _ _ _ _ => trivial), va_AO.moved hW.alike hO⟩⟩
end XI
set_option maxHeartbeats 4000000 in
set_option maxRecDepth 100000 in
theorem c_X_init (l : Launch) (dC : Nat → ClassId) (dI : Nat → Nat → Nat) (sz : Nat) (cR cI cZ cJ : ClassId) (ax : Nat) : Met l yX_init wX_init { frames := 2, cells := 42, slots := 1174, locals := 32 } (xi_Pc (dC, dI) cls3 [(ax, .inr (1, [.null, .null]))] (tL cR cI cZ cJ) sz [.ref ax])
    (va_Qv (fun _ : Unit => True) (fun _ t => ∃ (hfm hq : Nat) (ha pw ps po pk : Nat → Nat), va_P (dC, dI) cls3 ([(ax, .inr (1, [.ref hfm, .ref hq])), (hfm, .inl (cR, 8, .inr (.inr (.inr (.inr (fun i => some (ha i)))))))] ++ fl (fc0 cI cZ ha pw ps po pk) 8 ++ [(hq, .inl (cJ, 6, .inr (.inl (fun _ => 0))))]) t.heap ∧ va_K (dC, dI) cls3 (tL cR cI cZ cJ) t ∧ va_D (va_A [(ax, .inr (1, [.null, .null]))] sz) ([(ax, .inr (1, [.ref hfm, .ref hq])), (hfm, .inl (cR, 8, .inr (.inr (.inr (.inr (fun i => some (ha i)))))))] ++ fl (fc0 cI cZ ha pw ps po pk) 8 ++ [(hq, .inl (cJ, 6, .inr (.inl (fun _ => 0))))])) (va_A [(ax, .inr (1, [.null, .null]))] sz)) 42 1174 (va_A [(ax, .inr (1, [.null, .null]))] sz) := by
  refine Met.ofW (cc := cX_init) (maxL := 2) (ret := none) (by decide) rfl ?_
  intro p e s m args below meth c s₁ B hml hv
  obtain ⟨rfl, hsz, hP, hK, hD0, hO⟩ := hv
  have hx := B.exec
  have hb := B.bytes
  have hr := B.returns
  have hts := atoms_spec (ws := wX_init) B.pre
  have hw : ∀ w ∈ wA, w.before _ s = true := fun w h => hts w (List.mem_cons_of_mem _ h)
  have hown : s.vm.findClass RX = some m.cls := findClass_of_methodNamed B.named
  have hlocks := B.notSynchronized
  have hin : meth.name = "<init>" := (name_of_methodNamed B.named B.method).1
  subst hsz
  have hD := hD0.self (sz := s.heap.size)
  generalize hAe : va_A [(ax, .inr (1, [.null, .null]))] s.heap.size = A at hD ⊢
  have hA : ∀ q : Nat, s.heap.size ≤ q → A q := fun q h => by rw [← hAe]; exact Or.inr h
  have hS : va_S A s.heap s.heap [] := va_S.rf
  have hl := lv_entry ([.ref ax]) (n := 2) (Nat.le_of_ble_eq_true rfl)
  rw [lg_entry_eq]
  generalize (lg_sl ([.ref ax]) ++ List.replicate (2 - (lg_sl ([.ref ax])).length) Slot.unset).toArray = ls at hl ⊢
  have hl : lv_has ls 2 [(0, .ref ax)] := hl
  refine lv_aload_n hx hb dX_init_0 rfl (lv_at hl 0 rfl) ?_
  refine W.objInit hx hb hown (hw _ kw_29) (hw _ kw_30) (hw _ kw_31) rfl (by rw [hml]; exact hl.1) rfl dX_init_1 (Nat.le_of_ble_eq_true rfl) (Nat.le_of_ble_eq_true rfl) ?_
  refine W.eq (g2 := F0 m 4 ls []) rfl ?_
  refine lv_aload_n hx hb dX_init_4 rfl (lv_at hl 0 rfl) ?_
  refine lv_bipush (v := nI 8) hx hb dX_init_5 (by decide +kernel) ?_
  refine va_newq (N' := 8) (C := RF) hx hb hown (hw _ kw_32) hO hK hP hD hS hA (by decide +kernel) (nI_clamp (by omega)) (Nat.le_of_ble_eq_true rfl) (Nat.le_of_ble_eq_true rfl) (Nat.le_of_ble_eq_true rfl) dX_init_7 (fun hfm c7 H hK9 hP hD hS => ?_)
  obtain rfl : cR = c7 := by
    obtain ⟨-, -, -, -, -, g1⟩ := (hK.2 0 _ rfl).2
    obtain ⟨-, -, -, -, -, g2⟩ := (hK9.2 4 _ rfl).2
    exact Option.some.inj (g1.symm.trans g2)
  have hP : va_P (dC, dI) cls3 [(ax, .inr (1, [.null, .null])), (hfm, .inl (cR, 8, .inr (.inr (.inr (.inr (fun _ => none))))))] H := hP
  have hD : va_D A [(ax, .inr (1, [.null, .null])), (hfm, .inl (cR, 8, .inr (.inr (.inr (.inr (fun _ => none))))))] := hD
  refine va_putF (D := (dC, dI)) (ci := 1) (v := .ref hfm) (ty := .array (.object "SliceCoder$Form")) (C := RX) (T := TX) (N := 2) hx hb hw inX tX tX_ok nX hown hK hP hD hS 0 rfl rfl 0 (by decide) (hw _ kw_59) (fun _ h9 => h9) rfl hin rfl (by decide +kernel) rfl rfl (Nat.le_of_ble_eq_true rfl) dX_init_10 (fun H locs hP hD hS => ?_)
  have hP : va_P (dC, dI) cls3 (wI cR cI cZ ax hfm (fun _ => 0) (fun _ => 0) (fun _ => 0) (fun _ => 0) (fun _ => 0) 0) H := hP
  have hD : va_D A (wI cR cI cZ ax hfm (fun _ => 0) (fun _ => 0) (fun _ => 0) (fun _ => 0) (fun _ => 0) 0) := hD
  refine lv_iconst (v := nI 0) hx hb dX_init_13 (by decide +kernel) ?_
  refine lv_istore_n hx hb dX_init_14 rfl hl (by decide) rfl (fun ls hl => ?_)
  have hl : lv_has ls 2 [(1, .int (nI 0)), (0, .ref ax)] := hl
  refine (?_ : ∀ (d k : Nat) (ha pw ps po pk : Nat → Nat) (H : Heap) (locs : List Loc) (ls : Array Slot), k + d = 8 → lv_has ls 2 [(1, .int (nI k)), (0, .ref ax)] → va_P (dC, dI) cls3 (wI cR cI cZ ax hfm ha pw ps po pk k) H → va_D A (wI cR cI cZ ax hfm ha pw ps po pk k) → va_S A s.heap H locs → W p l e _ s m _ below meth c H locs (1 + 5 * k) (8 + 145 * k) _ (F0 m 15 ls [])) 8 0 _ _ _ _ _ _ _ ls rfl hl hP hD hS
  intro d
  induction d with
  | zero =>
    intro k ha pw ps po pk H locs ls hk hl hP hD hS
    obtain rfl : k = 8 := by omega
    refine lv_iload_n hx hb dX_init_15 rfl (lv_at hl 0 rfl) ?_
    refine lv_bipush (v := nI 8) hx hb dX_init_16 (by decide +kernel) ?_
    refine lv_icmp_ge (tgt := 40) hx hb dX_init_18 (by decide) (fun h18 => ?_) (fun h18 => absurd (show nI 8 ≤ nI 8 by decide +kernel) h18)
    refine lv_aload_n hx hb dX_init_40 rfl (lv_at hl 1 rfl) ?_
    refine lv_bipush (v := nI 6) hx hb dX_init_41 (by decide +kernel) ?_
    refine va_newa (atype := .long) (a0 := (6, .inr (.inl (fun _ => 0)))) (N' := 6) (ty := .long) hx hb (hw _ kw_66) rfl hK hP hD hS hA (fun _ => rfl) (by decide +kernel) (nI_clamp (by omega)) (Nat.le_of_ble_eq_true rfl) (Nat.le_of_ble_eq_true rfl) (Nat.le_of_ble_eq_true rfl) dX_init_43 (fun hq c9 H hK9 hP hD hS => ?_)
    obtain rfl : cJ = c9 := Option.some.inj ((hK.2 3 _ rfl).2.symm.trans (hK9.2 4 _ rfl).2)
    refine va_putF (D := (dC, dI)) (ci := 1) (v := .ref hq) (ty := .array .long) (C := RX) (T := TX) (N := 2) hx hb hw inX tX tX_ok nX hown hK hP hD hS 0 rfl rfl 1 (by decide) (hw _ kw_60) (fun _ h9 => h9) rfl hin rfl (by decide +kernel) rfl rfl (Nat.le_of_ble_eq_true rfl) dX_init_45 (fun H locs hP hD hS => ?_)
    have hP : va_P (dC, dI) cls3 ([(ax, .inr (1, [.ref hfm, .ref hq])), (hfm, .inl (cR, 8, .inr (.inr (.inr (.inr (fak ha 8))))))] ++ fl (fc0 cI cZ ha pw ps po pk) 8 ++ [(hq, .inl (cJ, 6, .inr (.inl (fun _ => 0))))]) H := hP
    have hD : va_D A ([(ax, .inr (1, [.ref hfm, .ref hq])), (hfm, .inl (cR, 8, .inr (.inr (.inr (.inr (fak ha 8))))))] ++ fl (fc0 cI cZ ha pw ps po pk) 8 ++ [(hq, .inl (cJ, 6, .inr (.inl (fun _ => 0))))]) := hD
    have hP8 : va_P (dC, dI) cls3 ([(ax, .inr (1, [.ref hfm, .ref hq])), (hfm, .inl (cR, 8, .inr (.inr (.inr (.inr (fun i => some (ha i)))))))] ++ fl (fc0 cI cZ ha pw ps po pk) 8 ++ [(hq, .inl (cJ, 6, .inr (.inl (fun _ => 0))))]) H := by
      intro k q hk
      match k, hk with
      | 0, hk => exact hP 0 q hk
      | 1, hk =>
        have h1 : H[hfm]? = some (vp_cell cR (8, .inr (.inr (.inr (.inr (fak ha 8)))))) := hP 1 _ rfl
        cases hk
        show H[hfm]? = some (vp_cell cR (8, .inr (.inr (.inr (.inr (fun i => some (ha i)))))))
        rw [h1, vp_cell_q, vp_cell_q]
        exact congrArg some (arrV_ext (fun j hj => by simp only [fak]; rw [if_pos hj]))
      | k + 2, hk => exact hP (k + 2) q hk
    have hD8 : va_D A ([(ax, .inr (1, [.ref hfm, .ref hq])), (hfm, .inl (cR, 8, .inr (.inr (.inr (.inr (fun i => some (ha i)))))))] ++ fl (fc0 cI cZ ha pw ps po pk) 8 ++ [(hq, .inl (cJ, 6, .inr (.inl (fun _ => 0))))]) := D_congr hD rfl
    exact W.vret hx hb hr (fun t ht hW => ⟨⟨(), rfl, trivial, hfm, hq, ha, pw, ps, po, pk, by rw [ht]; exact hP8, va_K.moved hW.alike hK, hD8⟩, hS.F ht⟩) hS.2.2 dX_init_48
  | succ d ih =>
    intro k ha pw ps po pk H locs ls hk hl hP hD hS
    refine lv_iload_n hx hb dX_init_15 rfl (lv_at hl 0 rfl) ?_
    refine lv_bipush (v := nI 8) hx hb dX_init_16 (by decide +kernel) ?_
    refine lv_icmp_ge (tgt := 40) hx hb dX_init_18 (by decide) (fun h18 => ?_) (fun h18 => ?_)
    · exfalso
      rw [nI_leI (by omega) (by omega)] at h18
      omega
    refine lv_aload_n hx hb dX_init_21 rfl (lv_at hl 1 rfl) ?_
    refine va_get (D := (dC, dI)) (ci := 1) (v := .ref hfm) (C := RX) (T := TX) (N := 2) hx hb hw inX hown hK hP 0 rfl rfl 0 (by decide) (hw _ kw_59) (fun _ h9 => h9) rfl dX_init_22 ?_
    refine lv_iload_n hx hb dX_init_25 rfl (lv_at hl 0 rfl) ?_
    refine va_new (ci := 0) (fs := [.null, .null, .null, .null, .int 0]) (C := RF) (T := TF) (N := 5) hx hb hw inF tF tF_ok hown (hw _ kw_32) (hw _ kw_34) (hw _ kw_15) hK hP hD hS hA rfl (fun j hj => by rcases (show j = 0 ∨ j = 1 ∨ j = 2 ∨ j = 3 ∨ j = 4 by omega) with rfl | rfl | rfl | rfl | rfl <;> rfl) (show 1 + 5 * k + 1 ≤ 42 by omega) (show 8 + 145 * k + 5 ≤ 1174 by omega) dX_init_26 (fun q H hP hD hS => ?_)
    refine lv_dup hx hb dX_init_29 rfl ?_
    have hPc : va_P (dC, dI) cls3 [(q, .inr (0, [.null, .null, .null, .null, .int 0]))] H := P_right hP
    have hDc : va_D A [(q, .inr (0, [.null, .null, .null, .null, .int 0]))] := D_right hD
    have hFc := A_sub hDc hS hA
    refine va_callv (va_runI (As := []) (rest := [.ref q, .int (nI k), .ref hfm]) ⟨hx, hb, hml, hown, hw⟩ (c_F_init l dC dI H.size cI cZ q) (cwI 0 hw (gI kw_37) rfl rfl rfl (hw _ kw_15) (hw _ kw_35) (hw _ kw_36) rfl (by decide +kernel) ⟨Nat.le_of_ble_eq_true rfl, Nat.le_of_ble_eq_true rfl⟩) (rw_preS (hK.sub (tys' := [(cI, .int), (cZ, .boolean)]) [1, 2] rfl) hPc hDc) rfl rfl hl.1 rfl (lv_room (Nat.le_of_ble_eq_true rfl)) dX_init_30 ⟨show 1 + 5 * k + 1 + 4 ≤ 42 by omega, show 8 + 145 * k + 5 + 140 ≤ 1174 by omega⟩) hS (fun q _ h => hFc q h) hFc (fun u t H1 locs ht hvm e30 hB hz1 hk1 hS => ?_)
    obtain ⟨p1, p2, p3, p4, hP1, hK1, hD1⟩ := hB
    rw [ht] at hP1
    obtain ⟨hP, hD⟩ := join_suf hP hD hk1 hFc hP1 hD1
    refine va_astq hx hb hK hP hD hS 1 0 (2 + 5 * k + 0) 0 rfl rfl (fl_new (fc_len _ _ _ _ _ _ _ _ _ _ _ _) rfl) rfl (vp_in_nI (by omega) (by decide)) dX_init_33 (fun H locs hP hD hS => ?_)
    rw [show (nI k).toNatClampNeg = k from nI_clamp (by omega)] at hP hD
    have hP : va_P (dC, dI) cls3 (wI cR cI cZ ax hfm (va_up ha k q) (va_up pw k p1) (va_up ps k p2) (va_up po k p3) (va_up pk k p4) (k + 1)) H := by rw [← wI_next]; exact hP
    have hD : va_D A (wI cR cI cZ ax hfm (va_up ha k q) (va_up pw k p1) (va_up ps k p2) (va_up po k p3) (va_up pk k p4) (k + 1)) := by rw [← wI_next]; exact hD
    refine lv_iinc (k := 0) (v := nI (k + 1)) hx hb dX_init_34 hl rfl (cw_inc _) (by decide) rfl (fun ls hl => ?_)
    have hl : lv_has ls 2 [(1, .int (nI (k + 1))), (0, .ref ax)] := hl
    refine lv_goto (tgt := 15) hx hb dX_init_37 (by decide) ?_
    refine W.widen (k := 1 + 5 * (k + 1)) (n := 8 + 145 * (k + 1)) (by omega) (by omega) ?_
    exact ih (k + 1) _ _ _ _ _ H locs ls (by omega) hl hP hD hS
