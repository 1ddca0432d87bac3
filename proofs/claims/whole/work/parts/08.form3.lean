theorem fR_congr {n : Nat} {it it2 w : Nat → Nat} {sb : Nat → Bool} {wd sg ow co : Nat → Int32} (h : fR n it w sb wd sg ow co) (e : ∀ j, j < n → it2 j = it j) : fR n it2 w sb wd sg ow co := by
  obtain ⟨⟨h1, h2, h3, h4⟩, h5, h6, h7⟩ := h
  refine ⟨⟨h1, h2, fun j hj => by rw [e j hj]; exact h3 j hj, fun i j hi hj => by rw [e i hi, e j hj]; exact h4 i j hi hj⟩, h5, h6, fun j hj => by rw [e j hj]; exact h7 j hj⟩
/-- one item more -/
theorem fR_app {n : Nat} {it w : Nat → Nat} {sb : Nat → Bool} {wd sg ow co : Nat → Int32} (h : fR n it w sb wd sg ow co) (hok : cw_ok it (n + 1) w) : fR (n + 1) it w sb wd sg (upd ow n (cw_O (it n))) (upd co n (cw_C (it n))) := by
  obtain ⟨-, h5, h6, h7⟩ := h
  refine ⟨hok, h5, h6, fun j hj => ?_⟩
  by_cases e : j = n
  · subst e; exact ⟨pk_us, pk_us⟩
  · rw [pk_un e, pk_un e]; exact h7 j (by omega)
/-- nothing is there any more -/
theorem fR_clear {n : Nat} {it w : Nat → Nat} {sb : Nat → Bool} {wd sg ow co wd2 : Nat → Int32} (h : fR n it w sb wd sg ow co) (hz : ∀ o, o < 6 → wd2 o = nI 0) : fR 0 it (fun _ => 0) sb wd2 sg ow co := by
  obtain ⟨-, -, h6, -⟩ := h
  exact ⟨⟨by omega, fun _ _ => Nat.zero_le _, fun j hj => by omega, fun i j hi => by omega⟩, hz, h6, fun j hj => by omega⟩
/-- an operand more -/
theorem fR_op {n : Nat} {it w : Nat → Nat} {sb : Nat → Bool} {wd sg ow co : Nat → Int32} (h : fR n it w sb wd sg ow co) {o k : Nat} {b : Bool} (hk : k ≤ 64) (h0 : w o = 0) :
    fR n it (va_up w o k) (va_up sb o b) (upd wd o (nI k)) (upd sg o (vp_nar .boolean (nI b.toNat))) ow co := by
  obtain ⟨⟨h1, h2, h3, h4⟩, h5, h6, h7⟩ := h
  refine ⟨⟨h1, fun i hi => ?_, fun j hj => ?_, h4⟩, fun i hi => ?_, fun i hi => ?_, h7⟩
  · by_cases e : i = o
    · rw [e, va_up_self]; exact hk
    · rw [va_up_ne _ _ e]; exact h2 i hi
  · rcases h3 j hj with q | ⟨i, m, hi, hm, q⟩
    · exact Or.inl q
    · refine Or.inr ⟨i, m, hi, ?_, q⟩
      have : i ≠ o := fun z => by rw [z, h0] at hm; omega
      rw [va_up_ne _ _ this]; exact hm
  · by_cases e : i = o
    · rw [e, pk_us, va_up_self]
    · rw [pk_un e, va_up_ne _ _ e]; exact h5 i hi
  · by_cases e : i = o
    · rw [e, pk_us, va_up_self]; cases b <;> decide +kernel
    · rw [pk_un e, va_up_ne _ _ e]; exact h6 i hi
/-- the items behind fixed(cnt, v) -/
def itF (it : Nat → Nat) (n cnt : Nat) (v : Int64) : Nat → Nat := fun j => if j < n then it j else bq v (cnt - 1 - (j - n))
theorem itF_lt {it : Nat → Nat} {n cnt : Nat} {v : Int64} {j : Nat} (h : j < n) : itF it n cnt v j = it j := if_pos h
theorem itF_ge {it : Nat → Nat} {n cnt : Nat} {v : Int64} {j : Nat} (h : ¬ j < n) : itF it n cnt v j = bq v (cnt - 1 - (j - n)) := if_neg h
theorem itF_ok {it w : Nat → Nat} {n cnt : Nat} {v : Int64} (h : cw_ok it n w) {m : Nat} (h1 : n ≤ m) (h2 : m ≤ 64) : cw_ok (itF it n cnt v) m w := by
  obtain ⟨-, g2, g3, g4⟩ := h
  have lo : ∀ j, ¬ j < n → itF it n cnt v j < 2 := fun j hj => by rw [itF_ge hj]; exact bq_lt _ _
  refine ⟨h2, g2, fun j hj => ?_, fun i j hi hj q1 q2 => ?_⟩
  · by_cases e : j < n
    · rw [itF_lt e]; exact g3 j e
    · exact Or.inl (lo j e)
  · by_cases e : i < n
    · by_cases e2 : j < n
      · rw [itF_lt e] at q1 q2; rw [itF_lt e2] at q2; exact g4 i j e e2 q1 q2
      · have := lo j e2; omega
    · have := lo i e; omega
/-- the items behind slice(o, hi, lo) -/
def itS (it : Nat → Nat) (n o hi : Nat) : Nat → Nat := fun j => if j < n then it j else 2 + 64 * o + (hi - (j - n))
theorem itS_lt {it : Nat → Nat} {n o hi : Nat} {j : Nat} (h : j < n) : itS it n o hi j = it j := if_pos h
theorem itS_ge {it : Nat → Nat} {n o hi : Nat} {j : Nat} (h : ¬ j < n) : itS it n o hi j = 2 + 64 * o + (hi - (j - n)) := if_neg h
theorem itS_ok {it w : Nat → Nat} {n o hi lo : Nat} (h : cw_ok it n w) (ho : o < 6) (hh : hi < w o) (hl : lo ≤ hi) (hno : ∀ j, j < n → ∀ k, lo ≤ k → k ≤ hi → it j ≠ 2 + 64 * o + k) {m : Nat} (h1 : n ≤ m) (h2 : m ≤ n + (hi + 1 - lo)) (h3 : m ≤ 64) : cw_ok (itS it n o hi) m w := by
  obtain ⟨-, g2, g3, g4⟩ := h
  refine ⟨h3, g2, fun j hj => ?_, fun i j hi' hj q1 q2 => ?_⟩
  · by_cases e : j < n
    · rw [itS_lt e]; exact g3 j e
    · rw [itS_ge e]; exact Or.inr ⟨o, hi - (j - n), ho, by omega, rfl⟩
  · by_cases e : i < n
    · by_cases e2 : j < n
      · rw [itS_lt e] at q1 q2; rw [itS_lt e2] at q2; exact g4 i j e e2 q1 q2
      · rw [itS_lt e, itS_ge e2] at q2
        exact absurd q2 (hno i e _ (by omega) (by omega))
    · by_cases e2 : j < n
      · rw [itS_ge e, itS_lt e2] at q2
        exact absurd q2.symm (hno j e2 _ (by omega) (by omega))
      · rw [itS_ge e, itS_ge e2] at q2
        omega
theorem dn_lt {k lo : Nat} (hk : k ≤ 100) (hl : lo ≤ 100) : nI k - nI 1 < nI lo ↔ k ≤ lo := by
  rw [Int32.lt_iff_toInt_lt, pk_sub_toInt (by omega) (by omega), nI_toInt (by omega)]
  omega
theorem dn_0 {k : Nat} (hk : k ≤ 100) : nI k - nI 1 < 0 ↔ k = 0 := by
  rw [← nI_0, dn_lt hk (by omega)]
  omega
theorem dn_C {o k : Nat} (hk : 0 < k) (h : k ≤ 64) : nI k - nI 1 = cw_C (2 + 64 * o + (k - 1)) := by
  rw [cw_C_hi (by omega), cw_m1 hk]
  congr 1
  omega
theorem dn_O {o k : Nat} (h : k < 64) : nI o = cw_O (2 + 64 * o + k) := by
  rw [cw_O_hi (by omega)]
  congr 1
  omega
theorem lo_O {x : Nat} (h : x < 2) : (-1 : Int32) = cw_O x := by unfold cw_O; rw [if_pos h]
theorem lo_C {x : Nat} (h : x < 2) : nI x = cw_C x := (cw_C_lo h).symm
set_option maxHeartbeats 4000000 in
set_option maxRecDepth 100000 in
theorem c_F_forgetAll (l : Launch) (dC : Nat → ClassId) (dI : Nat → Nat → Nat) (sz : Nat) (cI cZ : ClassId) (h pw ps po pk n : Nat) (wd sg ow co : Nat → Int32) (it w : Nat → Nat) (sb : Nat → Bool) (hF : fR n it w sb wd sg ow co) : Met l yF_forgetAll wF_forgetAll { frames := 0, cells := 0, slots := 0, locals := 0 } (rw_Pc (dC, dI) cls3 [(h, .inr (0, [.ref pw, .ref ps, .ref po, .ref pk, .int (nI n)])), (pw, .inl (cI, 6, .inl wd)), (ps, .inl (cZ, 6, .inl sg)), (po, .inl (cI, 64, .inl ow)), (pk, .inl (cI, 64, .inl co))] [(cI, .int), (cZ, .boolean)] sz [.ref h]) (va_Qv (fun _ : Unit => True) (fun _ t => ∃ wd' : Nat → Int32, fR 0 it (fun _ => 0) sb wd' sg ow co ∧ va_P (dC, dI) cls3 [(h, .inr (0, [.ref pw, .ref ps, .ref po, .ref pk, .int (nI 0)])), (pw, .inl (cI, 6, .inl wd')), (ps, .inl (cZ, 6, .inl sg)), (po, .inl (cI, 64, .inl ow)), (pk, .inl (cI, 64, .inl co))] t.heap ∧ va_K (dC, dI) cls3 [(cI, .int), (cZ, .boolean)] t ∧ va_D (va_A [(h, .inr (0, [.ref pw, .ref ps, .ref po, .ref pk, .int (nI n)])), (pw, .inl (cI, 6, .inl wd)), (ps, .inl (cZ, 6, .inl sg)), (po, .inl (cI, 64, .inl ow)), (pk, .inl (cI, 64, .inl co))] sz) [(h, .inr (0, [.ref pw, .ref ps, .ref po, .ref pk, .int (nI 0)])), (pw, .inl (cI, 6, .inl wd')), (ps, .inl (cZ, 6, .inl sg)), (po, .inl (cI, 64, .inl ow)), (pk, .inl (cI, 64, .inl co))]) (va_A [(h, .inr (0, [.ref pw, .ref ps, .ref po, .ref pk, .int (nI n)])), (pw, .inl (cI, 6, .inl wd)), (ps, .inl (cZ, 6, .inl sg)), (po, .inl (cI, 64, .inl ow)), (pk, .inl (cI, 64, .inl co))] sz)) 0 0 (va_A [(h, .inr (0, [.ref pw, .ref ps, .ref po, .ref pk, .int (nI n)])), (pw, .inl (cI, 6, .inl wd)), (ps, .inl (cZ, 6, .inl sg)), (po, .inl (cI, 64, .inl ow)), (pk, .inl (cI, 64, .inl co))] sz) := by
  refine Met.ofW (cc := cF_forgetAll) (maxL := 2) (ret := none) (by decide) rfl ?_
  intro p e s m args below meth c s₁ B hml hv
  obtain ⟨rfl, hsz, hP, hK, hD0⟩ := hv
  have hx := B.exec
  have hb := B.bytes
  have hr := B.returns
  have hts := atoms_spec (ws := wF_forgetAll) B.pre
  have hw : ∀ w ∈ wA, w.before _ s = true := fun w h => hts w (List.mem_cons_of_mem _ h)
  have hown : s.vm.findClass RF = some m.cls := findClass_of_methodNamed B.named
  have hlocks := B.notSynchronized
  subst hsz
  have hD := hD0.self (sz := s.heap.size)
  generalize hAe : va_A [(h, .inr (0, [.ref pw, .ref ps, .ref po, .ref pk, .int (nI n)])), (pw, .inl (cI, 6, .inl wd)), (ps, .inl (cZ, 6, .inl sg)), (po, .inl (cI, 64, .inl ow)), (pk, .inl (cI, 64, .inl co))] s.heap.size = A at hD ⊢
  have hA : ∀ q : Nat, s.heap.size ≤ q → A q := fun q h => by rw [← hAe]; exact Or.inr h
  have hS : va_S A s.heap s.heap [] := va_S.rf
  have hl := lv_entry ([.ref h]) (n := 2) (Nat.le_of_ble_eq_true rfl)
  rw [lg_entry_eq]
  generalize (lg_sl ([.ref h]) ++ List.replicate (2 - (lg_sl ([.ref h])).length) Slot.unset).toArray = ls at hl ⊢
  have hl : lv_has ls 2 [(0, .ref h)] := hl
  have hn : n ≤ 64 := hF.1.1
  have hwd := hF.2.1
  have hsg := hF.2.2.1
  have hoc := hF.2.2.2
  have hit := cw_it hF.1
  have hw64 := hF.1.2.1
  refine lv_iconst (v := nI 0) hx hb dF_forgetAll_0 (by decide +kernel) ?_
  refine lv_istore_n hx hb dF_forgetAll_1 rfl hl (by decide) rfl (fun ls hl => ?_)
  have hl : lv_has ls 2 [(1, .int (nI 0)), (0, .ref h)] := hl
  refine (?_ : ∀ (kk : Nat) (i : Nat) (f : Nat → Int32) (H : Heap) (locs : List Loc) (ls : Array Slot), kk = 6 - i → lv_has ls 2 [(1, .int (nI i)), (0, .ref h)] → (i ≤ 6) → (∀ q, q < i → f q = nI 0) → va_P (dC, dI) cls3 [(h, .inr (0, [.ref pw, .ref ps, .ref po, .ref pk, .int (nI n)])), (pw, .inl (cI, 6, .inl f)), (ps, .inl (cZ, 6, .inl sg)), (po, .inl (cI, 64, .inl ow)), (pk, .inl (cI, 64, .inl co))] H → va_D A [(h, .inr (0, [.ref pw, .ref ps, .ref po, .ref pk, .int (nI n)])), (pw, .inl (cI, 6, .inl f)), (ps, .inl (cZ, 6, .inl sg)), (po, .inl (cI, 64, .inl ow)), (pk, .inl (cI, 64, .inl co))] → va_S A s.heap H locs → W p l e _ s m _ below meth c H locs _ _ _ (F0 m 2 ls [])) _ 0 wd _ _ ls rfl (lv_sub hl [0, 1] rfl) (by omega) (fun q hq => by omega) hP hD hS
  intro kk
  induction kk using Nat.strongRecOn with
  | ind kk2 ih2 =>
    intro i f H locs ls hkk2 hl hi hz hP hD hS
    refine lv_iload_n hx hb dF_forgetAll_2 rfl (lv_at hl 0 rfl) ?_
    refine lv_bipush (v := nI 6) hx hb dF_forgetAll_3 (by decide +kernel) ?_
    refine lv_icmp_ge (tgt := 21) hx hb dF_forgetAll_5 (by decide) (fun h5 => ?_) (fun h5 => ?_)
    · rw [nI_leI (by omega) (by omega)] at h5
      refine lv_aload_n hx hb dF_forgetAll_21 rfl (lv_at hl 1 rfl) ?_
      refine lv_iconst (v := nI 0) hx hb dF_forgetAll_22 (by decide +kernel) ?_
      refine va_put (D := (dC, dI)) (ci := 0) (v := .int (nI 0)) (ty := .int) (C := RF) (T := TF) (N := 5) hx hb hw inF tF tF_ok nF hown hK hP hD hS 0 rfl rfl 4 (by decide) (hw _ kw_44) (fun _ h9 => h9) rfl (by decide +kernel) rfl rfl (Nat.le_of_ble_eq_true rfl) dF_forgetAll_23 (fun H locs hP hD hS => ?_)
      have hP : va_P (dC, dI) cls3 [(h, .inr (0, [.ref pw, .ref ps, .ref po, .ref pk, .int (nI 0)])), (pw, .inl (cI, 6, .inl f)), (ps, .inl (cZ, 6, .inl sg)), (po, .inl (cI, 64, .inl ow)), (pk, .inl (cI, 64, .inl co))] H := hP
      have hD : va_D A [(h, .inr (0, [.ref pw, .ref ps, .ref po, .ref pk, .int (nI 0)])), (pw, .inl (cI, 6, .inl f)), (ps, .inl (cZ, 6, .inl sg)), (po, .inl (cI, 64, .inl ow)), (pk, .inl (cI, 64, .inl co))] := hD
      exact W.vret hx hb hr (fun t ht hW => ⟨⟨(), rfl, trivial, f, fR_clear hF (fun q hq => hz q (by omega)), by rw [ht]; exact hP, va_K.moved hW.alike hK, hD⟩, hS.F ht⟩) hS.2.2 dF_forgetAll_26
    · rw [nI_leI (by omega) (by omega)] at h5
      refine lv_aload_n hx hb dF_forgetAll_8 rfl (lv_at hl 1 rfl) ?_
      refine va_get (D := (dC, dI)) (ci := 0) (v := .ref pw) (C := RF) (T := TF) (N := 5) hx hb hw inF hown hK hP 0 rfl rfl 0 (by decide) (hw _ kw_39) (fun _ h9 => h9) rfl dF_forgetAll_9 ?_
      refine lv_iload_n hx hb dF_forgetAll_12 rfl (lv_at hl 0 rfl) ?_
      refine lv_iconst (v := nI 0) hx hb dF_forgetAll_13 (by decide +kernel) ?_
      refine va_iast hx hb hK hP hD hS 1 0 rfl rfl (vp_in_nI (by omega) (by decide)) dF_forgetAll_14 (fun H locs hP hD hS => ?_)
      rw [show (nI i).toNatClampNeg = i from nI_clamp (by omega)] at hP hD
      have hP : va_P (dC, dI) cls3 [(h, .inr (0, [.ref pw, .ref ps, .ref po, .ref pk, .int (nI n)])), (pw, .inl (cI, 6, .inl (upd f i (nI 0)))), (ps, .inl (cZ, 6, .inl sg)), (po, .inl (cI, 64, .inl ow)), (pk, .inl (cI, 64, .inl co))] H := hP
      have hD : va_D A [(h, .inr (0, [.ref pw, .ref ps, .ref po, .ref pk, .int (nI n)])), (pw, .inl (cI, 6, .inl (upd f i (nI 0)))), (ps, .inl (cZ, 6, .inl sg)), (po, .inl (cI, 64, .inl ow)), (pk, .inl (cI, 64, .inl co))] := hD
      refine lv_iinc (k := 0) (v := nI (i + 1)) hx hb dF_forgetAll_15 hl rfl (cw_inc _) (by decide) rfl (fun ls hl => ?_)
      have hl : lv_has ls 2 [(1, .int (nI (i + 1))), (0, .ref h)] := hl
      refine lv_goto (tgt := 2) hx hb dF_forgetAll_18 (by decide) ?_
      exact ih2 _ (by omega) (i + 1) (upd f i (nI 0)) _ _ ls rfl (lv_sub (l' := [(1, .int (nI (i + 1))), (0, .ref h)]) hl [0, 1] rfl) (by omega) (fun q hq => by (by_cases e9 : q = i); (· subst e9; exact pk_us); (· rw [pk_un e9]; exact hz q (by omega))) hP hD hS

set_option maxHeartbeats 4000000 in
set_option maxRecDepth 100000 in
theorem c_F_addOperand (l : Launch) (dC : Nat → ClassId) (dI : Nat → Nat → Nat) (sz : Nat) (cI cZ : ClassId) (h pw ps po pk n : Nat) (wd sg ow co : Nat → Int32) (it w : Nat → Nat) (sb : Nat → Bool) (hF : fR n it w sb wd sg ow co) (o k : Nat) (b : Bool) (ho : o < 6) (hk : k ≤ 64) (h0 : w o = 0) : Met l yF_addOperand wF_addOperand { frames := 0, cells := 0, slots := 0, locals := 0 } (rw_Pc (dC, dI) cls3 [(h, .inr (0, [.ref pw, .ref ps, .ref po, .ref pk, .int (nI n)])), (pw, .inl (cI, 6, .inl wd)), (ps, .inl (cZ, 6, .inl sg)), (po, .inl (cI, 64, .inl ow)), (pk, .inl (cI, 64, .inl co))] [(cI, .int), (cZ, .boolean)] sz [.ref h, .int (nI o), .int (nI k), .int (nI b.toNat)]) (va_Qv (fun _ : Unit => True) (fun _ t => ∃ wd' sg' : Nat → Int32, fR n it (va_up w o k) (va_up sb o b) wd' sg' ow co ∧ va_P (dC, dI) cls3 [(h, .inr (0, [.ref pw, .ref ps, .ref po, .ref pk, .int (nI n)])), (pw, .inl (cI, 6, .inl wd')), (ps, .inl (cZ, 6, .inl sg')), (po, .inl (cI, 64, .inl ow)), (pk, .inl (cI, 64, .inl co))] t.heap ∧ va_K (dC, dI) cls3 [(cI, .int), (cZ, .boolean)] t ∧ va_D (va_A [(h, .inr (0, [.ref pw, .ref ps, .ref po, .ref pk, .int (nI n)])), (pw, .inl (cI, 6, .inl wd)), (ps, .inl (cZ, 6, .inl sg)), (po, .inl (cI, 64, .inl ow)), (pk, .inl (cI, 64, .inl co))] sz) [(h, .inr (0, [.ref pw, .ref ps, .ref po, .ref pk, .int (nI n)])), (pw, .inl (cI, 6, .inl wd')), (ps, .inl (cZ, 6, .inl sg')), (po, .inl (cI, 64, .inl ow)), (pk, .inl (cI, 64, .inl co))]) (va_A [(h, .inr (0, [.ref pw, .ref ps, .ref po, .ref pk, .int (nI n)])), (pw, .inl (cI, 6, .inl wd)), (ps, .inl (cZ, 6, .inl sg)), (po, .inl (cI, 64, .inl ow)), (pk, .inl (cI, 64, .inl co))] sz)) 0 0 (va_A [(h, .inr (0, [.ref pw, .ref ps, .ref po, .ref pk, .int (nI n)])), (pw, .inl (cI, 6, .inl wd)), (ps, .inl (cZ, 6, .inl sg)), (po, .inl (cI, 64, .inl ow)), (pk, .inl (cI, 64, .inl co))] sz) := by
  refine Met.ofW (cc := cF_addOperand) (maxL := 4) (ret := none) (by decide) rfl ?_
  intro p e s m args below meth c s₁ B hml hv
  obtain ⟨rfl, hsz, hP, hK, hD0⟩ := hv
  have hx := B.exec
  have hb := B.bytes
  have hr := B.returns
  have hts := atoms_spec (ws := wF_addOperand) B.pre
  have hw : ∀ w ∈ wA, w.before _ s = true := fun w h => hts w (List.mem_cons_of_mem _ h)
  have hown : s.vm.findClass RF = some m.cls := findClass_of_methodNamed B.named
  have hlocks := B.notSynchronized
  subst hsz
  have hD := hD0.self (sz := s.heap.size)
  generalize hAe : va_A [(h, .inr (0, [.ref pw, .ref ps, .ref po, .ref pk, .int (nI n)])), (pw, .inl (cI, 6, .inl wd)), (ps, .inl (cZ, 6, .inl sg)), (po, .inl (cI, 64, .inl ow)), (pk, .inl (cI, 64, .inl co))] s.heap.size = A at hD ⊢
  have hA : ∀ q : Nat, s.heap.size ≤ q → A q := fun q h => by rw [← hAe]; exact Or.inr h
  have hS : va_S A s.heap s.heap [] := va_S.rf
  have hl := lv_entry ([.ref h, .int (nI o), .int (nI k), .int (nI b.toNat)]) (n := 4) (Nat.le_of_ble_eq_true rfl)
  rw [lg_entry_eq]
  generalize (lg_sl ([.ref h, .int (nI o), .int (nI k), .int (nI b.toNat)]) ++ List.replicate (4 - (lg_sl ([.ref h, .int (nI o), .int (nI k), .int (nI b.toNat)])).length) Slot.unset).toArray = ls at hl ⊢
  have hl : lv_has ls 4 [(0, .ref h), (1, .int (nI o)), (2, .int (nI k)), (3, .int (nI b.toNat))] := hl
  refine lv_aload_n hx hb dF_addOperand_0 rfl (lv_at hl 0 rfl) ?_
  refine va_get (D := (dC, dI)) (ci := 0) (v := .ref pw) (C := RF) (T := TF) (N := 5) hx hb hw inF hown hK hP 0 rfl rfl 0 (by decide) (hw _ kw_39) (fun _ h9 => h9) rfl dF_addOperand_1 ?_
  refine lv_iload_n hx hb dF_addOperand_4 rfl (lv_at hl 1 rfl) ?_
  refine lv_iload_n hx hb dF_addOperand_5 rfl (lv_at hl 2 rfl) ?_
  refine va_iast hx hb hK hP hD hS 1 0 rfl rfl (vp_in_nI (by omega) (by decide)) dF_addOperand_6 (fun H locs hP hD hS => ?_)
  rw [show (nI o).toNatClampNeg = o from nI_clamp (by omega)] at hP hD
  have hP : va_P (dC, dI) cls3 [(h, .inr (0, [.ref pw, .ref ps, .ref po, .ref pk, .int (nI n)])), (pw, .inl (cI, 6, .inl (upd wd o (nI k)))), (ps, .inl (cZ, 6, .inl sg)), (po, .inl (cI, 64, .inl ow)), (pk, .inl (cI, 64, .inl co))] H := hP
  have hD : va_D A [(h, .inr (0, [.ref pw, .ref ps, .ref po, .ref pk, .int (nI n)])), (pw, .inl (cI, 6, .inl (upd wd o (nI k)))), (ps, .inl (cZ, 6, .inl sg)), (po, .inl (cI, 64, .inl ow)), (pk, .inl (cI, 64, .inl co))] := hD
  refine lv_aload_n hx hb dF_addOperand_7 rfl (lv_at hl 0 rfl) ?_
  refine va_get (D := (dC, dI)) (ci := 0) (v := .ref ps) (C := RF) (T := TF) (N := 5) hx hb hw inF hown hK hP 0 rfl rfl 1 (by decide) (hw _ kw_41) (fun _ h9 => h9) rfl dF_addOperand_8 ?_
  refine lv_iload_n hx hb dF_addOperand_11 rfl (lv_at hl 1 rfl) ?_
  refine lv_iload_n hx hb dF_addOperand_12 rfl (lv_at hl 3 rfl) ?_
  refine va_zast hx hb hK hP hD hS 2 1 rfl rfl (vp_in_nI (by omega) (by decide)) dF_addOperand_13 (fun H locs hP hD hS => ?_)
  rw [show (nI o).toNatClampNeg = o from nI_clamp (by omega)] at hP hD
  have hP : va_P (dC, dI) cls3 [(h, .inr (0, [.ref pw, .ref ps, .ref po, .ref pk, .int (nI n)])), (pw, .inl (cI, 6, .inl (upd wd o (nI k)))), (ps, .inl (cZ, 6, .inl (upd sg o (vp_nar .boolean (nI b.toNat))))), (po, .inl (cI, 64, .inl ow)), (pk, .inl (cI, 64, .inl co))] H := hP
  have hD : va_D A [(h, .inr (0, [.ref pw, .ref ps, .ref po, .ref pk, .int (nI n)])), (pw, .inl (cI, 6, .inl (upd wd o (nI k)))), (ps, .inl (cZ, 6, .inl (upd sg o (vp_nar .boolean (nI b.toNat))))), (po, .inl (cI, 64, .inl ow)), (pk, .inl (cI, 64, .inl co))] := hD
  exact W.vret hx hb hr (fun t ht hW => ⟨⟨(), rfl, trivial, _, _, fR_op hF hk h0, by rw [ht]; exact hP, va_K.moved hW.alike hK, hD⟩, hS.F ht⟩) hS.2.2 dF_addOperand_14

set_option maxHeartbeats 4000000 in
set_option maxRecDepth 100000 in
theorem c_F_append (l : Launch) (dC : Nat → ClassId) (dI : Nat → Nat → Nat) (sz : Nat) (cI cZ : ClassId) (h pw ps po pk n : Nat) (wd sg ow co : Nat → Int32) (it w : Nat → Nat) (sb : Nat → Bool) (hF : fR n it w sb wd sg ow co) (hok : cw_ok it (n + 1) w) : Met l yF_append wF_append { frames := 0, cells := 0, slots := 0, locals := 0 } (rw_Pc (dC, dI) cls3 [(h, .inr (0, [.ref pw, .ref ps, .ref po, .ref pk, .int (nI n)])), (pw, .inl (cI, 6, .inl wd)), (ps, .inl (cZ, 6, .inl sg)), (po, .inl (cI, 64, .inl ow)), (pk, .inl (cI, 64, .inl co))] [(cI, .int), (cZ, .boolean)] sz [.ref h, .int (cw_O (it n)), .int (cw_C (it n))]) (va_Qv (fun _ : Unit => True) (fun _ t => va_P (dC, dI) cls3 [(h, .inr (0, [.ref pw, .ref ps, .ref po, .ref pk, .int (nI (n + 1))])), (pw, .inl (cI, 6, .inl wd)), (ps, .inl (cZ, 6, .inl sg)), (po, .inl (cI, 64, .inl (upd ow n (cw_O (it n))))), (pk, .inl (cI, 64, .inl (upd co n (cw_C (it n)))))] t.heap ∧ va_K (dC, dI) cls3 [(cI, .int), (cZ, .boolean)] t ∧ va_D (va_A [(h, .inr (0, [.ref pw, .ref ps, .ref po, .ref pk, .int (nI n)])), (pw, .inl (cI, 6, .inl wd)), (ps, .inl (cZ, 6, .inl sg)), (po, .inl (cI, 64, .inl ow)), (pk, .inl (cI, 64, .inl co))] sz) [(h, .inr (0, [.ref pw, .ref ps, .ref po, .ref pk, .int (nI (n + 1))])), (pw, .inl (cI, 6, .inl wd)), (ps, .inl (cZ, 6, .inl sg)), (po, .inl (cI, 64, .inl (upd ow n (cw_O (it n))))), (pk, .inl (cI, 64, .inl (upd co n (cw_C (it n)))))]) (va_A [(h, .inr (0, [.ref pw, .ref ps, .ref po, .ref pk, .int (nI n)])), (pw, .inl (cI, 6, .inl wd)), (ps, .inl (cZ, 6, .inl sg)), (po, .inl (cI, 64, .inl ow)), (pk, .inl (cI, 64, .inl co))] sz)) 0 0 (va_A [(h, .inr (0, [.ref pw, .ref ps, .ref po, .ref pk, .int (nI n)])), (pw, .inl (cI, 6, .inl wd)), (ps, .inl (cZ, 6, .inl sg)), (po, .inl (cI, 64, .inl ow)), (pk, .inl (cI, 64, .inl co))] sz) := by
  refine Met.ofW (cc := cF_append) (maxL := 3) (ret := none) (by decide) rfl ?_
  intro p e s m args below meth c s₁ B hml hv
  obtain ⟨rfl, hsz, hP, hK, hD0⟩ := hv
  have hx := B.exec
  have hb := B.bytes
  have hr := B.returns
  have hts := atoms_spec (ws := wF_append) B.pre
  have hw : ∀ w ∈ wA, w.before _ s = true := fun w h => hts w (List.mem_cons_of_mem _ h)
  have hown : s.vm.findClass RF = some m.cls := findClass_of_methodNamed B.named
  have hlocks := B.notSynchronized
  subst hsz
  have hD := hD0.self (sz := s.heap.size)
  generalize hAe : va_A [(h, .inr (0, [.ref pw, .ref ps, .ref po, .ref pk, .int (nI n)])), (pw, .inl (cI, 6, .inl wd)), (ps, .inl (cZ, 6, .inl sg)), (po, .inl (cI, 64, .inl ow)), (pk, .inl (cI, 64, .inl co))] s.heap.size = A at hD ⊢
  have hA : ∀ q : Nat, s.heap.size ≤ q → A q := fun q h => by rw [← hAe]; exact Or.inr h
  have hS : va_S A s.heap s.heap [] := va_S.rf
  have hl := lv_entry ([.ref h, .int (cw_O (it n)), .int (cw_C (it n))]) (n := 3) (Nat.le_of_ble_eq_true rfl)
  rw [lg_entry_eq]
  generalize (lg_sl ([.ref h, .int (cw_O (it n)), .int (cw_C (it n))]) ++ List.replicate (3 - (lg_sl ([.ref h, .int (cw_O (it n)), .int (cw_C (it n))])).length) Slot.unset).toArray = ls at hl ⊢
  have hl : lv_has ls 3 [(0, .ref h), (1, .int (cw_O (it n))), (2, .int (cw_C (it n)))] := hl
  have hn : n ≤ 64 := hF.1.1
  have hwd := hF.2.1
  have hsg := hF.2.2.1
  have hoc := hF.2.2.2
  have hit := cw_it hF.1
  have hw64 := hF.1.2.1
  have hn1 : n + 1 ≤ 64 := hok.1
  refine lv_aload_n hx hb dF_append_0 rfl (lv_at hl 0 rfl) ?_
  refine va_get (D := (dC, dI)) (ci := 0) (v := .ref po) (C := RF) (T := TF) (N := 5) hx hb hw inF hown hK hP 0 rfl rfl 2 (by decide) (hw _ kw_42) (fun _ h9 => h9) rfl dF_append_1 ?_
  refine lv_aload_n hx hb dF_append_4 rfl (lv_at hl 0 rfl) ?_
  refine va_get (D := (dC, dI)) (ci := 0) (v := .int (nI n)) (C := RF) (T := TF) (N := 5) hx hb hw inF hown hK hP 0 rfl rfl 4 (by decide) (hw _ kw_44) (fun _ h9 => h9) rfl dF_append_5 ?_
  refine lv_iload_n hx hb dF_append_8 rfl (lv_at hl 1 rfl) ?_
  refine va_iast hx hb hK hP hD hS 3 0 rfl rfl (vp_in_nI (by omega) (by decide)) dF_append_9 (fun H locs hP hD hS => ?_)
  rw [show (nI n).toNatClampNeg = n from nI_clamp (by omega)] at hP hD
  have hP : va_P (dC, dI) cls3 [(h, .inr (0, [.ref pw, .ref ps, .ref po, .ref pk, .int (nI n)])), (pw, .inl (cI, 6, .inl wd)), (ps, .inl (cZ, 6, .inl sg)), (po, .inl (cI, 64, .inl (upd ow n (cw_O (it n))))), (pk, .inl (cI, 64, .inl co))] H := hP
  have hD : va_D A [(h, .inr (0, [.ref pw, .ref ps, .ref po, .ref pk, .int (nI n)])), (pw, .inl (cI, 6, .inl wd)), (ps, .inl (cZ, 6, .inl sg)), (po, .inl (cI, 64, .inl (upd ow n (cw_O (it n))))), (pk, .inl (cI, 64, .inl co))] := hD
  refine lv_aload_n hx hb dF_append_10 rfl (lv_at hl 0 rfl) ?_
  refine va_get (D := (dC, dI)) (ci := 0) (v := .ref pk) (C := RF) (T := TF) (N := 5) hx hb hw inF hown hK hP 0 rfl rfl 3 (by decide) (hw _ kw_43) (fun _ h9 => h9) rfl dF_append_11 ?_
  refine lv_aload_n hx hb dF_append_14 rfl (lv_at hl 0 rfl) ?_
  refine va_get (D := (dC, dI)) (ci := 0) (v := .int (nI n)) (C := RF) (T := TF) (N := 5) hx hb hw inF hown hK hP 0 rfl rfl 4 (by decide) (hw _ kw_44) (fun _ h9 => h9) rfl dF_append_15 ?_
  refine lv_iload_n hx hb dF_append_18 rfl (lv_at hl 2 rfl) ?_
  refine va_iast hx hb hK hP hD hS 4 0 rfl rfl (vp_in_nI (by omega) (by decide)) dF_append_19 (fun H locs hP hD hS => ?_)
  rw [show (nI n).toNatClampNeg = n from nI_clamp (by omega)] at hP hD
  have hP : va_P (dC, dI) cls3 [(h, .inr (0, [.ref pw, .ref ps, .ref po, .ref pk, .int (nI n)])), (pw, .inl (cI, 6, .inl wd)), (ps, .inl (cZ, 6, .inl sg)), (po, .inl (cI, 64, .inl (upd ow n (cw_O (it n))))), (pk, .inl (cI, 64, .inl (upd co n (cw_C (it n)))))] H := hP
  have hD : va_D A [(h, .inr (0, [.ref pw, .ref ps, .ref po, .ref pk, .int (nI n)])), (pw, .inl (cI, 6, .inl wd)), (ps, .inl (cZ, 6, .inl sg)), (po, .inl (cI, 64, .inl (upd ow n (cw_O (it n))))), (pk, .inl (cI, 64, .inl (upd co n (cw_C (it n)))))] := hD
  refine lv_aload_n hx hb dF_append_20 rfl (lv_at hl 0 rfl) ?_
  refine lv_dup hx hb dF_append_21 rfl ?_
  refine va_get (D := (dC, dI)) (ci := 0) (v := .int (nI n)) (C := RF) (T := TF) (N := 5) hx hb hw inF hown hK hP 0 rfl rfl 4 (by decide) (hw _ kw_44) (fun _ h9 => h9) rfl dF_append_22 ?_
  refine lv_iconst (v := nI 1) hx hb dF_append_25 (by decide +kernel) ?_
  refine lv_iadd hx hb dF_append_26 ?_
  refine lv_topi (fun v26 e26 => ?_)
  obtain rfl : v26 = nI (n + 1) := e26.trans (nI_1 n)
  refine va_put (D := (dC, dI)) (ci := 0) (v := .int (nI (n + 1))) (ty := .int) (C := RF) (T := TF) (N := 5) hx hb hw inF tF tF_ok nF hown hK hP hD hS 0 rfl rfl 4 (by decide) (hw _ kw_44) (fun _ h9 => h9) rfl (by decide +kernel) rfl rfl (Nat.le_of_ble_eq_true rfl) dF_append_27 (fun H locs hP hD hS => ?_)
  have hP : va_P (dC, dI) cls3 [(h, .inr (0, [.ref pw, .ref ps, .ref po, .ref pk, .int (nI (n + 1))])), (pw, .inl (cI, 6, .inl wd)), (ps, .inl (cZ, 6, .inl sg)), (po, .inl (cI, 64, .inl (upd ow n (cw_O (it n))))), (pk, .inl (cI, 64, .inl (upd co n (cw_C (it n)))))] H := hP
  have hD : va_D A [(h, .inr (0, [.ref pw, .ref ps, .ref po, .ref pk, .int (nI (n + 1))])), (pw, .inl (cI, 6, .inl wd)), (ps, .inl (cZ, 6, .inl sg)), (po, .inl (cI, 64, .inl (upd ow n (cw_O (it n))))), (pk, .inl (cI, 64, .inl (upd co n (cw_C (it n)))))] := hD
  exact W.vret hx hb hr (fun t ht hW => ⟨⟨(), rfl, trivial, by rw [ht]; exact hP, va_K.moved hW.alike hK, hD⟩, hS.F ht⟩) hS.2.2 dF_append_30

set_option maxHeartbeats 4000000 in
set_option maxRecDepth 100000 in
theorem c_F_appendFixed (l : Launch) (dC : Nat → ClassId) (dI : Nat → Nat → Nat) (sz : Nat) (cI cZ : ClassId) (h pw ps po pk n : Nat) (wd sg ow co : Nat → Int32) (it w : Nat → Nat) (sb : Nat → Bool) (hF : fR n it w sb wd sg ow co) (cnt : Nat) (v : Int64) (hc : n + cnt ≤ 64) : Met l yF_appendFixed wF_appendFixed { frames := 1, cells := 0, slots := 0, locals := 22 } (rw_Pc (dC, dI) cls3 [(h, .inr (0, [.ref pw, .ref ps, .ref po, .ref pk, .int (nI n)])), (pw, .inl (cI, 6, .inl wd)), (ps, .inl (cZ, 6, .inl sg)), (po, .inl (cI, 64, .inl ow)), (pk, .inl (cI, 64, .inl co))] [(cI, .int), (cZ, .boolean)] sz [.ref h, .int (nI cnt), .long v]) (va_Qv (fun _ : Unit => True) (fun _ t => ∃ ow' co' : Nat → Int32, fR (n + cnt) (itF it n cnt v) w sb wd sg ow' co' ∧ va_P (dC, dI) cls3 [(h, .inr (0, [.ref pw, .ref ps, .ref po, .ref pk, .int (nI (n + cnt))])), (pw, .inl (cI, 6, .inl wd)), (ps, .inl (cZ, 6, .inl sg)), (po, .inl (cI, 64, .inl ow')), (pk, .inl (cI, 64, .inl co'))] t.heap ∧ va_K (dC, dI) cls3 [(cI, .int), (cZ, .boolean)] t ∧ va_D (va_A [(h, .inr (0, [.ref pw, .ref ps, .ref po, .ref pk, .int (nI n)])), (pw, .inl (cI, 6, .inl wd)), (ps, .inl (cZ, 6, .inl sg)), (po, .inl (cI, 64, .inl ow)), (pk, .inl (cI, 64, .inl co))] sz) [(h, .inr (0, [.ref pw, .ref ps, .ref po, .ref pk, .int (nI (n + cnt))])), (pw, .inl (cI, 6, .inl wd)), (ps, .inl (cZ, 6, .inl sg)), (po, .inl (cI, 64, .inl ow')), (pk, .inl (cI, 64, .inl co'))]) (va_A [(h, .inr (0, [.ref pw, .ref ps, .ref po, .ref pk, .int (nI n)])), (pw, .inl (cI, 6, .inl wd)), (ps, .inl (cZ, 6, .inl sg)), (po, .inl (cI, 64, .inl ow)), (pk, .inl (cI, 64, .inl co))] sz)) 0 0 (va_A [(h, .inr (0, [.ref pw, .ref ps, .ref po, .ref pk, .int (nI n)])), (pw, .inl (cI, 6, .inl wd)), (ps, .inl (cZ, 6, .inl sg)), (po, .inl (cI, 64, .inl ow)), (pk, .inl (cI, 64, .inl co))] sz) := by
  refine Met.ofW (cc := cF_appendFixed) (maxL := 5) (ret := none) (by decide) rfl ?_
  intro p e s m args below meth c s₁ B hml hv
  obtain ⟨rfl, hsz, hP, hK, hD0⟩ := hv
  have hx := B.exec
  have hb := B.bytes
  have hr := B.returns
  have hts := atoms_spec (ws := wF_appendFixed) B.pre
  have hw : ∀ w ∈ wA, w.before _ s = true := fun w h => hts w (List.mem_cons_of_mem _ h)
  have hown : s.vm.findClass RF = some m.cls := findClass_of_methodNamed B.named
  have hlocks := B.notSynchronized
  subst hsz
  have hD := hD0.self (sz := s.heap.size)
  generalize hAe : va_A [(h, .inr (0, [.ref pw, .ref ps, .ref po, .ref pk, .int (nI n)])), (pw, .inl (cI, 6, .inl wd)), (ps, .inl (cZ, 6, .inl sg)), (po, .inl (cI, 64, .inl ow)), (pk, .inl (cI, 64, .inl co))] s.heap.size = A at hD ⊢
  have hA : ∀ q : Nat, s.heap.size ≤ q → A q := fun q h => by rw [← hAe]; exact Or.inr h
  have hS : va_S A s.heap s.heap [] := va_S.rf
  have hl := lv_entry ([.ref h, .int (nI cnt), .long v]) (n := 5) (Nat.le_of_ble_eq_true rfl)
  rw [lg_entry_eq]
  generalize (lg_sl ([.ref h, .int (nI cnt), .long v]) ++ List.replicate (5 - (lg_sl ([.ref h, .int (nI cnt), .long v])).length) Slot.unset).toArray = ls at hl ⊢
  have hl : lv_has ls 5 [(0, .ref h), (1, .int (nI cnt)), (2, .long v)] := hl
  have hn : n ≤ 64 := hF.1.1
  have hwd := hF.2.1
  have hsg := hF.2.2.1
  have hoc := hF.2.2.2
  have hit := cw_it hF.1
  have hw64 := hF.1.2.1
  refine lv_iload_n hx hb dF_appendFixed_0 rfl (lv_at hl 1 rfl) ?_
  refine lv_iconst (v := nI 1) hx hb dF_appendFixed_1 (by decide +kernel) ?_
  refine lv_isub hx hb dF_appendFixed_2 ?_
  refine lv_topi (fun v2 e2 => ?_)
  obtain rfl : v2 = nI cnt - nI 1 := e2
  refine lv_istore hx hb dF_appendFixed_3 hl (by decide) rfl (fun ls hl => ?_)
  have hl : lv_has ls 5 [(4, .int (nI cnt - nI 1)), (0, .ref h), (1, .int (nI cnt)), (2, .long v)] := hl
  refine (?_ : ∀ (kk : Nat) (k : Nat) (ow2 : Nat → Int32) (co2 : Nat → Int32) (H : Heap) (locs : List Loc) (ls : Array Slot), kk = k → lv_has ls 5 [(4, .int (nI k - nI 1)), (0, .ref h), (1, .int (nI cnt)), (2, .long v)] → (k ≤ cnt) → (fR (n + cnt - k) (itF it n cnt v) w sb wd sg ow2 co2) → va_P (dC, dI) cls3 [(h, .inr (0, [.ref pw, .ref ps, .ref po, .ref pk, .int (nI (n + cnt - k))])), (pw, .inl (cI, 6, .inl wd)), (ps, .inl (cZ, 6, .inl sg)), (po, .inl (cI, 64, .inl ow2)), (pk, .inl (cI, 64, .inl co2))] H → va_D A [(h, .inr (0, [.ref pw, .ref ps, .ref po, .ref pk, .int (nI (n + cnt - k))])), (pw, .inl (cI, 6, .inl wd)), (ps, .inl (cZ, 6, .inl sg)), (po, .inl (cI, 64, .inl ow2)), (pk, .inl (cI, 64, .inl co2))] → va_S A s.heap H locs → W p l e _ s m _ below meth c H locs _ _ _ (F0 m 5 ls [])) _ cnt ow co _ _ ls rfl (lv_sub hl [0, 1, 2, 3] rfl) (by omega) (by rw [Nat.add_sub_cancel]; exact fR_congr hF (fun j hj => itF_lt hj)) (by rw [Nat.add_sub_cancel]; exact hP) (by rw [Nat.add_sub_cancel]; exact hD) hS
  intro kk
  induction kk using Nat.strongRecOn with
  | ind kk5 ih5 =>
    intro k ow2 co2 H locs ls hkk5 hl hk hR hP hD hS
    refine lv_iload hx hb dF_appendFixed_5 (lv_at hl 0 rfl) ?_
    refine lv_if_lt (tgt := 27) hx hb dF_appendFixed_7 (by decide) (fun h7 => ?_) (fun h7 => ?_)
    · rw [dn_0 (by omega)] at h7
      subst h7
      exact W.vret hx hb hr (fun t ht hW => ⟨⟨(), rfl, trivial, ow2, co2, hR, by rw [ht]; exact hP, va_K.moved hW.alike hK, hD⟩, hS.F ht⟩) hS.2.2 dF_appendFixed_27
    · rw [dn_0 (by omega)] at h7
      have hnn : n + cnt - (k - 1) = n + cnt - k + 1 := by omega
      have hok1 : cw_ok (itF it n cnt v) (n + cnt - k + 1) w := itF_ok hF.1 (by omega) (by omega)
      have hnx : itF it n cnt v (n + cnt - k) = bq v (k - 1) := by rw [itF_ge (by omega)]; congr 1; omega
      refine lv_aload_n hx hb dF_appendFixed_10 rfl (lv_at hl 1 rfl) ?_
      refine lv_iconst (v := (-1)) hx hb dF_appendFixed_11 (by decide +kernel) ?_
      refine lv_topi (fun w11 ew11 => ?_)
      obtain rfl : w11 = cw_O (itF it n cnt v (n + cnt - k)) := ew11.trans (by rw [hnx]; exact lo_O (bq_lt _ _))
      refine lv_lload_n hx hb dF_appendFixed_12 rfl (lv_at hl 3 rfl) ?_
      refine lv_iload hx hb dF_appendFixed_13 (lv_at hl 0 rfl) ?_
      refine lv_topi (fun w13 ew13 => ?_)
      obtain rfl : w13 = nI (k - 1) := ew13.trans (cw_m1 (by omega))
      refine vp_callSi (W.runS (As := [.long v, .int (nI (k - 1))]) (rest := [.int (cw_O (itF it n cnt v (n + cnt - k))), .ref h]) ⟨hx, hb, hml, hown, hw⟩ (c_F_bitOf l v (k - 1) (by omega)) (cwS 2 hw (gS kw_223 kw_224 kw_15 kw_225) rfl rfl rfl (by decide +kernel) ⟨Nat.le_of_ble_eq_true rfl, Nat.le_of_ble_eq_true rfl⟩) preEq rfl rfl hl.1 rfl (lv_room (Nat.le_of_ble_eq_true rfl)) dF_appendFixed_15 ⟨Nat.zero_le _, Nat.zero_le _⟩) (fun v15 e15 => ?_)
      obtain rfl : v15 = cw_C (itF it n cnt v (n + cnt - k)) := e15.trans (by rw [hnx]; exact lo_C (bq_lt _ _))
      have hPc := hP.sub (ws' := [(h, .inr (0, [.ref pw, .ref ps, .ref po, .ref pk, .int (nI (n + cnt - k))])), (pw, .inl (cI, 6, .inl wd)), (ps, .inl (cZ, 6, .inl sg)), (po, .inl (cI, 64, .inl ow2)), (pk, .inl (cI, 64, .inl co2))]) [0, 1, 2, 3, 4] rfl
      have hDc := hD.sub (ws' := [(h, .inr (0, [.ref pw, .ref ps, .ref po, .ref pk, .int (nI (n + cnt - k))])), (pw, .inl (cI, 6, .inl wd)), (ps, .inl (cZ, 6, .inl sg)), (po, .inl (cI, 64, .inl ow2)), (pk, .inl (cI, 64, .inl co2))]) [0, 1, 2, 3, 4] (by decide) rfl
      have hKc := hK.sub (tys' := [(cI, .int), (cZ, .boolean)]) [0, 1] rfl
      have hFc := va_free (wc := [(h, .inr (0, [.ref pw, .ref ps, .ref po, .ref pk, .int (nI (n + cnt - k))])), (pw, .inl (cI, 6, .inl wd)), (ps, .inl (cZ, 6, .inl sg)), (po, .inl (cI, 64, .inl ow2)), (pk, .inl (cI, 64, .inl co2))]) hD hS hA [0, 1, 2, 3, 4] rfl
      refine va_callv (va_runV (As := [.int (cw_O (itF it n cnt v (n + cnt - k))), .int (cw_C (itF it n cnt v (n + cnt - k)))]) (rest := []) ⟨hx, hb, hml, hown, hw⟩ (c_F_append l dC dI _ cI cZ h pw ps po pk (n + cnt - k) wd sg ow2 co2 (itF it n cnt v) w sb hR hok1) (cwV 2 hw (gV kw_226 kw_228 kw_2 kw_15 kw_229) rfl rfl rfl (by decide +kernel) ⟨Nat.le_of_ble_eq_true rfl, Nat.le_of_ble_eq_true rfl⟩) (rw_preV (q0 := 0) hKc hPc hDc rfl rfl) rfl rfl hl.1 rfl (lv_room (Nat.le_of_ble_eq_true rfl)) dF_appendFixed_18 ⟨Nat.zero_le _, Nat.zero_le _⟩) hS (fun q _ h => hFc q h) hFc (fun u t H1 locs ht hvm e18 hB hz1 hk1 hS => ?_)
      obtain ⟨hP1, hK1, hD1⟩ := hB
      rw [ht] at hP1
      obtain ⟨hP, hD⟩ := va_join (wr := []) (w1 := [(h, .inr (0, [.ref pw, .ref ps, .ref po, .ref pk, .int (nI (n + cnt - k + 1))])), (pw, .inl (cI, 6, .inl wd)), (ps, .inl (cZ, 6, .inl sg)), (po, .inl (cI, 64, .inl (upd ow2 (n + cnt - k) (cw_O (itF it n cnt v (n + cnt - k)))))), (pk, .inl (cI, 64, .inl (upd co2 (n + cnt - k) (cw_C (itF it n cnt v (n + cnt - k))))))]) hP hD [0, 1, 2, 3, 4] [] rfl rfl (by decide) (by decide) hk1 hFc hP1 hD1
      generalize H1 = H at hP hS ⊢
      have hP : va_P (dC, dI) cls3 [(h, .inr (0, [.ref pw, .ref ps, .ref po, .ref pk, .int (nI (n + cnt - k + 1))])), (pw, .inl (cI, 6, .inl wd)), (ps, .inl (cZ, 6, .inl sg)), (po, .inl (cI, 64, .inl (upd ow2 (n + cnt - k) (cw_O (itF it n cnt v (n + cnt - k)))))), (pk, .inl (cI, 64, .inl (upd co2 (n + cnt - k) (cw_C (itF it n cnt v (n + cnt - k))))))] H := hP
      have hD : va_D A [(h, .inr (0, [.ref pw, .ref ps, .ref po, .ref pk, .int (nI (n + cnt - k + 1))])), (pw, .inl (cI, 6, .inl wd)), (ps, .inl (cZ, 6, .inl sg)), (po, .inl (cI, 64, .inl (upd ow2 (n + cnt - k) (cw_O (itF it n cnt v (n + cnt - k)))))), (pk, .inl (cI, 64, .inl (upd co2 (n + cnt - k) (cw_C (itF it n cnt v (n + cnt - k))))))] := hD
      refine lv_iinc (k := 0) (v := nI (k - 1) - nI 1) hx hb dF_appendFixed_21 hl rfl (cw_dec (by omega)) (by decide) rfl (fun ls hl => ?_)
      have hl : lv_has ls 5 [(4, .int (nI (k - 1) - nI 1)), (0, .ref h), (1, .int (nI cnt)), (2, .long v)] := hl
      refine lv_goto (tgt := 5) hx hb dF_appendFixed_24 (by decide) ?_
      exact ih5 _ (by omega) (k - 1) (upd ow2 (n + cnt - k) (cw_O (itF it n cnt v (n + cnt - k)))) (upd co2 (n + cnt - k) (cw_C (itF it n cnt v (n + cnt - k)))) _ _ ls rfl (lv_sub (l' := [(4, .int (nI (k - 1) - nI 1)), (0, .ref h), (1, .int (nI cnt)), (2, .long v)]) hl [0, 1, 2, 3] rfl) (by omega) (by rw [hnn]; exact fR_app hR hok1) (by rw [hnn]; exact hP) (by rw [hnn]; exact hD) hS

set_option maxHeartbeats 4000000 in
set_option maxRecDepth 100000 in
theorem c_F_appendSlice (l : Launch) (dC : Nat → ClassId) (dI : Nat → Nat → Nat) (sz : Nat) (cI cZ : ClassId) (h pw ps po pk n : Nat) (wd sg ow co : Nat → Int32) (it w : Nat → Nat) (sb : Nat → Bool) (hF : fR n it w sb wd sg ow co) (o hi lo : Nat) (ho : o < 6) (hh : hi < w o) (hlo : lo ≤ hi) (hc : n + (hi + 1 - lo) ≤ 64) (hno : ∀ j, j < n → ∀ k, lo ≤ k → k ≤ hi → it j ≠ 2 + 64 * o + k) : Met l yF_appendSlice wF_appendSlice { frames := 1, cells := 0, slots := 0, locals := 22 } (rw_Pc (dC, dI) cls3 [(h, .inr (0, [.ref pw, .ref ps, .ref po, .ref pk, .int (nI n)])), (pw, .inl (cI, 6, .inl wd)), (ps, .inl (cZ, 6, .inl sg)), (po, .inl (cI, 64, .inl ow)), (pk, .inl (cI, 64, .inl co))] [(cI, .int), (cZ, .boolean)] sz [.ref h, .int (nI o), .int (nI hi), .int (nI lo)]) (va_Qv (fun _ : Unit => True) (fun _ t => ∃ ow' co' : Nat → Int32, fR (n + (hi + 1 - lo)) (itS it n o hi) w sb wd sg ow' co' ∧ va_P (dC, dI) cls3 [(h, .inr (0, [.ref pw, .ref ps, .ref po, .ref pk, .int (nI (n + (hi + 1 - lo)))])), (pw, .inl (cI, 6, .inl wd)), (ps, .inl (cZ, 6, .inl sg)), (po, .inl (cI, 64, .inl ow')), (pk, .inl (cI, 64, .inl co'))] t.heap ∧ va_K (dC, dI) cls3 [(cI, .int), (cZ, .boolean)] t ∧ va_D (va_A [(h, .inr (0, [.ref pw, .ref ps, .ref po, .ref pk, .int (nI n)])), (pw, .inl (cI, 6, .inl wd)), (ps, .inl (cZ, 6, .inl sg)), (po, .inl (cI, 64, .inl ow)), (pk, .inl (cI, 64, .inl co))] sz) [(h, .inr (0, [.ref pw, .ref ps, .ref po, .ref pk, .int (nI (n + (hi + 1 - lo)))])), (pw, .inl (cI, 6, .inl wd)), (ps, .inl (cZ, 6, .inl sg)), (po, .inl (cI, 64, .inl ow')), (pk, .inl (cI, 64, .inl co'))]) (va_A [(h, .inr (0, [.ref pw, .ref ps, .ref po, .ref pk, .int (nI n)])), (pw, .inl (cI, 6, .inl wd)), (ps, .inl (cZ, 6, .inl sg)), (po, .inl (cI, 64, .inl ow)), (pk, .inl (cI, 64, .inl co))] sz)) 0 0 (va_A [(h, .inr (0, [.ref pw, .ref ps, .ref po, .ref pk, .int (nI n)])), (pw, .inl (cI, 6, .inl wd)), (ps, .inl (cZ, 6, .inl sg)), (po, .inl (cI, 64, .inl ow)), (pk, .inl (cI, 64, .inl co))] sz) := by
  refine Met.ofW (cc := cF_appendSlice) (maxL := 5) (ret := none) (by decide) rfl ?_
  intro p e s m args below meth c s₁ B hml hv
  obtain ⟨rfl, hsz, hP, hK, hD0⟩ := hv
  have hx := B.exec
  have hb := B.bytes
  have hr := B.returns
  have hts := atoms_spec (ws := wF_appendSlice) B.pre
  have hw : ∀ w ∈ wA, w.before _ s = true := fun w h => hts w (List.mem_cons_of_mem _ h)
  have hown : s.vm.findClass RF = some m.cls := findClass_of_methodNamed B.named
  have hlocks := B.notSynchronized
  subst hsz
  have hD := hD0.self (sz := s.heap.size)
  generalize hAe : va_A [(h, .inr (0, [.ref pw, .ref ps, .ref po, .ref pk, .int (nI n)])), (pw, .inl (cI, 6, .inl wd)), (ps, .inl (cZ, 6, .inl sg)), (po, .inl (cI, 64, .inl ow)), (pk, .inl (cI, 64, .inl co))] s.heap.size = A at hD ⊢
  have hA : ∀ q : Nat, s.heap.size ≤ q → A q := fun q h => by rw [← hAe]; exact Or.inr h
  have hS : va_S A s.heap s.heap [] := va_S.rf
  have hl := lv_entry ([.ref h, .int (nI o), .int (nI hi), .int (nI lo)]) (n := 5) (Nat.le_of_ble_eq_true rfl)
  rw [lg_entry_eq]
  generalize (lg_sl ([.ref h, .int (nI o), .int (nI hi), .int (nI lo)]) ++ List.replicate (5 - (lg_sl ([.ref h, .int (nI o), .int (nI hi), .int (nI lo)])).length) Slot.unset).toArray = ls at hl ⊢
  have hl : lv_has ls 5 [(0, .ref h), (1, .int (nI o)), (2, .int (nI hi)), (3, .int (nI lo))] := hl
  have hn : n ≤ 64 := hF.1.1
  have hwd := hF.2.1
  have hsg := hF.2.2.1
  have hoc := hF.2.2.2
  have hit := cw_it hF.1
  have hw64 := hF.1.2.1
  have hwo := hw64 o ho
  refine lv_iload_n hx hb dF_appendSlice_0 rfl (lv_at hl 2 rfl) ?_
  refine lv_istore hx hb dF_appendSlice_1 hl (by decide) rfl (fun ls hl => ?_)
  have hl : lv_has ls 5 [(4, .int (nI hi)), (0, .ref h), (1, .int (nI o)), (2, .int (nI hi)), (3, .int (nI lo))] := hl
  refine (?_ : ∀ (kk : Nat) (k : Nat) (ow2 : Nat → Int32) (co2 : Nat → Int32) (H : Heap) (locs : List Loc) (ls : Array Slot), kk = k → lv_has ls 5 [(4, .int (nI k - nI 1)), (0, .ref h), (1, .int (nI o)), (2, .int (nI hi)), (3, .int (nI lo))] → (k ≤ hi + 1) → (lo ≤ k) → (fR (n + (hi + 1 - k)) (itS it n o hi) w sb wd sg ow2 co2) → va_P (dC, dI) cls3 [(h, .inr (0, [.ref pw, .ref ps, .ref po, .ref pk, .int (nI (n + (hi + 1 - k)))])), (pw, .inl (cI, 6, .inl wd)), (ps, .inl (cZ, 6, .inl sg)), (po, .inl (cI, 64, .inl ow2)), (pk, .inl (cI, 64, .inl co2))] H → va_D A [(h, .inr (0, [.ref pw, .ref ps, .ref po, .ref pk, .int (nI (n + (hi + 1 - k)))])), (pw, .inl (cI, 6, .inl wd)), (ps, .inl (cZ, 6, .inl sg)), (po, .inl (cI, 64, .inl ow2)), (pk, .inl (cI, 64, .inl co2))] → va_S A s.heap H locs → W p l e _ s m _ below meth c H locs _ _ _ (F0 m 3 ls [])) _ (hi + 1) ow co _ _ ls rfl (cw_lvx (lv_sub (l' := [(4, .int (nI hi)), (0, .ref h), (1, .int (nI o)), (2, .int (nI hi)), (3, .int (nI lo))]) hl [0, 1, 2, 3, 4] rfl) (by rw [show nI (hi + 1) - nI 1 = nI hi from nI_pred hi])) (by omega) (by omega) (by rw [Nat.sub_self, Nat.add_zero]; exact fR_congr hF (fun j hj => itS_lt hj)) (by rw [Nat.sub_self, Nat.add_zero]; exact hP) (by rw [Nat.sub_self, Nat.add_zero]; exact hD) hS
  intro kk
  induction kk using Nat.strongRecOn with
  | ind kk3 ih3 =>
    intro k ow2 co2 H locs ls hkk3 hl hk hk2 hR hP hD hS
    refine lv_iload hx hb dF_appendSlice_3 (lv_at hl 0 rfl) ?_
    refine lv_iload_n hx hb dF_appendSlice_5 rfl (lv_at hl 4 rfl) ?_
    refine lv_icmp_lt (tgt := 22) hx hb dF_appendSlice_6 (by decide) (fun h6 => ?_) (fun h6 => ?_)
    · rw [dn_lt (by omega) (by omega)] at h6
      obtain rfl : k = lo := by omega
      exact W.vret hx hb hr (fun t ht hW => ⟨⟨(), rfl, trivial, ow2, co2, hR, by rw [ht]; exact hP, va_K.moved hW.alike hK, hD⟩, hS.F ht⟩) hS.2.2 dF_appendSlice_22
    · rw [dn_lt (by omega) (by omega)] at h6
      have hnn : n + (hi + 1 - (k - 1)) = n + (hi + 1 - k) + 1 := by omega
      have hok1 : cw_ok (itS it n o hi) (n + (hi + 1 - k) + 1) w := itS_ok hF.1 ho hh hlo hno (by omega) (by omega) (by omega)
      have hnx : itS it n o hi (n + (hi + 1 - k)) = 2 + 64 * o + (k - 1) := by rw [itS_ge (by omega)]; omega
      refine lv_aload_n hx hb dF_appendSlice_9 rfl (lv_at hl 1 rfl) ?_
      refine lv_iload_n hx hb dF_appendSlice_10 rfl (lv_at hl 2 rfl) ?_
      refine lv_topi (fun w10 ew10 => ?_)
      obtain rfl : w10 = cw_O (itS it n o hi (n + (hi + 1 - k))) := ew10.trans (by rw [hnx]; exact dn_O (by omega))
      refine lv_iload hx hb dF_appendSlice_11 (lv_at hl 0 rfl) ?_
      refine lv_topi (fun w11 ew11 => ?_)
      obtain rfl : w11 = cw_C (itS it n o hi (n + (hi + 1 - k))) := ew11.trans (by rw [hnx]; exact dn_C (by omega) (by omega))
      have hPc := hP.sub (ws' := [(h, .inr (0, [.ref pw, .ref ps, .ref po, .ref pk, .int (nI (n + (hi + 1 - k)))])), (pw, .inl (cI, 6, .inl wd)), (ps, .inl (cZ, 6, .inl sg)), (po, .inl (cI, 64, .inl ow2)), (pk, .inl (cI, 64, .inl co2))]) [0, 1, 2, 3, 4] rfl
      have hDc := hD.sub (ws' := [(h, .inr (0, [.ref pw, .ref ps, .ref po, .ref pk, .int (nI (n + (hi + 1 - k)))])), (pw, .inl (cI, 6, .inl wd)), (ps, .inl (cZ, 6, .inl sg)), (po, .inl (cI, 64, .inl ow2)), (pk, .inl (cI, 64, .inl co2))]) [0, 1, 2, 3, 4] (by decide) rfl
      have hKc := hK.sub (tys' := [(cI, .int), (cZ, .boolean)]) [0, 1] rfl
      have hFc := va_free (wc := [(h, .inr (0, [.ref pw, .ref ps, .ref po, .ref pk, .int (nI (n + (hi + 1 - k)))])), (pw, .inl (cI, 6, .inl wd)), (ps, .inl (cZ, 6, .inl sg)), (po, .inl (cI, 64, .inl ow2)), (pk, .inl (cI, 64, .inl co2))]) hD hS hA [0, 1, 2, 3, 4] rfl
      refine va_callv (va_runV (As := [.int (cw_O (itS it n o hi (n + (hi + 1 - k)))), .int (cw_C (itS it n o hi (n + (hi + 1 - k))))]) (rest := []) ⟨hx, hb, hml, hown, hw⟩ (c_F_append l dC dI _ cI cZ h pw ps po pk (n + (hi + 1 - k)) wd sg ow2 co2 (itS it n o hi) w sb hR hok1) (cwV 2 hw (gV kw_226 kw_228 kw_2 kw_15 kw_229) rfl rfl rfl (by decide +kernel) ⟨Nat.le_of_ble_eq_true rfl, Nat.le_of_ble_eq_true rfl⟩) (rw_preV (q0 := 0) hKc hPc hDc rfl rfl) rfl rfl hl.1 rfl (lv_room (Nat.le_of_ble_eq_true rfl)) dF_appendSlice_13 ⟨Nat.zero_le _, Nat.zero_le _⟩) hS (fun q _ h => hFc q h) hFc (fun u t H1 locs ht hvm e13 hB hz1 hk1 hS => ?_)
      obtain ⟨hP1, hK1, hD1⟩ := hB
      rw [ht] at hP1
      obtain ⟨hP, hD⟩ := va_join (wr := []) (w1 := [(h, .inr (0, [.ref pw, .ref ps, .ref po, .ref pk, .int (nI (n + (hi + 1 - k) + 1))])), (pw, .inl (cI, 6, .inl wd)), (ps, .inl (cZ, 6, .inl sg)), (po, .inl (cI, 64, .inl (upd ow2 (n + (hi + 1 - k)) (cw_O (itS it n o hi (n + (hi + 1 - k))))))), (pk, .inl (cI, 64, .inl (upd co2 (n + (hi + 1 - k)) (cw_C (itS it n o hi (n + (hi + 1 - k)))))))]) hP hD [0, 1, 2, 3, 4] [] rfl rfl (by decide) (by decide) hk1 hFc hP1 hD1
      generalize H1 = H at hP hS ⊢
      have hP : va_P (dC, dI) cls3 [(h, .inr (0, [.ref pw, .ref ps, .ref po, .ref pk, .int (nI (n + (hi + 1 - k) + 1))])), (pw, .inl (cI, 6, .inl wd)), (ps, .inl (cZ, 6, .inl sg)), (po, .inl (cI, 64, .inl (upd ow2 (n + (hi + 1 - k)) (cw_O (itS it n o hi (n + (hi + 1 - k))))))), (pk, .inl (cI, 64, .inl (upd co2 (n + (hi + 1 - k)) (cw_C (itS it n o hi (n + (hi + 1 - k)))))))] H := hP
      have hD : va_D A [(h, .inr (0, [.ref pw, .ref ps, .ref po, .ref pk, .int (nI (n + (hi + 1 - k) + 1))])), (pw, .inl (cI, 6, .inl wd)), (ps, .inl (cZ, 6, .inl sg)), (po, .inl (cI, 64, .inl (upd ow2 (n + (hi + 1 - k)) (cw_O (itS it n o hi (n + (hi + 1 - k))))))), (pk, .inl (cI, 64, .inl (upd co2 (n + (hi + 1 - k)) (cw_C (itS it n o hi (n + (hi + 1 - k)))))))] := hD
      refine lv_iinc (k := 0) (v := nI (k - 1) - nI 1) hx hb dF_appendSlice_16 hl rfl (cw_dec (by omega)) (by decide) rfl (fun ls hl => ?_)
      have hl : lv_has ls 5 [(4, .int (nI (k - 1) - nI 1)), (0, .ref h), (1, .int (nI o)), (2, .int (nI hi)), (3, .int (nI lo))] := hl
      refine lv_goto (tgt := 3) hx hb dF_appendSlice_19 (by decide) ?_
      exact ih3 _ (by omega) (k - 1) (upd ow2 (n + (hi + 1 - k)) (cw_O (itS it n o hi (n + (hi + 1 - k))))) (upd co2 (n + (hi + 1 - k)) (cw_C (itS it n o hi (n + (hi + 1 - k))))) _ _ ls rfl (lv_sub (l' := [(4, .int (nI (k - 1) - nI 1)), (0, .ref h), (1, .int (nI o)), (2, .int (nI hi)), (3, .int (nI lo))]) hl [0, 1, 2, 3, 4] rfl) (by omega) (by omega) (by rw [hnn]; exact fR_app hR hok1) (by rw [hnn]; exact hP) (by rw [hnn]; exact hD) hS
