/-! what a call does, by numbers: its code (0: it returns; else the exception's), the state behind it -/
def stp {α : Type} (c : Nat) (a b : α) : α := match c with
  | 0 => a
  | _ + 1 => b
def cdClear (x : Int32) : Nat := if isF x = true then 0 else 1
def cdNum (x : Int32) : Nat := if isO x = true then 0 else 1
def cdOper (wss : Nat → Nat → Nat) (x y n : Int32) : Nat := if (isF x && (isO y && isB n)) = true then (if 0 < wss (fi x) (fi y) then 2 else 0) else 1
def cdFixed (ns : Nat → Nat) (x n : Int32) : Nat := if (isF x && isB n) = true then (if 64 < ns (fi x) + fi n then 2 else 0) else 1
def hany (it : Nat → Nat) (n o hi lo : Nat) : Bool := !(allb (fun j => !(hcd it o hi lo j)) n)
def cdSlice (ns : Nat → Nat) (its wss : Nat → Nat → Nat) (x y hi lo : Int32) : Nat :=
  if thr wss x y = true ∧ lo ≤ hi then (if lo < 0 ∨ nI (wss (fi x) (fi y)) ≤ hi then 2 else if 64 < ns (fi x) + (fi hi + 1 - fi lo) then 2 else if hany (its (fi x)) (ns (fi x)) (fi y) (fi hi) (fi lo) = true then 3 else 0) else 1
def cdFits (wss : Nat → Nat → Nat) (x y : Int32) : Nat := if thr wss x y = true then 0 else 1
def afit (w : Nat → Nat) (sb : Nat → Bool) (nu : Nat → Int64) : Bool := allb (fun o => decide (w o = 0) || fitB (w o) (sb o) (nu o)) 6
def cdEnc (ns : Nat → Nat) (its wss : Nat → Nat → Nat) (sbs : Nat → Nat → Bool) (nu : Nat → Int64) (x : Int32) : Nat :=
  if isF x = true then (if cw_lft (its (fi x)) (ns (fi x)) (wss (fi x)) 6 = 0 then (if afit (wss (fi x)) (sbs (fi x)) nu = true then 0 else 3) else 2) else 1
def isof (it : Nat → Nat) (n : Nat) (wo : Int64) : Bool := allb (fun j => alw it n j (bq wo j)) 64
def cdDec (ns : Nat → Nat) (its wss : Nat → Nat → Nat) (x y : Int32) (wo : Int64) : Nat :=
  if thr wss x y = true then (if cw_lft (its (fi x)) (ns (fi x)) (wss (fi x)) 6 = 0 then (if isof (its (fi x)) (ns (fi x)) wo = true then 0 else 3) else 2) else 1
def cdMeet (x y : Int32) : Nat := if (isF x && isF y) = true then 0 else 1
def cdCnt (x q : Int32) : Nat := if (isF x && isW q) = true then 0 else 1
def cntR (ns : Nat → Nat) (its wss : Nat → Nat → Nat) (f : Nat) (q : Nat) : Nat := match q with
  | 0 => ns f
  | 1 => cw_fix (its f) (ns f)
  | 2 => cw_ops (wss f) 6
  | _ => cw_lft (its f) (ns f) (wss f) 6
section MR
variable {ns : Nat → Nat} {its wss : Nat → Nat → Nat} {sbs : Nat → Nat → Bool} {ln wh bi si : Nat → Int32} {f m : Nat} {X : Nat → Nat}
theorem mR_ln (h : mR (va_up ns f m) its wss sbs ln wh bi si) (hf : f < 8) : ln f = nI m := by
  have := (h f hf).2.1; rw [va_up_self] at this; exact this
theorem mR_st (h : mR ns its wss sbs ln wh bi si) (e : ∀ j, j < ns f → X j = its f j) : mR (va_up ns f (ns f)) (va_up its f X) wss sbs ln wh bi si := by
  intro g hg
  obtain ⟨⟨h1, h2, h3, h4⟩, h5, h6, h7⟩ := h g hg
  by_cases q : g = f
  · subst q
    rw [va_up_self, va_up_self]
    exact ⟨⟨h1, h2, fun j hj => by rw [e j hj]; exact h3 j hj, fun i j hi hj => by rw [e i hi, e j hj]; exact h4 i j hi hj⟩, h5, h6, fun j hj => by rw [e j hj]; exact h7 j hj⟩
  · rw [va_up_ne _ _ q, va_up_ne _ _ q]
    exact ⟨⟨h1, h2, h3, h4⟩, h5, h6, h7⟩
/-- an item more in the reference -/
theorem mR_app (hf : f < 8) (h : mR (va_up ns f m) (va_up its f X) wss sbs ln wh bi si) (hok : cw_ok X (m + 1) (wss f)) : mR (va_up ns f (m + 1)) (va_up its f X) wss sbs (upd ln f (nI (m + 1))) (upd wh (64 * f + m) (nI (X m))) bi si := by
  intro g hg
  obtain ⟨h0, h5, h6, h7⟩ := h g hg
  have hm : m + 1 ≤ 64 := hok.1
  by_cases q : g = f
  · subst q
    rw [va_up_self] at h7 ⊢
    rw [va_up_self] at h7 ⊢
    refine ⟨hok, pk_us, h6, fun j hj => ?_⟩
    by_cases e : j = m
    · subst e; exact pk_us
    · rw [pk_un (by omega)]; exact h7 j (by omega)
  · rw [va_up_ne _ _ q] at h0 h5 h7 ⊢
    rw [va_up_ne _ _ q] at h0 h7 ⊢
    refine ⟨h0, by rw [pk_un q]; exact h5, h6, fun j hj => ?_⟩
    have := h0.1
    rw [pk_un (by omega)]
    exact h7 j hj
theorem mR_clear (h : mR ns its wss sbs ln wh bi si) (hf : f < 8) {bi2 : Nat → Int32} (h1 : ∀ o, o < 6 → bi2 (6 * f + o) = nI 0) (h2 : ∀ g o, g < 8 → g ≠ f → o < 6 → bi2 (6 * g + o) = bi (6 * g + o)) : mR (va_up ns f 0) its (va_up wss f (fun _ => 0)) sbs (upd ln f (nI 0)) wh bi2 si := by
  intro g hg
  obtain ⟨h0, h5, h6, h7⟩ := h g hg
  by_cases q : g = f
  · subst q
    rw [va_up_self, va_up_self]
    exact ⟨⟨by omega, fun _ _ => Nat.zero_le _, fun j hj => by omega, fun i j hi => by omega⟩, pk_us, fun o ho => ⟨h1 o ho, (h6 o ho).2⟩, fun j hj => by omega⟩
  · rw [va_up_ne _ _ q, va_up_ne _ _ q]
    exact ⟨h0, by rw [pk_un q]; exact h5, fun o ho => by rw [h2 g o hg q ho]; exact h6 o ho, h7⟩
theorem mR_oper (h : mR ns its wss sbs ln wh bi si) (hf : f < 8) {o k : Nat} {b : Bool} (ho : o < 6) (hk : k ≤ 64) (h0 : wss f o = 0) : mR ns its (va_up wss f (va_up (wss f) o k)) (va_up sbs f (va_up (sbs f) o b)) ln wh (upd bi (6 * f + o) (nI k)) (upd si (6 * f + o) (vp_nar .boolean (nI b.toNat))) := by
  intro g hg
  obtain ⟨⟨g1, g2, g3, g4⟩, h5, h6, h7⟩ := h g hg
  by_cases q : g = f
  · subst q
    rw [va_up_self, va_up_self]
    refine ⟨⟨g1, fun i hi => ?_, fun j hj => ?_, g4⟩, h5, fun i hi => ?_, h7⟩
    · by_cases e : i = o
      · rw [e, va_up_self]; exact hk
      · rw [va_up_ne _ _ e]; exact g2 i hi
    · rcases g3 j hj with z | ⟨i, m, hi, hm, z⟩
      · exact Or.inl z
      · refine Or.inr ⟨i, m, hi, ?_, z⟩
        have : i ≠ o := fun y => by rw [y, h0] at hm; omega
        rw [va_up_ne _ _ this]; exact hm
    · by_cases e : i = o
      · rw [e, pk_us, pk_us, va_up_self, va_up_self]
        exact ⟨rfl, by cases b <;> decide +kernel⟩
      · rw [pk_un (by omega), pk_un (by omega), va_up_ne _ _ e, va_up_ne _ _ e]; exact h6 i hi
  · rw [va_up_ne _ _ q, va_up_ne _ _ q]
    refine ⟨⟨g1, g2, g3, g4⟩, h5, fun i hi => ?_, h7⟩
    rw [pk_un (by omega), pk_un (by omega)]; exact h6 i hi
end MR
theorem hany_t {it : Nat → Nat} {n o hi lo j : Nat} (hj : j < n) (h : hcd it o hi lo j = true) : hany it n o hi lo = true := by
  unfold hany; rw [allb_f (fun j => !(hcd it o hi lo j)) n hj (by rw [h]; rfl)]; rfl
theorem hany_f {it : Nat → Nat} {n o hi lo : Nat} (h : ∀ j, j < n → hcd it o hi lo j = false) : hany it n o hi lo = false := by
  unfold hany; rw [(allb_iff (fun j => !(hcd it o hi lo j)) n).mpr (fun k hk => by rw [h k hk]; rfl)]; rfl
theorem hany_no {it : Nat → Nat} {n o hi lo : Nat} (h : hany it n o hi lo = false) (hh : hi < 64) : ∀ j, j < n → ∀ k, lo ≤ k → k ≤ hi → it j ≠ 2 + 64 * o + k := by
  intro j hj k h1 h2 e
  have : hcd it o hi lo j = true := decide_eq_true ⟨by omega, by omega, by omega, by omega⟩
  rw [hany_t hj this] at h; cases h
theorem hany_p {it : Nat → Nat} {n o hi lo k : Nat} (hh : hi < 64) (h1 : lo ≤ k) (h2 : k ≤ hi) (h : cw_has it (2 + 64 * o + k) n = true) : hany it n o hi lo = true := by
  obtain ⟨j, hj, e⟩ := (cw_has_iff _ _ _).mp h
  exact hany_t hj (decide_eq_true ⟨by omega, by omega, by omega, by omega⟩)
theorem hany_q {it : Nat → Nat} {n o hi lo : Nat} (h : ∀ k, lo ≤ k → k ≤ hi → ¬ cw_has it (2 + 64 * o + k) n = true) : hany it n o hi lo = false := by
  refine hany_f (fun j hj => ?_)
  refine decide_eq_false (fun q => ?_)
  exact h ((it j - 2) % 64) q.2.2.1 q.2.2.2 ((cw_has_iff _ _ _).mpr ⟨j, hj, by omega⟩)
/-- what stands at place j, 0 beyond the length -/
def atS (it : Nat → Nat) (n j : Nat) : Nat := if j < n then it (n - 1 - j) else 0
theorem atS_lt {it : Nat → Nat} {n j : Nat} (h : j < n) : nI (it (n - 1 - j)) = nI (atS it n j) := by unfold atS; rw [if_pos h]
theorem atS_ge {it : Nat → Nat} {n j : Nat} (h : ¬ j < n) : nI 0 = nI (atS it n j) := by unfold atS; rw [if_neg h]
theorem alw_at (it : Nat → Nat) (n j b : Nat) : alw it n j b = (decide (2 ≤ atS it n j) || (atS it n j == b)) := by
  unfold alw atS
  by_cases h : n ≤ j
  · rw [if_pos h, if_neg (by omega)]
    by_cases e : b = 0
    · subst e; rfl
    · rw [beq_eq_false_iff_ne.mpr e, beq_eq_false_iff_ne.mpr (Ne.symm e)]; rfl
  · rw [if_neg h, if_pos (by omega)]
theorem shw_at {it it2 : Nat → Nat} {n n2 j : Nat} (h : ¬ (atS it n j < 2 ∧ atS it2 n2 j < 2 ∧ ¬ atS it n j = atS it2 n2 j)) : shw it n it2 n2 j = true := by
  unfold shw
  simp only [alw_at, Bool.or_eq_true, Bool.and_eq_true, decide_eq_true_eq, beq_iff_eq]
  omega
theorem shw_af {it it2 : Nat → Nat} {n n2 j : Nat} (h1 : atS it n j < 2) (h2 : atS it2 n2 j < 2) (h3 : ¬ atS it n j = atS it2 n2 j) : shw it n it2 n2 j = false := by
  apply b_ff
  unfold shw
  simp only [alw_at, Bool.or_eq_true, Bool.and_eq_true, decide_eq_true_eq, beq_iff_eq]
  omega
set_option maxHeartbeats 4000000 in
set_option maxRecDepth 100000 in
theorem c_M_fails1 (l : Launch) (dC : Nat → ClassId) (dI : Nat → Nat → Nat) (sz : Nat) (cI cZ cJ : ClassId) (hm ml mw mb ms mn : Nat) (ln wh bi si : Nat → Int32) (nu : Nat → Int64) (cd : Nat) (hcd : 0 < cd ∧ cd < 10) : Met l yM_fails wM_fails { frames := 0, cells := 0, slots := 0, locals := 0 } (rw_Pc (dC, dI) cls3 [(hm, .inr (2, [.int (nI 0), .ref ml, .ref mw, .ref mb, .ref ms, .ref mn])), (ml, .inl (cI, 8, .inl ln)), (mw, .inl (cI, 512, .inl wh)), (mb, .inl (cI, 48, .inl bi)), (ms, .inl (cZ, 48, .inl si)), (mn, .inl (cJ, 6, .inr (.inl nu)))] [(cI, .int), (cZ, .boolean), (cJ, .long)] sz [.ref hm, .int (nI 1), .int (nI cd)]) (va_Qi (fun (r : Int32) (_ : Unit) => r = nI 1) (fun _ t => va_P (dC, dI) cls3 [(hm, .inr (2, [.int (nI cd), .ref ml, .ref mw, .ref mb, .ref ms, .ref mn])), (ml, .inl (cI, 8, .inl ln)), (mw, .inl (cI, 512, .inl wh)), (mb, .inl (cI, 48, .inl bi)), (ms, .inl (cZ, 48, .inl si)), (mn, .inl (cJ, 6, .inr (.inl nu)))] t.heap ∧ va_K (dC, dI) cls3 [(cI, .int), (cZ, .boolean), (cJ, .long)] t ∧ va_D (va_A [(hm, .inr (2, [.int (nI 0), .ref ml, .ref mw, .ref mb, .ref ms, .ref mn])), (ml, .inl (cI, 8, .inl ln)), (mw, .inl (cI, 512, .inl wh)), (mb, .inl (cI, 48, .inl bi)), (ms, .inl (cZ, 48, .inl si)), (mn, .inl (cJ, 6, .inr (.inl nu)))] sz) [(hm, .inr (2, [.int (nI cd), .ref ml, .ref mw, .ref mb, .ref ms, .ref mn])), (ml, .inl (cI, 8, .inl ln)), (mw, .inl (cI, 512, .inl wh)), (mb, .inl (cI, 48, .inl bi)), (ms, .inl (cZ, 48, .inl si)), (mn, .inl (cJ, 6, .inr (.inl nu)))]) (va_A [(hm, .inr (2, [.int (nI 0), .ref ml, .ref mw, .ref mb, .ref ms, .ref mn])), (ml, .inl (cI, 8, .inl ln)), (mw, .inl (cI, 512, .inl wh)), (mb, .inl (cI, 48, .inl bi)), (ms, .inl (cZ, 48, .inl si)), (mn, .inl (cJ, 6, .inr (.inl nu)))] sz)) 0 0 (va_A [(hm, .inr (2, [.int (nI 0), .ref ml, .ref mw, .ref mb, .ref ms, .ref mn])), (ml, .inl (cI, 8, .inl ln)), (mw, .inl (cI, 512, .inl wh)), (mb, .inl (cI, 48, .inl bi)), (ms, .inl (cZ, 48, .inl si)), (mn, .inl (cJ, 6, .inr (.inl nu)))] sz) := by
  refine Met.ofW (cc := cM_fails) (maxL := 3) (ret := (some .boolean)) (by decide) rfl ?_
  intro p e s m args below meth c s₁ B hml hv
  obtain ⟨rfl, hsz, hP, hK, hD0⟩ := hv
  have hx := B.exec
  have hb := B.bytes
  have hr := B.returns
  have hts := atoms_spec (ws := wM_fails) B.pre
  have hw : ∀ w ∈ wA, w.before _ s = true := fun w h => hts w (List.mem_cons_of_mem _ h)
  have hown : s.vm.findClass RM = some m.cls := findClass_of_methodNamed B.named
  have hlocks := B.notSynchronized
  subst hsz
  have hD := hD0.self (sz := s.heap.size)
  generalize hAe : va_A [(hm, .inr (2, [.int (nI 0), .ref ml, .ref mw, .ref mb, .ref ms, .ref mn])), (ml, .inl (cI, 8, .inl ln)), (mw, .inl (cI, 512, .inl wh)), (mb, .inl (cI, 48, .inl bi)), (ms, .inl (cZ, 48, .inl si)), (mn, .inl (cJ, 6, .inr (.inl nu)))] s.heap.size = A at hD ⊢
  have hA : ∀ q : Nat, s.heap.size ≤ q → A q := fun q h => by rw [← hAe]; exact Or.inr h
  have hS : va_S A s.heap s.heap [] := va_S.rf
  have hl := lv_entry ([.ref hm, .int (nI 1), .int (nI cd)]) (n := 3) (Nat.le_of_ble_eq_true rfl)
  rw [lg_entry_eq]
  generalize (lg_sl ([.ref hm, .int (nI 1), .int (nI cd)]) ++ List.replicate (3 - (lg_sl ([.ref hm, .int (nI 1), .int (nI cd)])).length) Slot.unset).toArray = ls at hl ⊢
  have hl : lv_has ls 3 [(0, .ref hm), (1, .int (nI 1)), (2, .int (nI cd))] := hl
  refine lv_iload_n hx hb dM_fails_0 rfl (lv_at hl 1 rfl) ?_
  refine lv_if_eq (tgt := 16) hx hb dM_fails_1 (by decide) (fun h1 => ?_) (fun h1 => ?_)
  · exfalso
    first | exact h1 (by decide +kernel) | exact absurd h1 (by decide +kernel)
  · refine lv_aload_n hx hb dM_fails_4 rfl (lv_at hl 0 rfl) ?_
    refine va_get (D := (dC, dI)) (ci := 2) (v := .int (nI 0)) (C := RM) (T := TM) (N := 6) hx hb hw inM hown hK hP 0 rfl rfl 0 (by decide) (hw _ kw_386) (fun _ h9 => h9) rfl dM_fails_5 ?_
    refine lv_if_ne (tgt := 16) hx hb dM_fails_8 (by decide) (fun h8 => ?_) (fun h8 => ?_)
    · exfalso
      first | exact h8 (by decide +kernel) | exact absurd h8 (by decide +kernel)
    · refine lv_aload_n hx hb dM_fails_11 rfl (lv_at hl 0 rfl) ?_
      refine lv_iload_n hx hb dM_fails_12 rfl (lv_at hl 2 rfl) ?_
      refine va_put (D := (dC, dI)) (ci := 2) (v := .int (nI cd)) (ty := .int) (C := RM) (T := TM) (N := 6) hx hb hw inM tM tM_ok nM hown hK hP hD hS 0 rfl rfl 0 (by decide) (hw _ kw_386) (fun _ h9 => h9) rfl (by decide +kernel) rfl rfl (Nat.le_of_ble_eq_true rfl) dM_fails_13 (fun H locs hP hD hS => ?_)
      have hP : va_P (dC, dI) cls3 [(hm, .inr (2, [.int (nI cd), .ref ml, .ref mw, .ref mb, .ref ms, .ref mn])), (ml, .inl (cI, 8, .inl ln)), (mw, .inl (cI, 512, .inl wh)), (mb, .inl (cI, 48, .inl bi)), (ms, .inl (cZ, 48, .inl si)), (mn, .inl (cJ, 6, .inr (.inl nu)))] H := hP
      have hD : va_D A [(hm, .inr (2, [.int (nI cd), .ref ml, .ref mw, .ref mb, .ref ms, .ref mn])), (ml, .inl (cI, 8, .inl ln)), (mw, .inl (cI, 512, .inl wh)), (mb, .inl (cI, 48, .inl bi)), (ms, .inl (cZ, 48, .inl si)), (mn, .inl (cJ, 6, .inr (.inl nu)))] := hD
      refine lv_aload_n hx hb dM_fails_16 rfl (lv_at hl 0 rfl) ?_
      refine va_get (D := (dC, dI)) (ci := 2) (v := .int (nI cd)) (C := RM) (T := TM) (N := 6) hx hb hw inM hown hK hP 0 rfl rfl 0 (by decide) (hw _ kw_386) (fun _ h9 => h9) rfl dM_fails_17 ?_
      refine lv_if_eq (tgt := 27) hx hb dM_fails_20 (by decide) (fun h20 => ?_) (fun h20 => ?_)
      · exfalso
        exact nI_ne0 hcd.1 (by omega) h20
      · refine lv_iconst (v := nI 1) hx hb dM_fails_23 (by decide +kernel) ?_
        refine lv_goto (tgt := 28) hx hb dM_fails_24 (by decide) ?_
        exact W.zret (v := nI 1) hx hb hr (by first | exact b_nar _ | decide +kernel) (fun t ht hW => ⟨⟨_, (), rfl, (rfl), by rw [ht]; exact hP, va_K.moved hW.alike hK, hD⟩, hS.F ht⟩) hS.2.2 dM_fails_28

set_option maxHeartbeats 4000000 in
set_option maxRecDepth 100000 in
theorem c_M_fails0 (l : Launch) (dC : Nat → ClassId) (dI : Nat → Nat → Nat) (sz : Nat) (cI cZ cJ : ClassId) (hm ml mw mb ms mn : Nat) (ln wh bi si : Nat → Int32) (nu : Nat → Int64) (cd : Nat) (hcd : 0 < cd ∧ cd < 10) : Met l yM_fails wM_fails { frames := 0, cells := 0, slots := 0, locals := 0 } (rw_Pc (dC, dI) cls3 [(hm, .inr (2, [.int (nI 0), .ref ml, .ref mw, .ref mb, .ref ms, .ref mn])), (ml, .inl (cI, 8, .inl ln)), (mw, .inl (cI, 512, .inl wh)), (mb, .inl (cI, 48, .inl bi)), (ms, .inl (cZ, 48, .inl si)), (mn, .inl (cJ, 6, .inr (.inl nu)))] [(cI, .int), (cZ, .boolean), (cJ, .long)] sz [.ref hm, .int (nI 0), .int (nI cd)]) (va_Qi (fun (r : Int32) (_ : Unit) => r = nI 0) (fun _ t => va_P (dC, dI) cls3 [(hm, .inr (2, [.int (nI 0), .ref ml, .ref mw, .ref mb, .ref ms, .ref mn])), (ml, .inl (cI, 8, .inl ln)), (mw, .inl (cI, 512, .inl wh)), (mb, .inl (cI, 48, .inl bi)), (ms, .inl (cZ, 48, .inl si)), (mn, .inl (cJ, 6, .inr (.inl nu)))] t.heap ∧ va_K (dC, dI) cls3 [(cI, .int), (cZ, .boolean), (cJ, .long)] t ∧ va_D (va_A [(hm, .inr (2, [.int (nI 0), .ref ml, .ref mw, .ref mb, .ref ms, .ref mn])), (ml, .inl (cI, 8, .inl ln)), (mw, .inl (cI, 512, .inl wh)), (mb, .inl (cI, 48, .inl bi)), (ms, .inl (cZ, 48, .inl si)), (mn, .inl (cJ, 6, .inr (.inl nu)))] sz) [(hm, .inr (2, [.int (nI 0), .ref ml, .ref mw, .ref mb, .ref ms, .ref mn])), (ml, .inl (cI, 8, .inl ln)), (mw, .inl (cI, 512, .inl wh)), (mb, .inl (cI, 48, .inl bi)), (ms, .inl (cZ, 48, .inl si)), (mn, .inl (cJ, 6, .inr (.inl nu)))]) (va_A [(hm, .inr (2, [.int (nI 0), .ref ml, .ref mw, .ref mb, .ref ms, .ref mn])), (ml, .inl (cI, 8, .inl ln)), (mw, .inl (cI, 512, .inl wh)), (mb, .inl (cI, 48, .inl bi)), (ms, .inl (cZ, 48, .inl si)), (mn, .inl (cJ, 6, .inr (.inl nu)))] sz)) 0 0 (va_A [(hm, .inr (2, [.int (nI 0), .ref ml, .ref mw, .ref mb, .ref ms, .ref mn])), (ml, .inl (cI, 8, .inl ln)), (mw, .inl (cI, 512, .inl wh)), (mb, .inl (cI, 48, .inl bi)), (ms, .inl (cZ, 48, .inl si)), (mn, .inl (cJ, 6, .inr (.inl nu)))] sz) := by
  refine Met.ofW (cc := cM_fails) (maxL := 3) (ret := (some .boolean)) (by decide) rfl ?_
  intro p e s m args below meth c s₁ B hml hv
  obtain ⟨rfl, hsz, hP, hK, hD0⟩ := hv
  have hx := B.exec
  have hb := B.bytes
  have hr := B.returns
  have hts := atoms_spec (ws := wM_fails) B.pre
  have hw : ∀ w ∈ wA, w.before _ s = true := fun w h => hts w (List.mem_cons_of_mem _ h)
  have hown : s.vm.findClass RM = some m.cls := findClass_of_methodNamed B.named
  have hlocks := B.notSynchronized
  subst hsz
  have hD := hD0.self (sz := s.heap.size)
  generalize hAe : va_A [(hm, .inr (2, [.int (nI 0), .ref ml, .ref mw, .ref mb, .ref ms, .ref mn])), (ml, .inl (cI, 8, .inl ln)), (mw, .inl (cI, 512, .inl wh)), (mb, .inl (cI, 48, .inl bi)), (ms, .inl (cZ, 48, .inl si)), (mn, .inl (cJ, 6, .inr (.inl nu)))] s.heap.size = A at hD ⊢
  have hA : ∀ q : Nat, s.heap.size ≤ q → A q := fun q h => by rw [← hAe]; exact Or.inr h
  have hS : va_S A s.heap s.heap [] := va_S.rf
  have hl := lv_entry ([.ref hm, .int (nI 0), .int (nI cd)]) (n := 3) (Nat.le_of_ble_eq_true rfl)
  rw [lg_entry_eq]
  generalize (lg_sl ([.ref hm, .int (nI 0), .int (nI cd)]) ++ List.replicate (3 - (lg_sl ([.ref hm, .int (nI 0), .int (nI cd)])).length) Slot.unset).toArray = ls at hl ⊢
  have hl : lv_has ls 3 [(0, .ref hm), (1, .int (nI 0)), (2, .int (nI cd))] := hl
  refine lv_iload_n hx hb dM_fails_0 rfl (lv_at hl 1 rfl) ?_
  refine lv_if_eq (tgt := 16) hx hb dM_fails_1 (by decide) (fun h1 => ?_) (fun h1 => ?_)
  · refine lv_aload_n hx hb dM_fails_16 rfl (lv_at hl 0 rfl) ?_
    refine va_get (D := (dC, dI)) (ci := 2) (v := .int (nI 0)) (C := RM) (T := TM) (N := 6) hx hb hw inM hown hK hP 0 rfl rfl 0 (by decide) (hw _ kw_386) (fun _ h9 => h9) rfl dM_fails_17 ?_
    refine lv_if_eq (tgt := 27) hx hb dM_fails_20 (by decide) (fun h20 => ?_) (fun h20 => ?_)
    · refine lv_iconst (v := nI 0) hx hb dM_fails_27 (by decide +kernel) ?_
      exact W.zret (v := nI 0) hx hb hr (by first | exact b_nar _ | decide +kernel) (fun t ht hW => ⟨⟨_, (), rfl, (rfl), by rw [ht]; exact hP, va_K.moved hW.alike hK, hD⟩, hS.F ht⟩) hS.2.2 dM_fails_28
    · exfalso
      first | exact h20 (by decide +kernel) | exact absurd h20 (by decide +kernel)
  · exfalso
    first | exact h1 (by decide +kernel) | exact absurd h1 (by decide +kernel)

set_option maxHeartbeats 4000000 in
set_option maxRecDepth 100000 in
theorem c_M_clear (l : Launch) (dC : Nat → ClassId) (dI : Nat → Nat → Nat) (sz : Nat) (cI cZ cJ : ClassId) (hm ml mw mb ms mn : Nat) (er : Int32) (ln wh bi si : Nat → Int32) (nu : Nat → Int64) (ns : Nat → Nat) (its wss : Nat → Nat → Nat) (sbs : Nat → Nat → Bool) (hM : mR ns its wss sbs ln wh bi si) (x : Int32) : Met l yM_clear wM_clear { frames := 2, cells := 0, slots := 0, locals := 45 } (rw_Pc (dC, dI) cls3 [(hm, .inr (2, [.int er, .ref ml, .ref mw, .ref mb, .ref ms, .ref mn])), (ml, .inl (cI, 8, .inl ln)), (mw, .inl (cI, 512, .inl wh)), (mb, .inl (cI, 48, .inl bi)), (ms, .inl (cZ, 48, .inl si)), (mn, .inl (cJ, 6, .inr (.inl nu)))] [(cI, .int), (cZ, .boolean), (cJ, .long)] sz [.ref hm, .int x]) (va_Qv (fun _ : Unit => True) (fun _ t => ∃ ln' bi' : Nat → Int32, mR (stp (cdClear x) (va_up ns (fi x) 0) ns) its (stp (cdClear x) (va_up wss (fi x) (fun _ => 0)) wss) sbs ln' wh bi' si ∧ va_P (dC, dI) cls3 [(hm, .inr (2, [.int (nI (cdClear x)), .ref ml, .ref mw, .ref mb, .ref ms, .ref mn])), (ml, .inl (cI, 8, .inl ln')), (mw, .inl (cI, 512, .inl wh)), (mb, .inl (cI, 48, .inl bi')), (ms, .inl (cZ, 48, .inl si)), (mn, .inl (cJ, 6, .inr (.inl nu)))] t.heap ∧ va_K (dC, dI) cls3 [(cI, .int), (cZ, .boolean), (cJ, .long)] t ∧ va_D (va_A [(hm, .inr (2, [.int er, .ref ml, .ref mw, .ref mb, .ref ms, .ref mn])), (ml, .inl (cI, 8, .inl ln)), (mw, .inl (cI, 512, .inl wh)), (mb, .inl (cI, 48, .inl bi)), (ms, .inl (cZ, 48, .inl si)), (mn, .inl (cJ, 6, .inr (.inl nu)))] sz) [(hm, .inr (2, [.int (nI (cdClear x)), .ref ml, .ref mw, .ref mb, .ref ms, .ref mn])), (ml, .inl (cI, 8, .inl ln')), (mw, .inl (cI, 512, .inl wh)), (mb, .inl (cI, 48, .inl bi')), (ms, .inl (cZ, 48, .inl si)), (mn, .inl (cJ, 6, .inr (.inl nu)))]) (va_A [(hm, .inr (2, [.int er, .ref ml, .ref mw, .ref mb, .ref ms, .ref mn])), (ml, .inl (cI, 8, .inl ln)), (mw, .inl (cI, 512, .inl wh)), (mb, .inl (cI, 48, .inl bi)), (ms, .inl (cZ, 48, .inl si)), (mn, .inl (cJ, 6, .inr (.inl nu)))] sz)) 0 0 (va_A [(hm, .inr (2, [.int er, .ref ml, .ref mw, .ref mb, .ref ms, .ref mn])), (ml, .inl (cI, 8, .inl ln)), (mw, .inl (cI, 512, .inl wh)), (mb, .inl (cI, 48, .inl bi)), (ms, .inl (cZ, 48, .inl si)), (mn, .inl (cJ, 6, .inr (.inl nu)))] sz) := by
  refine Met.ofW (cc := cM_clear) (maxL := 3) (ret := none) (by decide) rfl ?_
  intro p e s m args below meth c s₁ B hml hv
  obtain ⟨rfl, hsz, hP, hK, hD0⟩ := hv
  have hx := B.exec
  have hb := B.bytes
  have hr := B.returns
  have hts := atoms_spec (ws := wM_clear) B.pre
  have hw : ∀ w ∈ wA, w.before _ s = true := fun w h => hts w (List.mem_cons_of_mem _ h)
  have hown : s.vm.findClass RM = some m.cls := findClass_of_methodNamed B.named
  have hlocks := B.notSynchronized
  subst hsz
  have hD := hD0.self (sz := s.heap.size)
  generalize hAe : va_A [(hm, .inr (2, [.int er, .ref ml, .ref mw, .ref mb, .ref ms, .ref mn])), (ml, .inl (cI, 8, .inl ln)), (mw, .inl (cI, 512, .inl wh)), (mb, .inl (cI, 48, .inl bi)), (ms, .inl (cZ, 48, .inl si)), (mn, .inl (cJ, 6, .inr (.inl nu)))] s.heap.size = A at hD ⊢
  have hA : ∀ q : Nat, s.heap.size ≤ q → A q := fun q h => by rw [← hAe]; exact Or.inr h
  have hS : va_S A s.heap s.heap [] := va_S.rf
  have hl := lv_entry ([.ref hm, .int x]) (n := 3) (Nat.le_of_ble_eq_true rfl)
  rw [lg_entry_eq]
  generalize (lg_sl ([.ref hm, .int x]) ++ List.replicate (3 - (lg_sl ([.ref hm, .int x])).length) Slot.unset).toArray = ls at hl ⊢
  have hl : lv_has ls 3 [(0, .ref hm), (1, .int x)] := hl
  refine lv_aload_n hx hb dM_clear_0 rfl (lv_at hl 0 rfl) ?_
  refine lv_iconst (v := nI 0) hx hb dM_clear_1 (by decide +kernel) ?_
  refine va_put (D := (dC, dI)) (ci := 2) (v := .int (nI 0)) (ty := .int) (C := RM) (T := TM) (N := 6) hx hb hw inM tM tM_ok nM hown hK hP hD hS 0 rfl rfl 0 (by decide) (hw _ kw_386) (fun _ h9 => h9) rfl (by decide +kernel) rfl rfl (Nat.le_of_ble_eq_true rfl) dM_clear_2 (fun H locs hP hD hS => ?_)
  have hP : va_P (dC, dI) cls3 [(hm, .inr (2, [.int (nI 0), .ref ml, .ref mw, .ref mb, .ref ms, .ref mn])), (ml, .inl (cI, 8, .inl ln)), (mw, .inl (cI, 512, .inl wh)), (mb, .inl (cI, 48, .inl bi)), (ms, .inl (cZ, 48, .inl si)), (mn, .inl (cJ, 6, .inr (.inl nu)))] H := hP
  have hD : va_D A [(hm, .inr (2, [.int (nI 0), .ref ml, .ref mw, .ref mb, .ref ms, .ref mn])), (ml, .inl (cI, 8, .inl ln)), (mw, .inl (cI, 512, .inl wh)), (mb, .inl (cI, 48, .inl bi)), (ms, .inl (cZ, 48, .inl si)), (mn, .inl (cJ, 6, .inr (.inl nu)))] := hD
  refine lv_aload_n hx hb dM_clear_5 rfl (lv_at hl 0 rfl) ?_
  refine lv_iload_n hx hb dM_clear_6 rfl (lv_at hl 1 rfl) ?_
  refine vp_callSi (W.runS (As := [.int x]) (rest := [.ref hm]) ⟨hx, hb, hml, hown, hw⟩ (c_M_isForm l x) (cwS 1 hw (gS kw_413 kw_414 kw_16 kw_415) rfl rfl rfl (by decide +kernel) ⟨Nat.le_of_ble_eq_true rfl, Nat.le_of_ble_eq_true rfl⟩) preEq rfl rfl hl.1 rfl (lv_room (Nat.le_of_ble_eq_true rfl)) dM_clear_7 ⟨Nat.zero_le _, Nat.zero_le _⟩) (fun v7 e7 => ?_)
  obtain rfl : v7 = nI (isF x).toNat := e7
  refine lv_if_ne (tgt := 17) hx hb dM_clear_10 (by decide) (fun h10 => ?_) (fun h10 => ?_)
  · obtain ⟨f, hf, rfl⟩ := isF_of (b_nf h10)
    have hfi : fi (nI f) = f := fi_nI (by omega)
    have hok := (hM f hf).1
    have hn := hok.1
    have hw64 := hok.2.1
    have hit := cw_it hok
    refine lv_iconst (v := nI 0) hx hb dM_clear_17 (by decide +kernel) ?_
    refine lv_iconst (v := nI 1) hx hb dM_clear_18 (by decide +kernel) ?_
    have hPc := hP.sub (ws' := [(hm, .inr (2, [.int (nI 0), .ref ml, .ref mw, .ref mb, .ref ms, .ref mn])), (ml, .inl (cI, 8, .inl ln)), (mw, .inl (cI, 512, .inl wh)), (mb, .inl (cI, 48, .inl bi)), (ms, .inl (cZ, 48, .inl si)), (mn, .inl (cJ, 6, .inr (.inl nu)))]) [0, 1, 2, 3, 4, 5] rfl
    have hDc := hD.sub (ws' := [(hm, .inr (2, [.int (nI 0), .ref ml, .ref mw, .ref mb, .ref ms, .ref mn])), (ml, .inl (cI, 8, .inl ln)), (mw, .inl (cI, 512, .inl wh)), (mb, .inl (cI, 48, .inl bi)), (ms, .inl (cZ, 48, .inl si)), (mn, .inl (cJ, 6, .inr (.inl nu)))]) [0, 1, 2, 3, 4, 5] (by decide) rfl
    have hKc := hK.sub (tys' := [(cI, .int), (cZ, .boolean), (cJ, .long)]) [0, 1, 2] rfl
    have hFc := va_free (wc := [(hm, .inr (2, [.int (nI 0), .ref ml, .ref mw, .ref mb, .ref ms, .ref mn])), (ml, .inl (cI, 8, .inl ln)), (mw, .inl (cI, 512, .inl wh)), (mb, .inl (cI, 48, .inl bi)), (ms, .inl (cZ, 48, .inl si)), (mn, .inl (cJ, 6, .inr (.inl nu)))]) hD hS hA [0, 1, 2, 3, 4, 5] rfl
    refine va_calli (va_runV (As := [.int (nI 0), .int (nI 1)]) (rest := []) ⟨hx, hb, hml, hown, hw⟩ (c_M_fails0 l dC dI _ cI cZ cJ hm ml mw mb ms mn ln wh bi si nu 1 (by decide)) (cwV 2 hw (gV kw_420 kw_422 kw_5 kw_16 kw_423) rfl rfl rfl (by decide +kernel) ⟨Nat.le_of_ble_eq_true rfl, Nat.le_of_ble_eq_true rfl⟩) (rw_preV (q0 := 0) hKc hPc hDc rfl rfl) rfl rfl hl.1 rfl (lv_room (Nat.le_of_ble_eq_true rfl)) dM_clear_19 ⟨Nat.zero_le _, Nat.zero_le _⟩) hS (fun q _ h => hFc q h) hFc (fun v19 u t H1 locs ht hvm e19 hB hz1 hk1 hS => ?_)
    obtain ⟨hP1, hK1, hD1⟩ := hB
    rw [ht] at hP1
    obtain ⟨hP, hD⟩ := va_join (wr := []) (w1 := [(hm, .inr (2, [.int (nI 0), .ref ml, .ref mw, .ref mb, .ref ms, .ref mn])), (ml, .inl (cI, 8, .inl ln)), (mw, .inl (cI, 512, .inl wh)), (mb, .inl (cI, 48, .inl bi)), (ms, .inl (cZ, 48, .inl si)), (mn, .inl (cJ, 6, .inr (.inl nu)))]) hP hD [0, 1, 2, 3, 4, 5] [] rfl rfl (by decide) (by decide) hk1 hFc hP1 hD1
    generalize H1 = H at hP hS ⊢
    have hP : va_P (dC, dI) cls3 [(hm, .inr (2, [.int (nI 0), .ref ml, .ref mw, .ref mb, .ref ms, .ref mn])), (ml, .inl (cI, 8, .inl ln)), (mw, .inl (cI, 512, .inl wh)), (mb, .inl (cI, 48, .inl bi)), (ms, .inl (cZ, 48, .inl si)), (mn, .inl (cJ, 6, .inr (.inl nu)))] H := hP
    have hD : va_D A [(hm, .inr (2, [.int (nI 0), .ref ml, .ref mw, .ref mb, .ref ms, .ref mn])), (ml, .inl (cI, 8, .inl ln)), (mw, .inl (cI, 512, .inl wh)), (mb, .inl (cI, 48, .inl bi)), (ms, .inl (cZ, 48, .inl si)), (mn, .inl (cJ, 6, .inr (.inl nu)))] := hD
    obtain rfl : v19 = nI 0 := e19
    refine lv_if_eq (tgt := 26) hx hb dM_clear_22 (by decide) (fun h22 => ?_) (fun h22 => ?_)
    · refine lv_aload_n hx hb dM_clear_26 rfl (lv_at hl 0 rfl) ?_
      refine va_get (D := (dC, dI)) (ci := 2) (v := .ref ml) (C := RM) (T := TM) (N := 6) hx hb hw inM hown hK hP 0 rfl rfl 1 (by decide) (hw _ kw_387) (fun _ h9 => h9) rfl dM_clear_27 ?_
      refine lv_iload_n hx hb dM_clear_30 rfl (lv_at hl 1 rfl) ?_
      refine lv_iconst (v := nI 0) hx hb dM_clear_31 (by decide +kernel) ?_
      refine va_iast hx hb hK hP hD hS 1 0 rfl rfl (vp_in_nI (by omega) (by decide)) dM_clear_32 (fun H locs hP hD hS => ?_)
      rw [show (nI f).toNatClampNeg = f from nI_clamp (by omega)] at hP hD
      have hP : va_P (dC, dI) cls3 [(hm, .inr (2, [.int (nI 0), .ref ml, .ref mw, .ref mb, .ref ms, .ref mn])), (ml, .inl (cI, 8, .inl (upd ln f (nI 0)))), (mw, .inl (cI, 512, .inl wh)), (mb, .inl (cI, 48, .inl bi)), (ms, .inl (cZ, 48, .inl si)), (mn, .inl (cJ, 6, .inr (.inl nu)))] H := hP
      have hD : va_D A [(hm, .inr (2, [.int (nI 0), .ref ml, .ref mw, .ref mb, .ref ms, .ref mn])), (ml, .inl (cI, 8, .inl (upd ln f (nI 0)))), (mw, .inl (cI, 512, .inl wh)), (mb, .inl (cI, 48, .inl bi)), (ms, .inl (cZ, 48, .inl si)), (mn, .inl (cJ, 6, .inr (.inl nu)))] := hD
      refine lv_iconst (v := nI 0) hx hb dM_clear_33 (by decide +kernel) ?_
      refine lv_istore_n hx hb dM_clear_34 rfl hl (by decide) rfl (fun ls hl => ?_)
      have hl : lv_has ls 3 [(2, .int (nI 0)), (0, .ref hm), (1, .int (nI f))] := hl
      refine (?_ : ∀ (kk : Nat) (i : Nat) (g : Nat → Int32) (H : Heap) (locs : List Loc) (ls : Array Slot), kk = 6 - i → lv_has ls 3 [(2, .int (nI i)), (0, .ref hm), (1, .int (nI f))] → (i ≤ 6) → (∀ q, q < i → g (6 * f + q) = nI 0) → (∀ e1 q, e1 < 8 → e1 ≠ f → q < 6 → g (6 * e1 + q) = bi (6 * e1 + q)) → va_P (dC, dI) cls3 [(hm, .inr (2, [.int (nI 0), .ref ml, .ref mw, .ref mb, .ref ms, .ref mn])), (ml, .inl (cI, 8, .inl (upd ln f (nI 0)))), (mw, .inl (cI, 512, .inl wh)), (mb, .inl (cI, 48, .inl g)), (ms, .inl (cZ, 48, .inl si)), (mn, .inl (cJ, 6, .inr (.inl nu)))] H → va_D A [(hm, .inr (2, [.int (nI 0), .ref ml, .ref mw, .ref mb, .ref ms, .ref mn])), (ml, .inl (cI, 8, .inl (upd ln f (nI 0)))), (mw, .inl (cI, 512, .inl wh)), (mb, .inl (cI, 48, .inl g)), (ms, .inl (cZ, 48, .inl si)), (mn, .inl (cJ, 6, .inr (.inl nu)))] → va_S A s.heap H locs → W p l e _ s m _ below meth c H locs _ _ _ (F0 m 35 ls [])) _ 0 bi _ _ ls rfl (lv_sub hl [0, 1, 2] rfl) (by omega) (fun q hq => by omega) (fun _ _ _ _ _ => rfl) hP hD hS
      intro kk
      induction kk using Nat.strongRecOn with
      | ind kk35 ih35 =>
        intro i g H locs ls hkk35 hl hi hz hy hP hD hS
        refine lv_iload_n hx hb dM_clear_35 rfl (lv_at hl 0 rfl) ?_
        refine lv_bipush (v := nI 6) hx hb dM_clear_36 (by decide +kernel) ?_
        refine lv_icmp_ge (tgt := 59) hx hb dM_clear_38 (by decide) (fun h38 => ?_) (fun h38 => ?_)
        · rw [nI_leI (by omega) (by omega)] at h38
          have hcd : cdClear (nI f) = 0 := by unfold cdClear; first | (rw [h10]; rfl) | (rw [isF_nI hf]; rfl)
          exact W.vret hx hb hr (fun t ht hW => ⟨⟨(), rfl, trivial, _, g, by rw [hcd, hfi]; exact mR_clear hM hf (fun q hq => hz q (by omega)) hy, by rw [ht, hcd]; exact hP, va_K.moved hW.alike hK, by rw [hcd]; exact hD⟩, hS.F ht⟩) hS.2.2 dM_clear_59
        · rw [nI_leI (by omega) (by omega)] at h38
          refine lv_aload_n hx hb dM_clear_41 rfl (lv_at hl 1 rfl) ?_
          refine va_get (D := (dC, dI)) (ci := 2) (v := .ref mb) (C := RM) (T := TM) (N := 6) hx hb hw inM hown hK hP 0 rfl rfl 3 (by decide) (hw _ kw_389) (fun _ h9 => h9) rfl dM_clear_42 ?_
          refine lv_bipush (v := nI 6) hx hb dM_clear_45 (by decide +kernel) ?_
          refine lv_iload_n hx hb dM_clear_47 rfl (lv_at hl 2 rfl) ?_
          refine lv_imul hx hb dM_clear_48 ?_
          refine lv_topi (fun v48 e48 => ?_)
          obtain rfl : v48 = nI (6 * f) := e48.trans (pk_mul _ _)
          refine lv_iload_n hx hb dM_clear_49 rfl (lv_at hl 0 rfl) ?_
          refine lv_iadd hx hb dM_clear_50 ?_
          refine lv_topi (fun v50 e50 => ?_)
          obtain rfl : v50 = nI (6 * f + i) := e50.trans (nI_add _ _)
          refine lv_iconst (v := nI 0) hx hb dM_clear_51 (by decide +kernel) ?_
          refine va_iast hx hb hK hP hD hS 3 0 rfl rfl (vp_in_nI (by omega) (by decide)) dM_clear_52 (fun H locs hP hD hS => ?_)
          rw [show (nI (6 * f + i)).toNatClampNeg = (6 * f + i) from nI_clamp (by omega)] at hP hD
          have hP : va_P (dC, dI) cls3 [(hm, .inr (2, [.int (nI 0), .ref ml, .ref mw, .ref mb, .ref ms, .ref mn])), (ml, .inl (cI, 8, .inl (upd ln f (nI 0)))), (mw, .inl (cI, 512, .inl wh)), (mb, .inl (cI, 48, .inl (upd g (6 * f + i) (nI 0)))), (ms, .inl (cZ, 48, .inl si)), (mn, .inl (cJ, 6, .inr (.inl nu)))] H := hP
          have hD : va_D A [(hm, .inr (2, [.int (nI 0), .ref ml, .ref mw, .ref mb, .ref ms, .ref mn])), (ml, .inl (cI, 8, .inl (upd ln f (nI 0)))), (mw, .inl (cI, 512, .inl wh)), (mb, .inl (cI, 48, .inl (upd g (6 * f + i) (nI 0)))), (ms, .inl (cZ, 48, .inl si)), (mn, .inl (cJ, 6, .inr (.inl nu)))] := hD
          refine lv_iinc (k := 0) (v := nI (i + 1)) hx hb dM_clear_53 hl rfl (cw_inc _) (by decide) rfl (fun ls hl => ?_)
          have hl : lv_has ls 3 [(2, .int (nI (i + 1))), (0, .ref hm), (1, .int (nI f))] := hl
          refine lv_goto (tgt := 35) hx hb dM_clear_56 (by decide) ?_
          exact ih35 _ (by omega) (i + 1) (upd g (6 * f + i) (nI 0)) _ _ ls rfl (lv_sub (l' := [(2, .int (nI (i + 1))), (0, .ref hm), (1, .int (nI f))]) hl [0, 1, 2] rfl) (by omega) (fun q hq => by (by_cases e9 : q = i); (· subst e9; exact pk_us); (· rw [pk_un (by omega)]; exact hz q (by omega))) (fun e1 q h1 h2 h3 => by rw [pk_un (by omega)]; exact hy e1 q h1 h2 h3) hP hD hS
    · exfalso
      first | exact h22 (by decide +kernel) | exact absurd h22 (by decide +kernel)
  · rw [b_nat0] at h10
    refine lv_iconst (v := nI 1) hx hb dM_clear_13 (by decide +kernel) ?_
    refine lv_goto (tgt := 18) hx hb dM_clear_14 (by decide) ?_
    refine lv_iconst (v := nI 1) hx hb dM_clear_18 (by decide +kernel) ?_
    have hPc := hP.sub (ws' := [(hm, .inr (2, [.int (nI 0), .ref ml, .ref mw, .ref mb, .ref ms, .ref mn])), (ml, .inl (cI, 8, .inl ln)), (mw, .inl (cI, 512, .inl wh)), (mb, .inl (cI, 48, .inl bi)), (ms, .inl (cZ, 48, .inl si)), (mn, .inl (cJ, 6, .inr (.inl nu)))]) [0, 1, 2, 3, 4, 5] rfl
    have hDc := hD.sub (ws' := [(hm, .inr (2, [.int (nI 0), .ref ml, .ref mw, .ref mb, .ref ms, .ref mn])), (ml, .inl (cI, 8, .inl ln)), (mw, .inl (cI, 512, .inl wh)), (mb, .inl (cI, 48, .inl bi)), (ms, .inl (cZ, 48, .inl si)), (mn, .inl (cJ, 6, .inr (.inl nu)))]) [0, 1, 2, 3, 4, 5] (by decide) rfl
    have hKc := hK.sub (tys' := [(cI, .int), (cZ, .boolean), (cJ, .long)]) [0, 1, 2] rfl
    have hFc := va_free (wc := [(hm, .inr (2, [.int (nI 0), .ref ml, .ref mw, .ref mb, .ref ms, .ref mn])), (ml, .inl (cI, 8, .inl ln)), (mw, .inl (cI, 512, .inl wh)), (mb, .inl (cI, 48, .inl bi)), (ms, .inl (cZ, 48, .inl si)), (mn, .inl (cJ, 6, .inr (.inl nu)))]) hD hS hA [0, 1, 2, 3, 4, 5] rfl
    refine va_calli (va_runV (As := [.int (nI 1), .int (nI 1)]) (rest := []) ⟨hx, hb, hml, hown, hw⟩ (c_M_fails1 l dC dI _ cI cZ cJ hm ml mw mb ms mn ln wh bi si nu 1 (by decide)) (cwV 2 hw (gV kw_420 kw_422 kw_5 kw_16 kw_423) rfl rfl rfl (by decide +kernel) ⟨Nat.le_of_ble_eq_true rfl, Nat.le_of_ble_eq_true rfl⟩) (rw_preV (q0 := 0) hKc hPc hDc rfl rfl) rfl rfl hl.1 rfl (lv_room (Nat.le_of_ble_eq_true rfl)) dM_clear_19 ⟨Nat.zero_le _, Nat.zero_le _⟩) hS (fun q _ h => hFc q h) hFc (fun v19 u t H1 locs ht hvm e19 hB hz1 hk1 hS => ?_)
    obtain ⟨hP1, hK1, hD1⟩ := hB
    rw [ht] at hP1
    obtain ⟨hP, hD⟩ := va_join (wr := []) (w1 := [(hm, .inr (2, [.int (nI 1), .ref ml, .ref mw, .ref mb, .ref ms, .ref mn])), (ml, .inl (cI, 8, .inl ln)), (mw, .inl (cI, 512, .inl wh)), (mb, .inl (cI, 48, .inl bi)), (ms, .inl (cZ, 48, .inl si)), (mn, .inl (cJ, 6, .inr (.inl nu)))]) hP hD [0, 1, 2, 3, 4, 5] [] rfl rfl (by decide) (by decide) hk1 hFc hP1 hD1
    generalize H1 = H at hP hS ⊢
    have hP : va_P (dC, dI) cls3 [(hm, .inr (2, [.int (nI 1), .ref ml, .ref mw, .ref mb, .ref ms, .ref mn])), (ml, .inl (cI, 8, .inl ln)), (mw, .inl (cI, 512, .inl wh)), (mb, .inl (cI, 48, .inl bi)), (ms, .inl (cZ, 48, .inl si)), (mn, .inl (cJ, 6, .inr (.inl nu)))] H := hP
    have hD : va_D A [(hm, .inr (2, [.int (nI 1), .ref ml, .ref mw, .ref mb, .ref ms, .ref mn])), (ml, .inl (cI, 8, .inl ln)), (mw, .inl (cI, 512, .inl wh)), (mb, .inl (cI, 48, .inl bi)), (ms, .inl (cZ, 48, .inl si)), (mn, .inl (cJ, 6, .inr (.inl nu)))] := hD
    obtain rfl : v19 = nI 1 := e19
    refine lv_if_eq (tgt := 26) hx hb dM_clear_22 (by decide) (fun h22 => ?_) (fun h22 => ?_)
    · exfalso
      first | exact h22 (by decide +kernel) | exact absurd h22 (by decide +kernel)
    · have hcd : cdClear x = 1 := by unfold cdClear; first | (rw [h10]; rfl) | (rw [isF_nI hf]; rfl)
      exact W.vret hx hb hr (fun t ht hW => ⟨⟨(), rfl, trivial, ln, bi, by rw [hcd]; exact hM, by rw [ht, hcd]; exact hP, va_K.moved hW.alike hK, by rw [hcd]; exact hD⟩, hS.F ht⟩) hS.2.2 dM_clear_25

set_option maxHeartbeats 4000000 in
set_option maxRecDepth 100000 in
theorem c_M_operand (l : Launch) (dC : Nat → ClassId) (dI : Nat → Nat → Nat) (sz : Nat) (cI cZ cJ : ClassId) (hm ml mw mb ms mn : Nat) (er : Int32) (ln wh bi si : Nat → Int32) (nu : Nat → Int64) (ns : Nat → Nat) (its wss : Nat → Nat → Nat) (sbs : Nat → Nat → Bool) (hM : mR ns its wss sbs ln wh bi si) (x y z : Int32) (b : Bool) : Met l yM_operand wM_operand { frames := 2, cells := 0, slots := 0, locals := 45 } (rw_Pc (dC, dI) cls3 [(hm, .inr (2, [.int er, .ref ml, .ref mw, .ref mb, .ref ms, .ref mn])), (ml, .inl (cI, 8, .inl ln)), (mw, .inl (cI, 512, .inl wh)), (mb, .inl (cI, 48, .inl bi)), (ms, .inl (cZ, 48, .inl si)), (mn, .inl (cJ, 6, .inr (.inl nu)))] [(cI, .int), (cZ, .boolean), (cJ, .long)] sz [.ref hm, .int x, .int y, .int z, .int (nI b.toNat)]) (va_Qv (fun _ : Unit => True) (fun _ t => ∃ bi' si' : Nat → Int32, mR ns its (stp (cdOper wss x y z) (va_up wss (fi x) (va_up (wss (fi x)) (fi y) (fi z))) wss) (stp (cdOper wss x y z) (va_up sbs (fi x) (va_up (sbs (fi x)) (fi y) b)) sbs) ln wh bi' si' ∧ va_P (dC, dI) cls3 [(hm, .inr (2, [.int (nI (cdOper wss x y z)), .ref ml, .ref mw, .ref mb, .ref ms, .ref mn])), (ml, .inl (cI, 8, .inl ln)), (mw, .inl (cI, 512, .inl wh)), (mb, .inl (cI, 48, .inl bi')), (ms, .inl (cZ, 48, .inl si')), (mn, .inl (cJ, 6, .inr (.inl nu)))] t.heap ∧ va_K (dC, dI) cls3 [(cI, .int), (cZ, .boolean), (cJ, .long)] t ∧ va_D (va_A [(hm, .inr (2, [.int er, .ref ml, .ref mw, .ref mb, .ref ms, .ref mn])), (ml, .inl (cI, 8, .inl ln)), (mw, .inl (cI, 512, .inl wh)), (mb, .inl (cI, 48, .inl bi)), (ms, .inl (cZ, 48, .inl si)), (mn, .inl (cJ, 6, .inr (.inl nu)))] sz) [(hm, .inr (2, [.int (nI (cdOper wss x y z)), .ref ml, .ref mw, .ref mb, .ref ms, .ref mn])), (ml, .inl (cI, 8, .inl ln)), (mw, .inl (cI, 512, .inl wh)), (mb, .inl (cI, 48, .inl bi')), (ms, .inl (cZ, 48, .inl si')), (mn, .inl (cJ, 6, .inr (.inl nu)))]) (va_A [(hm, .inr (2, [.int er, .ref ml, .ref mw, .ref mb, .ref ms, .ref mn])), (ml, .inl (cI, 8, .inl ln)), (mw, .inl (cI, 512, .inl wh)), (mb, .inl (cI, 48, .inl bi)), (ms, .inl (cZ, 48, .inl si)), (mn, .inl (cJ, 6, .inr (.inl nu)))] sz)) 0 0 (va_A [(hm, .inr (2, [.int er, .ref ml, .ref mw, .ref mb, .ref ms, .ref mn])), (ml, .inl (cI, 8, .inl ln)), (mw, .inl (cI, 512, .inl wh)), (mb, .inl (cI, 48, .inl bi)), (ms, .inl (cZ, 48, .inl si)), (mn, .inl (cJ, 6, .inr (.inl nu)))] sz) := by
  refine Met.ofW (cc := cM_operand) (maxL := 5) (ret := none) (by decide) rfl ?_
  intro p e s m args below meth c s₁ B hml hv
  obtain ⟨rfl, hsz, hP, hK, hD0⟩ := hv
  have hx := B.exec
  have hb := B.bytes
  have hr := B.returns
  have hts := atoms_spec (ws := wM_operand) B.pre
  have hw : ∀ w ∈ wA, w.before _ s = true := fun w h => hts w (List.mem_cons_of_mem _ h)
  have hown : s.vm.findClass RM = some m.cls := findClass_of_methodNamed B.named
  have hlocks := B.notSynchronized
  subst hsz
  have hD := hD0.self (sz := s.heap.size)
  generalize hAe : va_A [(hm, .inr (2, [.int er, .ref ml, .ref mw, .ref mb, .ref ms, .ref mn])), (ml, .inl (cI, 8, .inl ln)), (mw, .inl (cI, 512, .inl wh)), (mb, .inl (cI, 48, .inl bi)), (ms, .inl (cZ, 48, .inl si)), (mn, .inl (cJ, 6, .inr (.inl nu)))] s.heap.size = A at hD ⊢
  have hA : ∀ q : Nat, s.heap.size ≤ q → A q := fun q h => by rw [← hAe]; exact Or.inr h
  have hS : va_S A s.heap s.heap [] := va_S.rf
  have hl := lv_entry ([.ref hm, .int x, .int y, .int z, .int (nI b.toNat)]) (n := 5) (Nat.le_of_ble_eq_true rfl)
  rw [lg_entry_eq]
  generalize (lg_sl ([.ref hm, .int x, .int y, .int z, .int (nI b.toNat)]) ++ List.replicate (5 - (lg_sl ([.ref hm, .int x, .int y, .int z, .int (nI b.toNat)])).length) Slot.unset).toArray = ls at hl ⊢
  have hl : lv_has ls 5 [(0, .ref hm), (1, .int x), (2, .int y), (3, .int z), (4, .int (nI b.toNat))] := hl
  refine lv_aload_n hx hb dM_operand_0 rfl (lv_at hl 0 rfl) ?_
  refine lv_iconst (v := nI 0) hx hb dM_operand_1 (by decide +kernel) ?_
  refine va_put (D := (dC, dI)) (ci := 2) (v := .int (nI 0)) (ty := .int) (C := RM) (T := TM) (N := 6) hx hb hw inM tM tM_ok nM hown hK hP hD hS 0 rfl rfl 0 (by decide) (hw _ kw_386) (fun _ h9 => h9) rfl (by decide +kernel) rfl rfl (Nat.le_of_ble_eq_true rfl) dM_operand_2 (fun H locs hP hD hS => ?_)
  have hP : va_P (dC, dI) cls3 [(hm, .inr (2, [.int (nI 0), .ref ml, .ref mw, .ref mb, .ref ms, .ref mn])), (ml, .inl (cI, 8, .inl ln)), (mw, .inl (cI, 512, .inl wh)), (mb, .inl (cI, 48, .inl bi)), (ms, .inl (cZ, 48, .inl si)), (mn, .inl (cJ, 6, .inr (.inl nu)))] H := hP
  have hD : va_D A [(hm, .inr (2, [.int (nI 0), .ref ml, .ref mw, .ref mb, .ref ms, .ref mn])), (ml, .inl (cI, 8, .inl ln)), (mw, .inl (cI, 512, .inl wh)), (mb, .inl (cI, 48, .inl bi)), (ms, .inl (cZ, 48, .inl si)), (mn, .inl (cJ, 6, .inr (.inl nu)))] := hD
  refine lv_aload_n hx hb dM_operand_5 rfl (lv_at hl 0 rfl) ?_
  refine lv_iload_n hx hb dM_operand_6 rfl (lv_at hl 1 rfl) ?_
  refine vp_callSi (W.runS (As := [.int x]) (rest := [.ref hm]) ⟨hx, hb, hml, hown, hw⟩ (c_M_isForm l x) (cwS 1 hw (gS kw_413 kw_414 kw_16 kw_415) rfl rfl rfl (by decide +kernel) ⟨Nat.le_of_ble_eq_true rfl, Nat.le_of_ble_eq_true rfl⟩) preEq rfl rfl hl.1 rfl (lv_room (Nat.le_of_ble_eq_true rfl)) dM_operand_7 ⟨Nat.zero_le _, Nat.zero_le _⟩) (fun v7 e7 => ?_)
  obtain rfl : v7 = nI (isF x).toNat := e7
  refine lv_if_eq (tgt := 32) hx hb dM_operand_10 (by decide) (fun h10 => ?_) (fun h10 => ?_)
  · rw [b_nat0] at h10
    refine lv_iconst (v := nI 1) hx hb dM_operand_32 (by decide +kernel) ?_
    refine lv_goto (tgt := 37) hx hb dM_operand_33 (by decide) ?_
    refine lv_iconst (v := nI 1) hx hb dM_operand_37 (by decide +kernel) ?_
    have hPc := hP.sub (ws' := [(hm, .inr (2, [.int (nI 0), .ref ml, .ref mw, .ref mb, .ref ms, .ref mn])), (ml, .inl (cI, 8, .inl ln)), (mw, .inl (cI, 512, .inl wh)), (mb, .inl (cI, 48, .inl bi)), (ms, .inl (cZ, 48, .inl si)), (mn, .inl (cJ, 6, .inr (.inl nu)))]) [0, 1, 2, 3, 4, 5] rfl
    have hDc := hD.sub (ws' := [(hm, .inr (2, [.int (nI 0), .ref ml, .ref mw, .ref mb, .ref ms, .ref mn])), (ml, .inl (cI, 8, .inl ln)), (mw, .inl (cI, 512, .inl wh)), (mb, .inl (cI, 48, .inl bi)), (ms, .inl (cZ, 48, .inl si)), (mn, .inl (cJ, 6, .inr (.inl nu)))]) [0, 1, 2, 3, 4, 5] (by decide) rfl
    have hKc := hK.sub (tys' := [(cI, .int), (cZ, .boolean), (cJ, .long)]) [0, 1, 2] rfl
    have hFc := va_free (wc := [(hm, .inr (2, [.int (nI 0), .ref ml, .ref mw, .ref mb, .ref ms, .ref mn])), (ml, .inl (cI, 8, .inl ln)), (mw, .inl (cI, 512, .inl wh)), (mb, .inl (cI, 48, .inl bi)), (ms, .inl (cZ, 48, .inl si)), (mn, .inl (cJ, 6, .inr (.inl nu)))]) hD hS hA [0, 1, 2, 3, 4, 5] rfl
    refine va_calli (va_runV (As := [.int (nI 1), .int (nI 1)]) (rest := []) ⟨hx, hb, hml, hown, hw⟩ (c_M_fails1 l dC dI _ cI cZ cJ hm ml mw mb ms mn ln wh bi si nu 1 (by decide)) (cwV 2 hw (gV kw_420 kw_422 kw_5 kw_16 kw_423) rfl rfl rfl (by decide +kernel) ⟨Nat.le_of_ble_eq_true rfl, Nat.le_of_ble_eq_true rfl⟩) (rw_preV (q0 := 0) hKc hPc hDc rfl rfl) rfl rfl hl.1 rfl (lv_room (Nat.le_of_ble_eq_true rfl)) dM_operand_38 ⟨Nat.zero_le _, Nat.zero_le _⟩) hS (fun q _ h => hFc q h) hFc (fun v38 u t H1 locs ht hvm e38 hB hz1 hk1 hS => ?_)
    obtain ⟨hP1, hK1, hD1⟩ := hB
    rw [ht] at hP1
    obtain ⟨hP, hD⟩ := va_join (wr := []) (w1 := [(hm, .inr (2, [.int (nI 1), .ref ml, .ref mw, .ref mb, .ref ms, .ref mn])), (ml, .inl (cI, 8, .inl ln)), (mw, .inl (cI, 512, .inl wh)), (mb, .inl (cI, 48, .inl bi)), (ms, .inl (cZ, 48, .inl si)), (mn, .inl (cJ, 6, .inr (.inl nu)))]) hP hD [0, 1, 2, 3, 4, 5] [] rfl rfl (by decide) (by decide) hk1 hFc hP1 hD1
    generalize H1 = H at hP hS ⊢
    have hP : va_P (dC, dI) cls3 [(hm, .inr (2, [.int (nI 1), .ref ml, .ref mw, .ref mb, .ref ms, .ref mn])), (ml, .inl (cI, 8, .inl ln)), (mw, .inl (cI, 512, .inl wh)), (mb, .inl (cI, 48, .inl bi)), (ms, .inl (cZ, 48, .inl si)), (mn, .inl (cJ, 6, .inr (.inl nu)))] H := hP
    have hD : va_D A [(hm, .inr (2, [.int (nI 1), .ref ml, .ref mw, .ref mb, .ref ms, .ref mn])), (ml, .inl (cI, 8, .inl ln)), (mw, .inl (cI, 512, .inl wh)), (mb, .inl (cI, 48, .inl bi)), (ms, .inl (cZ, 48, .inl si)), (mn, .inl (cJ, 6, .inr (.inl nu)))] := hD
    obtain rfl : v38 = nI 1 := e38
    refine lv_if_ne (tgt := 66) hx hb dM_operand_41 (by decide) (fun h41 => ?_) (fun h41 => ?_)
    · have hcd : cdOper wss x y z = 1 := by unfold cdOper; first | (rw [h10]; rfl) | (rw [isF_nI hf, h17]; rfl) | (rw [isF_nI hf, isO_nI ho, h29]; rfl) | (rw [isF_nI hf, isO_nI ho, isB_nI hk, hfi, hfo, Bool.true_and, Bool.true_and, if_pos rfl, if_pos (by omega)]) | (rw [isF_nI hf, isO_nI ho, isB_nI hk, hfi, hfo, Bool.true_and, Bool.true_and, if_pos rfl, if_neg (by omega)])
      exact W.vret hx hb hr (fun t ht hW => ⟨⟨(), rfl, trivial, bi, si, by rw [hcd]; exact hM, by rw [ht, hcd]; exact hP, va_K.moved hW.alike hK, by rw [hcd]; exact hD⟩, hS.F ht⟩) hS.2.2 dM_operand_66
    · exfalso
      first | exact h41 (by decide +kernel) | exact absurd h41 (by decide +kernel)
  · obtain ⟨f, hf, rfl⟩ := isF_of (b_nf h10)
    have hfi : fi (nI f) = f := fi_nI (by omega)
    have hok := (hM f hf).1
    have hn := hok.1
    have hw64 := hok.2.1
    have hit := cw_it hok
    refine lv_iload_n hx hb dM_operand_13 rfl (lv_at hl 2 rfl) ?_
    refine vp_callSi (W.runS (As := [.int y]) (rest := [.ref hm]) ⟨hx, hb, hml, hown, hw⟩ (c_M_isOperand l y) (cwS 1 hw (gS kw_428 kw_429 kw_16 kw_430) rfl rfl rfl (by decide +kernel) ⟨Nat.le_of_ble_eq_true rfl, Nat.le_of_ble_eq_true rfl⟩) preEq rfl rfl hl.1 rfl (lv_room (Nat.le_of_ble_eq_true rfl)) dM_operand_14 ⟨Nat.zero_le _, Nat.zero_le _⟩) (fun v14 e14 => ?_)
    obtain rfl : v14 = nI (isO y).toNat := e14
    refine lv_if_eq (tgt := 32) hx hb dM_operand_17 (by decide) (fun h17 => ?_) (fun h17 => ?_)
    · rw [b_nat0] at h17
      refine lv_iconst (v := nI 1) hx hb dM_operand_32 (by decide +kernel) ?_
      refine lv_goto (tgt := 37) hx hb dM_operand_33 (by decide) ?_
      refine lv_iconst (v := nI 1) hx hb dM_operand_37 (by decide +kernel) ?_
      have hPc := hP.sub (ws' := [(hm, .inr (2, [.int (nI 0), .ref ml, .ref mw, .ref mb, .ref ms, .ref mn])), (ml, .inl (cI, 8, .inl ln)), (mw, .inl (cI, 512, .inl wh)), (mb, .inl (cI, 48, .inl bi)), (ms, .inl (cZ, 48, .inl si)), (mn, .inl (cJ, 6, .inr (.inl nu)))]) [0, 1, 2, 3, 4, 5] rfl
      have hDc := hD.sub (ws' := [(hm, .inr (2, [.int (nI 0), .ref ml, .ref mw, .ref mb, .ref ms, .ref mn])), (ml, .inl (cI, 8, .inl ln)), (mw, .inl (cI, 512, .inl wh)), (mb, .inl (cI, 48, .inl bi)), (ms, .inl (cZ, 48, .inl si)), (mn, .inl (cJ, 6, .inr (.inl nu)))]) [0, 1, 2, 3, 4, 5] (by decide) rfl
      have hKc := hK.sub (tys' := [(cI, .int), (cZ, .boolean), (cJ, .long)]) [0, 1, 2] rfl
      have hFc := va_free (wc := [(hm, .inr (2, [.int (nI 0), .ref ml, .ref mw, .ref mb, .ref ms, .ref mn])), (ml, .inl (cI, 8, .inl ln)), (mw, .inl (cI, 512, .inl wh)), (mb, .inl (cI, 48, .inl bi)), (ms, .inl (cZ, 48, .inl si)), (mn, .inl (cJ, 6, .inr (.inl nu)))]) hD hS hA [0, 1, 2, 3, 4, 5] rfl
      refine va_calli (va_runV (As := [.int (nI 1), .int (nI 1)]) (rest := []) ⟨hx, hb, hml, hown, hw⟩ (c_M_fails1 l dC dI _ cI cZ cJ hm ml mw mb ms mn ln wh bi si nu 1 (by decide)) (cwV 2 hw (gV kw_420 kw_422 kw_5 kw_16 kw_423) rfl rfl rfl (by decide +kernel) ⟨Nat.le_of_ble_eq_true rfl, Nat.le_of_ble_eq_true rfl⟩) (rw_preV (q0 := 0) hKc hPc hDc rfl rfl) rfl rfl hl.1 rfl (lv_room (Nat.le_of_ble_eq_true rfl)) dM_operand_38 ⟨Nat.zero_le _, Nat.zero_le _⟩) hS (fun q _ h => hFc q h) hFc (fun v38 u t H1 locs ht hvm e38 hB hz1 hk1 hS => ?_)
      obtain ⟨hP1, hK1, hD1⟩ := hB
      rw [ht] at hP1
      obtain ⟨hP, hD⟩ := va_join (wr := []) (w1 := [(hm, .inr (2, [.int (nI 1), .ref ml, .ref mw, .ref mb, .ref ms, .ref mn])), (ml, .inl (cI, 8, .inl ln)), (mw, .inl (cI, 512, .inl wh)), (mb, .inl (cI, 48, .inl bi)), (ms, .inl (cZ, 48, .inl si)), (mn, .inl (cJ, 6, .inr (.inl nu)))]) hP hD [0, 1, 2, 3, 4, 5] [] rfl rfl (by decide) (by decide) hk1 hFc hP1 hD1
      generalize H1 = H at hP hS ⊢
      have hP : va_P (dC, dI) cls3 [(hm, .inr (2, [.int (nI 1), .ref ml, .ref mw, .ref mb, .ref ms, .ref mn])), (ml, .inl (cI, 8, .inl ln)), (mw, .inl (cI, 512, .inl wh)), (mb, .inl (cI, 48, .inl bi)), (ms, .inl (cZ, 48, .inl si)), (mn, .inl (cJ, 6, .inr (.inl nu)))] H := hP
      have hD : va_D A [(hm, .inr (2, [.int (nI 1), .ref ml, .ref mw, .ref mb, .ref ms, .ref mn])), (ml, .inl (cI, 8, .inl ln)), (mw, .inl (cI, 512, .inl wh)), (mb, .inl (cI, 48, .inl bi)), (ms, .inl (cZ, 48, .inl si)), (mn, .inl (cJ, 6, .inr (.inl nu)))] := hD
      obtain rfl : v38 = nI 1 := e38
      refine lv_if_ne (tgt := 66) hx hb dM_operand_41 (by decide) (fun h41 => ?_) (fun h41 => ?_)
      · have hcd : cdOper wss (nI f) y z = 1 := by unfold cdOper; first | (rw [h10]; rfl) | (rw [isF_nI hf, h17]; rfl) | (rw [isF_nI hf, isO_nI ho, h29]; rfl) | (rw [isF_nI hf, isO_nI ho, isB_nI hk, hfi, hfo, Bool.true_and, Bool.true_and, if_pos rfl, if_pos (by omega)]) | (rw [isF_nI hf, isO_nI ho, isB_nI hk, hfi, hfo, Bool.true_and, Bool.true_and, if_pos rfl, if_neg (by omega)])
        exact W.vret hx hb hr (fun t ht hW => ⟨⟨(), rfl, trivial, bi, si, by rw [hcd]; exact hM, by rw [ht, hcd]; exact hP, va_K.moved hW.alike hK, by rw [hcd]; exact hD⟩, hS.F ht⟩) hS.2.2 dM_operand_66
      · exfalso
        first | exact h41 (by decide +kernel) | exact absurd h41 (by decide +kernel)
    · obtain ⟨o, ho, rfl⟩ := isO_of (b_nf h17)
      have hfo : fi (nI o) = o := fi_nI (by omega)
      have hwo := hw64 o ho
      refine lv_iload_n hx hb dM_operand_20 rfl (lv_at hl 3 rfl) ?_
      refine lv_i2l hx hb dM_operand_21 rfl ?_
      refine lv_topl (fun v21 e21 => ?_)
      refine lv_lconst (v := lN 1) hx hb dM_operand_22 (by decide +kernel) ?_
      refine lv_ldc2 (v := lN 64) hx hb hown (hw _ kw_432) dM_operand_23 ?_
      refine vp_callSi (W.runS (As := [.long v21, .long (lN 1), .long (lN 64)]) (rest := [.ref hm]) ⟨hx, hb, hml, hown, hw⟩ (c_M_in l v21 (lN 1) (lN 64)) (cwS 3 hw (gS kw_417 kw_418 kw_16 kw_419) rfl rfl rfl (by decide +kernel) ⟨Nat.le_of_ble_eq_true rfl, Nat.le_of_ble_eq_true rfl⟩) preEq rfl rfl hl.1 rfl (lv_room (Nat.le_of_ble_eq_true rfl)) dM_operand_26 ⟨Nat.zero_le _, Nat.zero_le _⟩) (fun v26 e26 => ?_)
      obtain rfl : v26 = nI (isB z).toNat := e26.trans (by rw [e21]; exact isB_in z)
      refine lv_if_ne (tgt := 36) hx hb dM_operand_29 (by decide) (fun h29 => ?_) (fun h29 => ?_)
      · obtain ⟨k, hk, rfl⟩ := isB_of (b_nf h29)
        have hfk : fi (nI k) = k := fi_nI (by omega)
        refine lv_iconst (v := nI 0) hx hb dM_operand_36 (by decide +kernel) ?_
        refine lv_iconst (v := nI 1) hx hb dM_operand_37 (by decide +kernel) ?_
        have hPc := hP.sub (ws' := [(hm, .inr (2, [.int (nI 0), .ref ml, .ref mw, .ref mb, .ref ms, .ref mn])), (ml, .inl (cI, 8, .inl ln)), (mw, .inl (cI, 512, .inl wh)), (mb, .inl (cI, 48, .inl bi)), (ms, .inl (cZ, 48, .inl si)), (mn, .inl (cJ, 6, .inr (.inl nu)))]) [0, 1, 2, 3, 4, 5] rfl
        have hDc := hD.sub (ws' := [(hm, .inr (2, [.int (nI 0), .ref ml, .ref mw, .ref mb, .ref ms, .ref mn])), (ml, .inl (cI, 8, .inl ln)), (mw, .inl (cI, 512, .inl wh)), (mb, .inl (cI, 48, .inl bi)), (ms, .inl (cZ, 48, .inl si)), (mn, .inl (cJ, 6, .inr (.inl nu)))]) [0, 1, 2, 3, 4, 5] (by decide) rfl
        have hKc := hK.sub (tys' := [(cI, .int), (cZ, .boolean), (cJ, .long)]) [0, 1, 2] rfl
        have hFc := va_free (wc := [(hm, .inr (2, [.int (nI 0), .ref ml, .ref mw, .ref mb, .ref ms, .ref mn])), (ml, .inl (cI, 8, .inl ln)), (mw, .inl (cI, 512, .inl wh)), (mb, .inl (cI, 48, .inl bi)), (ms, .inl (cZ, 48, .inl si)), (mn, .inl (cJ, 6, .inr (.inl nu)))]) hD hS hA [0, 1, 2, 3, 4, 5] rfl
        refine va_calli (va_runV (As := [.int (nI 0), .int (nI 1)]) (rest := []) ⟨hx, hb, hml, hown, hw⟩ (c_M_fails0 l dC dI _ cI cZ cJ hm ml mw mb ms mn ln wh bi si nu 1 (by decide)) (cwV 2 hw (gV kw_420 kw_422 kw_5 kw_16 kw_423) rfl rfl rfl (by decide +kernel) ⟨Nat.le_of_ble_eq_true rfl, Nat.le_of_ble_eq_true rfl⟩) (rw_preV (q0 := 0) hKc hPc hDc rfl rfl) rfl rfl hl.1 rfl (lv_room (Nat.le_of_ble_eq_true rfl)) dM_operand_38 ⟨Nat.zero_le _, Nat.zero_le _⟩) hS (fun q _ h => hFc q h) hFc (fun v38 u t H1 locs ht hvm e38 hB hz1 hk1 hS => ?_)
        obtain ⟨hP1, hK1, hD1⟩ := hB
        rw [ht] at hP1
        obtain ⟨hP, hD⟩ := va_join (wr := []) (w1 := [(hm, .inr (2, [.int (nI 0), .ref ml, .ref mw, .ref mb, .ref ms, .ref mn])), (ml, .inl (cI, 8, .inl ln)), (mw, .inl (cI, 512, .inl wh)), (mb, .inl (cI, 48, .inl bi)), (ms, .inl (cZ, 48, .inl si)), (mn, .inl (cJ, 6, .inr (.inl nu)))]) hP hD [0, 1, 2, 3, 4, 5] [] rfl rfl (by decide) (by decide) hk1 hFc hP1 hD1
        generalize H1 = H at hP hS ⊢
        have hP : va_P (dC, dI) cls3 [(hm, .inr (2, [.int (nI 0), .ref ml, .ref mw, .ref mb, .ref ms, .ref mn])), (ml, .inl (cI, 8, .inl ln)), (mw, .inl (cI, 512, .inl wh)), (mb, .inl (cI, 48, .inl bi)), (ms, .inl (cZ, 48, .inl si)), (mn, .inl (cJ, 6, .inr (.inl nu)))] H := hP
        have hD : va_D A [(hm, .inr (2, [.int (nI 0), .ref ml, .ref mw, .ref mb, .ref ms, .ref mn])), (ml, .inl (cI, 8, .inl ln)), (mw, .inl (cI, 512, .inl wh)), (mb, .inl (cI, 48, .inl bi)), (ms, .inl (cZ, 48, .inl si)), (mn, .inl (cJ, 6, .inr (.inl nu)))] := hD
        obtain rfl : v38 = nI 0 := e38
        refine lv_if_ne (tgt := 66) hx hb dM_operand_41 (by decide) (fun h41 => ?_) (fun h41 => ?_)
        · exfalso
          first | exact h41 (by decide +kernel) | exact absurd h41 (by decide +kernel)
        · refine lv_aload_n hx hb dM_operand_44 rfl (lv_at hl 0 rfl) ?_
          refine lv_aload_n hx hb dM_operand_45 rfl (lv_at hl 0 rfl) ?_
          refine lv_iload_n hx hb dM_operand_46 rfl (lv_at hl 1 rfl) ?_
          refine lv_iload_n hx hb dM_operand_47 rfl (lv_at hl 2 rfl) ?_
          refine vp_callSi (W.runV (As := [.int (nI f), .int (nI o)]) (rest := [.ref hm]) ⟨hx, hb, hml, hown, hw⟩ (c_M_many l dC dI cI cZ cJ hm ml mw mb ms mn (nI 0) ln wh bi si nu ns its wss sbs hM f o hf ho) (cwV 2 hw (gV kw_433 kw_435 kw_6 kw_16 kw_436) rfl rfl rfl (by decide +kernel) ⟨Nat.le_of_ble_eq_true rfl, Nat.le_of_ble_eq_true rfl⟩) (ro_preV (q0 := 0) hK hP rfl rfl) rfl rfl hl.1 rfl (lv_room (Nat.le_of_ble_eq_true rfl)) dM_operand_48 ⟨Nat.zero_le _, Nat.zero_le _⟩) (fun v48 e48 => ?_)
          obtain rfl : v48 = nI (wss f o) := e48
          refine lv_if_le (tgt := 58) hx hb dM_operand_51 (by decide) (fun h51 => ?_) (fun h51 => ?_)
          · rw [nI_le0 (by omega)] at h51
            refine lv_iconst (v := nI 0) hx hb dM_operand_58 (by decide +kernel) ?_
            refine lv_iconst (v := nI 2) hx hb dM_operand_59 (by decide +kernel) ?_
            have hPc := hP.sub (ws' := [(hm, .inr (2, [.int (nI 0), .ref ml, .ref mw, .ref mb, .ref ms, .ref mn])), (ml, .inl (cI, 8, .inl ln)), (mw, .inl (cI, 512, .inl wh)), (mb, .inl (cI, 48, .inl bi)), (ms, .inl (cZ, 48, .inl si)), (mn, .inl (cJ, 6, .inr (.inl nu)))]) [0, 1, 2, 3, 4, 5] rfl
            have hDc := hD.sub (ws' := [(hm, .inr (2, [.int (nI 0), .ref ml, .ref mw, .ref mb, .ref ms, .ref mn])), (ml, .inl (cI, 8, .inl ln)), (mw, .inl (cI, 512, .inl wh)), (mb, .inl (cI, 48, .inl bi)), (ms, .inl (cZ, 48, .inl si)), (mn, .inl (cJ, 6, .inr (.inl nu)))]) [0, 1, 2, 3, 4, 5] (by decide) rfl
            have hKc := hK.sub (tys' := [(cI, .int), (cZ, .boolean), (cJ, .long)]) [0, 1, 2] rfl
            have hFc := va_free (wc := [(hm, .inr (2, [.int (nI 0), .ref ml, .ref mw, .ref mb, .ref ms, .ref mn])), (ml, .inl (cI, 8, .inl ln)), (mw, .inl (cI, 512, .inl wh)), (mb, .inl (cI, 48, .inl bi)), (ms, .inl (cZ, 48, .inl si)), (mn, .inl (cJ, 6, .inr (.inl nu)))]) hD hS hA [0, 1, 2, 3, 4, 5] rfl
            refine va_calli (va_runV (As := [.int (nI 0), .int (nI 2)]) (rest := []) ⟨hx, hb, hml, hown, hw⟩ (c_M_fails0 l dC dI _ cI cZ cJ hm ml mw mb ms mn ln wh bi si nu 2 (by decide)) (cwV 2 hw (gV kw_420 kw_422 kw_5 kw_16 kw_423) rfl rfl rfl (by decide +kernel) ⟨Nat.le_of_ble_eq_true rfl, Nat.le_of_ble_eq_true rfl⟩) (rw_preV (q0 := 0) hKc hPc hDc rfl rfl) rfl rfl hl.1 rfl (lv_room (Nat.le_of_ble_eq_true rfl)) dM_operand_60 ⟨Nat.zero_le _, Nat.zero_le _⟩) hS (fun q _ h => hFc q h) hFc (fun v60 u t H1 locs ht hvm e60 hB hz1 hk1 hS => ?_)
            obtain ⟨hP1, hK1, hD1⟩ := hB
            rw [ht] at hP1
            obtain ⟨hP, hD⟩ := va_join (wr := []) (w1 := [(hm, .inr (2, [.int (nI 0), .ref ml, .ref mw, .ref mb, .ref ms, .ref mn])), (ml, .inl (cI, 8, .inl ln)), (mw, .inl (cI, 512, .inl wh)), (mb, .inl (cI, 48, .inl bi)), (ms, .inl (cZ, 48, .inl si)), (mn, .inl (cJ, 6, .inr (.inl nu)))]) hP hD [0, 1, 2, 3, 4, 5] [] rfl rfl (by decide) (by decide) hk1 hFc hP1 hD1
            generalize H1 = H at hP hS ⊢
            have hP : va_P (dC, dI) cls3 [(hm, .inr (2, [.int (nI 0), .ref ml, .ref mw, .ref mb, .ref ms, .ref mn])), (ml, .inl (cI, 8, .inl ln)), (mw, .inl (cI, 512, .inl wh)), (mb, .inl (cI, 48, .inl bi)), (ms, .inl (cZ, 48, .inl si)), (mn, .inl (cJ, 6, .inr (.inl nu)))] H := hP
            have hD : va_D A [(hm, .inr (2, [.int (nI 0), .ref ml, .ref mw, .ref mb, .ref ms, .ref mn])), (ml, .inl (cI, 8, .inl ln)), (mw, .inl (cI, 512, .inl wh)), (mb, .inl (cI, 48, .inl bi)), (ms, .inl (cZ, 48, .inl si)), (mn, .inl (cJ, 6, .inr (.inl nu)))] := hD
            obtain rfl : v60 = nI 0 := e60
            refine lv_if_eq (tgt := 67) hx hb dM_operand_63 (by decide) (fun h63 => ?_) (fun h63 => ?_)
            · refine lv_aload_n hx hb dM_operand_67 rfl (lv_at hl 0 rfl) ?_
              refine va_get (D := (dC, dI)) (ci := 2) (v := .ref mb) (C := RM) (T := TM) (N := 6) hx hb hw inM hown hK hP 0 rfl rfl 3 (by decide) (hw _ kw_389) (fun _ h9 => h9) rfl dM_operand_68 ?_
              refine lv_bipush (v := nI 6) hx hb dM_operand_71 (by decide +kernel) ?_
              refine lv_iload_n hx hb dM_operand_73 rfl (lv_at hl 1 rfl) ?_
              refine lv_imul hx hb dM_operand_74 ?_
              refine lv_topi (fun v74 e74 => ?_)
              obtain rfl : v74 = nI (6 * f) := e74.trans (pk_mul _ _)
              refine lv_iload_n hx hb dM_operand_75 rfl (lv_at hl 2 rfl) ?_
              refine lv_iadd hx hb dM_operand_76 ?_
              refine lv_topi (fun v76 e76 => ?_)
              obtain rfl : v76 = nI (6 * f + o) := e76.trans (nI_add _ _)
              refine lv_iload_n hx hb dM_operand_77 rfl (lv_at hl 3 rfl) ?_
              refine va_iast hx hb hK hP hD hS 3 0 rfl rfl (vp_in_nI (by omega) (by decide)) dM_operand_78 (fun H locs hP hD hS => ?_)
              rw [show (nI (6 * f + o)).toNatClampNeg = (6 * f + o) from nI_clamp (by omega)] at hP hD
              have hP : va_P (dC, dI) cls3 [(hm, .inr (2, [.int (nI 0), .ref ml, .ref mw, .ref mb, .ref ms, .ref mn])), (ml, .inl (cI, 8, .inl ln)), (mw, .inl (cI, 512, .inl wh)), (mb, .inl (cI, 48, .inl (upd bi (6 * f + o) (nI k)))), (ms, .inl (cZ, 48, .inl si)), (mn, .inl (cJ, 6, .inr (.inl nu)))] H := hP
              have hD : va_D A [(hm, .inr (2, [.int (nI 0), .ref ml, .ref mw, .ref mb, .ref ms, .ref mn])), (ml, .inl (cI, 8, .inl ln)), (mw, .inl (cI, 512, .inl wh)), (mb, .inl (cI, 48, .inl (upd bi (6 * f + o) (nI k)))), (ms, .inl (cZ, 48, .inl si)), (mn, .inl (cJ, 6, .inr (.inl nu)))] := hD
              refine lv_aload_n hx hb dM_operand_79 rfl (lv_at hl 0 rfl) ?_
              refine va_get (D := (dC, dI)) (ci := 2) (v := .ref ms) (C := RM) (T := TM) (N := 6) hx hb hw inM hown hK hP 0 rfl rfl 4 (by decide) (hw _ kw_390) (fun _ h9 => h9) rfl dM_operand_80 ?_
              refine lv_bipush (v := nI 6) hx hb dM_operand_83 (by decide +kernel) ?_
              refine lv_iload_n hx hb dM_operand_85 rfl (lv_at hl 1 rfl) ?_
              refine lv_imul hx hb dM_operand_86 ?_
              refine lv_topi (fun v86 e86 => ?_)
              obtain rfl : v86 = nI (6 * f) := e86.trans (pk_mul _ _)
              refine lv_iload_n hx hb dM_operand_87 rfl (lv_at hl 2 rfl) ?_
              refine lv_iadd hx hb dM_operand_88 ?_
              refine lv_topi (fun v88 e88 => ?_)
              obtain rfl : v88 = nI (6 * f + o) := e88.trans (nI_add _ _)
              refine lv_iload hx hb dM_operand_89 (lv_at hl 4 rfl) ?_
              refine va_zast hx hb hK hP hD hS 4 1 rfl rfl (vp_in_nI (by omega) (by decide)) dM_operand_91 (fun H locs hP hD hS => ?_)
              rw [show (nI (6 * f + o)).toNatClampNeg = (6 * f + o) from nI_clamp (by omega)] at hP hD
              have hP : va_P (dC, dI) cls3 [(hm, .inr (2, [.int (nI 0), .ref ml, .ref mw, .ref mb, .ref ms, .ref mn])), (ml, .inl (cI, 8, .inl ln)), (mw, .inl (cI, 512, .inl wh)), (mb, .inl (cI, 48, .inl (upd bi (6 * f + o) (nI k)))), (ms, .inl (cZ, 48, .inl (upd si (6 * f + o) (vp_nar .boolean (nI b.toNat))))), (mn, .inl (cJ, 6, .inr (.inl nu)))] H := hP
              have hD : va_D A [(hm, .inr (2, [.int (nI 0), .ref ml, .ref mw, .ref mb, .ref ms, .ref mn])), (ml, .inl (cI, 8, .inl ln)), (mw, .inl (cI, 512, .inl wh)), (mb, .inl (cI, 48, .inl (upd bi (6 * f + o) (nI k)))), (ms, .inl (cZ, 48, .inl (upd si (6 * f + o) (vp_nar .boolean (nI b.toNat))))), (mn, .inl (cJ, 6, .inr (.inl nu)))] := hD
              have hcd : cdOper wss (nI f) (nI o) (nI k) = 0 := by unfold cdOper; first | (rw [h10]; rfl) | (rw [isF_nI hf, h17]; rfl) | (rw [isF_nI hf, isO_nI ho, h29]; rfl) | (rw [isF_nI hf, isO_nI ho, isB_nI hk, hfi, hfo, Bool.true_and, Bool.true_and, if_pos rfl, if_pos (by omega)]) | (rw [isF_nI hf, isO_nI ho, isB_nI hk, hfi, hfo, Bool.true_and, Bool.true_and, if_pos rfl, if_neg (by omega)])
              exact W.vret hx hb hr (fun t ht hW => ⟨⟨(), rfl, trivial, _, _, by rw [hcd, hfi, hfo, hfk]; exact mR_oper hM hf ho hk.2 h51, by rw [ht, hcd]; exact hP, va_K.moved hW.alike hK, by rw [hcd]; exact hD⟩, hS.F ht⟩) hS.2.2 dM_operand_92
            · exfalso
              first | exact h63 (by decide +kernel) | exact absurd h63 (by decide +kernel)
          · rw [nI_le0 (by omega)] at h51
            refine lv_iconst (v := nI 1) hx hb dM_operand_54 (by decide +kernel) ?_
            refine lv_goto (tgt := 59) hx hb dM_operand_55 (by decide) ?_
            refine lv_iconst (v := nI 2) hx hb dM_operand_59 (by decide +kernel) ?_
            have hPc := hP.sub (ws' := [(hm, .inr (2, [.int (nI 0), .ref ml, .ref mw, .ref mb, .ref ms, .ref mn])), (ml, .inl (cI, 8, .inl ln)), (mw, .inl (cI, 512, .inl wh)), (mb, .inl (cI, 48, .inl bi)), (ms, .inl (cZ, 48, .inl si)), (mn, .inl (cJ, 6, .inr (.inl nu)))]) [0, 1, 2, 3, 4, 5] rfl
            have hDc := hD.sub (ws' := [(hm, .inr (2, [.int (nI 0), .ref ml, .ref mw, .ref mb, .ref ms, .ref mn])), (ml, .inl (cI, 8, .inl ln)), (mw, .inl (cI, 512, .inl wh)), (mb, .inl (cI, 48, .inl bi)), (ms, .inl (cZ, 48, .inl si)), (mn, .inl (cJ, 6, .inr (.inl nu)))]) [0, 1, 2, 3, 4, 5] (by decide) rfl
            have hKc := hK.sub (tys' := [(cI, .int), (cZ, .boolean), (cJ, .long)]) [0, 1, 2] rfl
            have hFc := va_free (wc := [(hm, .inr (2, [.int (nI 0), .ref ml, .ref mw, .ref mb, .ref ms, .ref mn])), (ml, .inl (cI, 8, .inl ln)), (mw, .inl (cI, 512, .inl wh)), (mb, .inl (cI, 48, .inl bi)), (ms, .inl (cZ, 48, .inl si)), (mn, .inl (cJ, 6, .inr (.inl nu)))]) hD hS hA [0, 1, 2, 3, 4, 5] rfl
            refine va_calli (va_runV (As := [.int (nI 1), .int (nI 2)]) (rest := []) ⟨hx, hb, hml, hown, hw⟩ (c_M_fails1 l dC dI _ cI cZ cJ hm ml mw mb ms mn ln wh bi si nu 2 (by decide)) (cwV 2 hw (gV kw_420 kw_422 kw_5 kw_16 kw_423) rfl rfl rfl (by decide +kernel) ⟨Nat.le_of_ble_eq_true rfl, Nat.le_of_ble_eq_true rfl⟩) (rw_preV (q0 := 0) hKc hPc hDc rfl rfl) rfl rfl hl.1 rfl (lv_room (Nat.le_of_ble_eq_true rfl)) dM_operand_60 ⟨Nat.zero_le _, Nat.zero_le _⟩) hS (fun q _ h => hFc q h) hFc (fun v60 u t H1 locs ht hvm e60 hB hz1 hk1 hS => ?_)
            obtain ⟨hP1, hK1, hD1⟩ := hB
            rw [ht] at hP1
            obtain ⟨hP, hD⟩ := va_join (wr := []) (w1 := [(hm, .inr (2, [.int (nI 2), .ref ml, .ref mw, .ref mb, .ref ms, .ref mn])), (ml, .inl (cI, 8, .inl ln)), (mw, .inl (cI, 512, .inl wh)), (mb, .inl (cI, 48, .inl bi)), (ms, .inl (cZ, 48, .inl si)), (mn, .inl (cJ, 6, .inr (.inl nu)))]) hP hD [0, 1, 2, 3, 4, 5] [] rfl rfl (by decide) (by decide) hk1 hFc hP1 hD1
            generalize H1 = H at hP hS ⊢
            have hP : va_P (dC, dI) cls3 [(hm, .inr (2, [.int (nI 2), .ref ml, .ref mw, .ref mb, .ref ms, .ref mn])), (ml, .inl (cI, 8, .inl ln)), (mw, .inl (cI, 512, .inl wh)), (mb, .inl (cI, 48, .inl bi)), (ms, .inl (cZ, 48, .inl si)), (mn, .inl (cJ, 6, .inr (.inl nu)))] H := hP
            have hD : va_D A [(hm, .inr (2, [.int (nI 2), .ref ml, .ref mw, .ref mb, .ref ms, .ref mn])), (ml, .inl (cI, 8, .inl ln)), (mw, .inl (cI, 512, .inl wh)), (mb, .inl (cI, 48, .inl bi)), (ms, .inl (cZ, 48, .inl si)), (mn, .inl (cJ, 6, .inr (.inl nu)))] := hD
            obtain rfl : v60 = nI 1 := e60
            refine lv_if_eq (tgt := 67) hx hb dM_operand_63 (by decide) (fun h63 => ?_) (fun h63 => ?_)
            · exfalso
              first | exact h63 (by decide +kernel) | exact absurd h63 (by decide +kernel)
            · have hcd : cdOper wss (nI f) (nI o) (nI k) = 2 := by unfold cdOper; first | (rw [h10]; rfl) | (rw [isF_nI hf, h17]; rfl) | (rw [isF_nI hf, isO_nI ho, h29]; rfl) | (rw [isF_nI hf, isO_nI ho, isB_nI hk, hfi, hfo, Bool.true_and, Bool.true_and, if_pos rfl, if_pos (by omega)]) | (rw [isF_nI hf, isO_nI ho, isB_nI hk, hfi, hfo, Bool.true_and, Bool.true_and, if_pos rfl, if_neg (by omega)])
              exact W.vret hx hb hr (fun t ht hW => ⟨⟨(), rfl, trivial, bi, si, by rw [hcd]; exact hM, by rw [ht, hcd]; exact hP, va_K.moved hW.alike hK, by rw [hcd]; exact hD⟩, hS.F ht⟩) hS.2.2 dM_operand_66
      · rw [b_nat0] at h29
        refine lv_iconst (v := nI 1) hx hb dM_operand_32 (by decide +kernel) ?_
        refine lv_goto (tgt := 37) hx hb dM_operand_33 (by decide) ?_
        refine lv_iconst (v := nI 1) hx hb dM_operand_37 (by decide +kernel) ?_
        have hPc := hP.sub (ws' := [(hm, .inr (2, [.int (nI 0), .ref ml, .ref mw, .ref mb, .ref ms, .ref mn])), (ml, .inl (cI, 8, .inl ln)), (mw, .inl (cI, 512, .inl wh)), (mb, .inl (cI, 48, .inl bi)), (ms, .inl (cZ, 48, .inl si)), (mn, .inl (cJ, 6, .inr (.inl nu)))]) [0, 1, 2, 3, 4, 5] rfl
        have hDc := hD.sub (ws' := [(hm, .inr (2, [.int (nI 0), .ref ml, .ref mw, .ref mb, .ref ms, .ref mn])), (ml, .inl (cI, 8, .inl ln)), (mw, .inl (cI, 512, .inl wh)), (mb, .inl (cI, 48, .inl bi)), (ms, .inl (cZ, 48, .inl si)), (mn, .inl (cJ, 6, .inr (.inl nu)))]) [0, 1, 2, 3, 4, 5] (by decide) rfl
        have hKc := hK.sub (tys' := [(cI, .int), (cZ, .boolean), (cJ, .long)]) [0, 1, 2] rfl
        have hFc := va_free (wc := [(hm, .inr (2, [.int (nI 0), .ref ml, .ref mw, .ref mb, .ref ms, .ref mn])), (ml, .inl (cI, 8, .inl ln)), (mw, .inl (cI, 512, .inl wh)), (mb, .inl (cI, 48, .inl bi)), (ms, .inl (cZ, 48, .inl si)), (mn, .inl (cJ, 6, .inr (.inl nu)))]) hD hS hA [0, 1, 2, 3, 4, 5] rfl
        refine va_calli (va_runV (As := [.int (nI 1), .int (nI 1)]) (rest := []) ⟨hx, hb, hml, hown, hw⟩ (c_M_fails1 l dC dI _ cI cZ cJ hm ml mw mb ms mn ln wh bi si nu 1 (by decide)) (cwV 2 hw (gV kw_420 kw_422 kw_5 kw_16 kw_423) rfl rfl rfl (by decide +kernel) ⟨Nat.le_of_ble_eq_true rfl, Nat.le_of_ble_eq_true rfl⟩) (rw_preV (q0 := 0) hKc hPc hDc rfl rfl) rfl rfl hl.1 rfl (lv_room (Nat.le_of_ble_eq_true rfl)) dM_operand_38 ⟨Nat.zero_le _, Nat.zero_le _⟩) hS (fun q _ h => hFc q h) hFc (fun v38 u t H1 locs ht hvm e38 hB hz1 hk1 hS => ?_)
        obtain ⟨hP1, hK1, hD1⟩ := hB
        rw [ht] at hP1
        obtain ⟨hP, hD⟩ := va_join (wr := []) (w1 := [(hm, .inr (2, [.int (nI 1), .ref ml, .ref mw, .ref mb, .ref ms, .ref mn])), (ml, .inl (cI, 8, .inl ln)), (mw, .inl (cI, 512, .inl wh)), (mb, .inl (cI, 48, .inl bi)), (ms, .inl (cZ, 48, .inl si)), (mn, .inl (cJ, 6, .inr (.inl nu)))]) hP hD [0, 1, 2, 3, 4, 5] [] rfl rfl (by decide) (by decide) hk1 hFc hP1 hD1
        generalize H1 = H at hP hS ⊢
        have hP : va_P (dC, dI) cls3 [(hm, .inr (2, [.int (nI 1), .ref ml, .ref mw, .ref mb, .ref ms, .ref mn])), (ml, .inl (cI, 8, .inl ln)), (mw, .inl (cI, 512, .inl wh)), (mb, .inl (cI, 48, .inl bi)), (ms, .inl (cZ, 48, .inl si)), (mn, .inl (cJ, 6, .inr (.inl nu)))] H := hP
        have hD : va_D A [(hm, .inr (2, [.int (nI 1), .ref ml, .ref mw, .ref mb, .ref ms, .ref mn])), (ml, .inl (cI, 8, .inl ln)), (mw, .inl (cI, 512, .inl wh)), (mb, .inl (cI, 48, .inl bi)), (ms, .inl (cZ, 48, .inl si)), (mn, .inl (cJ, 6, .inr (.inl nu)))] := hD
        obtain rfl : v38 = nI 1 := e38
        refine lv_if_ne (tgt := 66) hx hb dM_operand_41 (by decide) (fun h41 => ?_) (fun h41 => ?_)
        · have hcd : cdOper wss (nI f) (nI o) z = 1 := by unfold cdOper; first | (rw [h10]; rfl) | (rw [isF_nI hf, h17]; rfl) | (rw [isF_nI hf, isO_nI ho, h29]; rfl) | (rw [isF_nI hf, isO_nI ho, isB_nI hk, hfi, hfo, Bool.true_and, Bool.true_and, if_pos rfl, if_pos (by omega)]) | (rw [isF_nI hf, isO_nI ho, isB_nI hk, hfi, hfo, Bool.true_and, Bool.true_and, if_pos rfl, if_neg (by omega)])
          exact W.vret hx hb hr (fun t ht hW => ⟨⟨(), rfl, trivial, bi, si, by rw [hcd]; exact hM, by rw [ht, hcd]; exact hP, va_K.moved hW.alike hK, by rw [hcd]; exact hD⟩, hS.F ht⟩) hS.2.2 dM_operand_66
        · exfalso
          first | exact h41 (by decide +kernel) | exact absurd h41 (by decide +kernel)

set_option maxHeartbeats 4000000 in
set_option maxRecDepth 100000 in
theorem c_M_fixed (l : Launch) (dC : Nat → ClassId) (dI : Nat → Nat → Nat) (sz : Nat) (cI cZ cJ : ClassId) (hm ml mw mb ms mn : Nat) (er : Int32) (ln wh bi si : Nat → Int32) (nu : Nat → Int64) (ns : Nat → Nat) (its wss : Nat → Nat → Nat) (sbs : Nat → Nat → Bool) (hM : mR ns its wss sbs ln wh bi si) (x z : Int32) (v : Int64) : Met l yM_fixed wM_fixed { frames := 2, cells := 0, slots := 0, locals := 45 } (rw_Pc (dC, dI) cls3 [(hm, .inr (2, [.int er, .ref ml, .ref mw, .ref mb, .ref ms, .ref mn])), (ml, .inl (cI, 8, .inl ln)), (mw, .inl (cI, 512, .inl wh)), (mb, .inl (cI, 48, .inl bi)), (ms, .inl (cZ, 48, .inl si)), (mn, .inl (cJ, 6, .inr (.inl nu)))] [(cI, .int), (cZ, .boolean), (cJ, .long)] sz [.ref hm, .int x, .int z, .long v]) (va_Qi (fun (r : Int32) (_ : Unit) => cdFixed ns x z = 0 → r = nI (ns (fi x) + fi z)) (fun _ t => ∃ ln' wh' : Nat → Int32, mR (stp (cdFixed ns x z) (va_up ns (fi x) (ns (fi x) + fi z)) ns) (stp (cdFixed ns x z) (va_up its (fi x) (itF (its (fi x)) (ns (fi x)) (fi z) v)) its) wss sbs ln' wh' bi si ∧ va_P (dC, dI) cls3 [(hm, .inr (2, [.int (nI (cdFixed ns x z)), .ref ml, .ref mw, .ref mb, .ref ms, .ref mn])), (ml, .inl (cI, 8, .inl ln')), (mw, .inl (cI, 512, .inl wh')), (mb, .inl (cI, 48, .inl bi)), (ms, .inl (cZ, 48, .inl si)), (mn, .inl (cJ, 6, .inr (.inl nu)))] t.heap ∧ va_K (dC, dI) cls3 [(cI, .int), (cZ, .boolean), (cJ, .long)] t ∧ va_D (va_A [(hm, .inr (2, [.int er, .ref ml, .ref mw, .ref mb, .ref ms, .ref mn])), (ml, .inl (cI, 8, .inl ln)), (mw, .inl (cI, 512, .inl wh)), (mb, .inl (cI, 48, .inl bi)), (ms, .inl (cZ, 48, .inl si)), (mn, .inl (cJ, 6, .inr (.inl nu)))] sz) [(hm, .inr (2, [.int (nI (cdFixed ns x z)), .ref ml, .ref mw, .ref mb, .ref ms, .ref mn])), (ml, .inl (cI, 8, .inl ln')), (mw, .inl (cI, 512, .inl wh')), (mb, .inl (cI, 48, .inl bi)), (ms, .inl (cZ, 48, .inl si)), (mn, .inl (cJ, 6, .inr (.inl nu)))]) (va_A [(hm, .inr (2, [.int er, .ref ml, .ref mw, .ref mb, .ref ms, .ref mn])), (ml, .inl (cI, 8, .inl ln)), (mw, .inl (cI, 512, .inl wh)), (mb, .inl (cI, 48, .inl bi)), (ms, .inl (cZ, 48, .inl si)), (mn, .inl (cJ, 6, .inr (.inl nu)))] sz)) 0 0 (va_A [(hm, .inr (2, [.int er, .ref ml, .ref mw, .ref mb, .ref ms, .ref mn])), (ml, .inl (cI, 8, .inl ln)), (mw, .inl (cI, 512, .inl wh)), (mb, .inl (cI, 48, .inl bi)), (ms, .inl (cZ, 48, .inl si)), (mn, .inl (cJ, 6, .inr (.inl nu)))] sz) := by
  refine Met.ofW (cc := cM_fixed) (maxL := 6) (ret := (some .int)) (by decide) rfl ?_
  intro p e s m args below meth c s₁ B hml hv
  obtain ⟨rfl, hsz, hP, hK, hD0⟩ := hv
  have hx := B.exec
  have hb := B.bytes
  have hr := B.returns
  have hts := atoms_spec (ws := wM_fixed) B.pre
  have hw : ∀ w ∈ wA, w.before _ s = true := fun w h => hts w (List.mem_cons_of_mem _ h)
  have hown : s.vm.findClass RM = some m.cls := findClass_of_methodNamed B.named
  have hlocks := B.notSynchronized
  subst hsz
  have hD := hD0.self (sz := s.heap.size)
  generalize hAe : va_A [(hm, .inr (2, [.int er, .ref ml, .ref mw, .ref mb, .ref ms, .ref mn])), (ml, .inl (cI, 8, .inl ln)), (mw, .inl (cI, 512, .inl wh)), (mb, .inl (cI, 48, .inl bi)), (ms, .inl (cZ, 48, .inl si)), (mn, .inl (cJ, 6, .inr (.inl nu)))] s.heap.size = A at hD ⊢
  have hA : ∀ q : Nat, s.heap.size ≤ q → A q := fun q h => by rw [← hAe]; exact Or.inr h
  have hS : va_S A s.heap s.heap [] := va_S.rf
  have hl := lv_entry ([.ref hm, .int x, .int z, .long v]) (n := 6) (Nat.le_of_ble_eq_true rfl)
  rw [lg_entry_eq]
  generalize (lg_sl ([.ref hm, .int x, .int z, .long v]) ++ List.replicate (6 - (lg_sl ([.ref hm, .int x, .int z, .long v])).length) Slot.unset).toArray = ls at hl ⊢
  have hl : lv_has ls 6 [(0, .ref hm), (1, .int x), (2, .int z), (3, .long v)] := hl
  refine lv_aload_n hx hb dM_fixed_0 rfl (lv_at hl 0 rfl) ?_
  refine lv_iconst (v := nI 0) hx hb dM_fixed_1 (by decide +kernel) ?_
  refine va_put (D := (dC, dI)) (ci := 2) (v := .int (nI 0)) (ty := .int) (C := RM) (T := TM) (N := 6) hx hb hw inM tM tM_ok nM hown hK hP hD hS 0 rfl rfl 0 (by decide) (hw _ kw_386) (fun _ h9 => h9) rfl (by decide +kernel) rfl rfl (Nat.le_of_ble_eq_true rfl) dM_fixed_2 (fun H locs hP hD hS => ?_)
  have hP : va_P (dC, dI) cls3 [(hm, .inr (2, [.int (nI 0), .ref ml, .ref mw, .ref mb, .ref ms, .ref mn])), (ml, .inl (cI, 8, .inl ln)), (mw, .inl (cI, 512, .inl wh)), (mb, .inl (cI, 48, .inl bi)), (ms, .inl (cZ, 48, .inl si)), (mn, .inl (cJ, 6, .inr (.inl nu)))] H := hP
  have hD : va_D A [(hm, .inr (2, [.int (nI 0), .ref ml, .ref mw, .ref mb, .ref ms, .ref mn])), (ml, .inl (cI, 8, .inl ln)), (mw, .inl (cI, 512, .inl wh)), (mb, .inl (cI, 48, .inl bi)), (ms, .inl (cZ, 48, .inl si)), (mn, .inl (cJ, 6, .inr (.inl nu)))] := hD
  refine lv_aload_n hx hb dM_fixed_5 rfl (lv_at hl 0 rfl) ?_
  refine lv_iload_n hx hb dM_fixed_6 rfl (lv_at hl 1 rfl) ?_
  refine vp_callSi (W.runS (As := [.int x]) (rest := [.ref hm]) ⟨hx, hb, hml, hown, hw⟩ (c_M_isForm l x) (cwS 1 hw (gS kw_413 kw_414 kw_16 kw_415) rfl rfl rfl (by decide +kernel) ⟨Nat.le_of_ble_eq_true rfl, Nat.le_of_ble_eq_true rfl⟩) preEq rfl rfl hl.1 rfl (lv_room (Nat.le_of_ble_eq_true rfl)) dM_fixed_7 ⟨Nat.zero_le _, Nat.zero_le _⟩) (fun v7 e7 => ?_)
  obtain rfl : v7 = nI (isF x).toNat := e7
  refine lv_if_eq (tgt := 25) hx hb dM_fixed_10 (by decide) (fun h10 => ?_) (fun h10 => ?_)
  · rw [b_nat0] at h10
    refine lv_iconst (v := nI 1) hx hb dM_fixed_25 (by decide +kernel) ?_
    refine lv_goto (tgt := 30) hx hb dM_fixed_26 (by decide) ?_
    refine lv_iconst (v := nI 1) hx hb dM_fixed_30 (by decide +kernel) ?_
    have hPc := hP.sub (ws' := [(hm, .inr (2, [.int (nI 0), .ref ml, .ref mw, .ref mb, .ref ms, .ref mn])), (ml, .inl (cI, 8, .inl ln)), (mw, .inl (cI, 512, .inl wh)), (mb, .inl (cI, 48, .inl bi)), (ms, .inl (cZ, 48, .inl si)), (mn, .inl (cJ, 6, .inr (.inl nu)))]) [0, 1, 2, 3, 4, 5] rfl
    have hDc := hD.sub (ws' := [(hm, .inr (2, [.int (nI 0), .ref ml, .ref mw, .ref mb, .ref ms, .ref mn])), (ml, .inl (cI, 8, .inl ln)), (mw, .inl (cI, 512, .inl wh)), (mb, .inl (cI, 48, .inl bi)), (ms, .inl (cZ, 48, .inl si)), (mn, .inl (cJ, 6, .inr (.inl nu)))]) [0, 1, 2, 3, 4, 5] (by decide) rfl
    have hKc := hK.sub (tys' := [(cI, .int), (cZ, .boolean), (cJ, .long)]) [0, 1, 2] rfl
    have hFc := va_free (wc := [(hm, .inr (2, [.int (nI 0), .ref ml, .ref mw, .ref mb, .ref ms, .ref mn])), (ml, .inl (cI, 8, .inl ln)), (mw, .inl (cI, 512, .inl wh)), (mb, .inl (cI, 48, .inl bi)), (ms, .inl (cZ, 48, .inl si)), (mn, .inl (cJ, 6, .inr (.inl nu)))]) hD hS hA [0, 1, 2, 3, 4, 5] rfl
    refine va_calli (va_runV (As := [.int (nI 1), .int (nI 1)]) (rest := []) ⟨hx, hb, hml, hown, hw⟩ (c_M_fails1 l dC dI _ cI cZ cJ hm ml mw mb ms mn ln wh bi si nu 1 (by decide)) (cwV 2 hw (gV kw_420 kw_422 kw_5 kw_16 kw_423) rfl rfl rfl (by decide +kernel) ⟨Nat.le_of_ble_eq_true rfl, Nat.le_of_ble_eq_true rfl⟩) (rw_preV (q0 := 0) hKc hPc hDc rfl rfl) rfl rfl hl.1 rfl (lv_room (Nat.le_of_ble_eq_true rfl)) dM_fixed_31 ⟨Nat.zero_le _, Nat.zero_le _⟩) hS (fun q _ h => hFc q h) hFc (fun v31 u t H1 locs ht hvm e31 hB hz1 hk1 hS => ?_)
    obtain ⟨hP1, hK1, hD1⟩ := hB
    rw [ht] at hP1
    obtain ⟨hP, hD⟩ := va_join (wr := []) (w1 := [(hm, .inr (2, [.int (nI 1), .ref ml, .ref mw, .ref mb, .ref ms, .ref mn])), (ml, .inl (cI, 8, .inl ln)), (mw, .inl (cI, 512, .inl wh)), (mb, .inl (cI, 48, .inl bi)), (ms, .inl (cZ, 48, .inl si)), (mn, .inl (cJ, 6, .inr (.inl nu)))]) hP hD [0, 1, 2, 3, 4, 5] [] rfl rfl (by decide) (by decide) hk1 hFc hP1 hD1
    generalize H1 = H at hP hS ⊢
    have hP : va_P (dC, dI) cls3 [(hm, .inr (2, [.int (nI 1), .ref ml, .ref mw, .ref mb, .ref ms, .ref mn])), (ml, .inl (cI, 8, .inl ln)), (mw, .inl (cI, 512, .inl wh)), (mb, .inl (cI, 48, .inl bi)), (ms, .inl (cZ, 48, .inl si)), (mn, .inl (cJ, 6, .inr (.inl nu)))] H := hP
    have hD : va_D A [(hm, .inr (2, [.int (nI 1), .ref ml, .ref mw, .ref mb, .ref ms, .ref mn])), (ml, .inl (cI, 8, .inl ln)), (mw, .inl (cI, 512, .inl wh)), (mb, .inl (cI, 48, .inl bi)), (ms, .inl (cZ, 48, .inl si)), (mn, .inl (cJ, 6, .inr (.inl nu)))] := hD
    obtain rfl : v31 = nI 1 := e31
    refine lv_if_ne (tgt := 63) hx hb dM_fixed_34 (by decide) (fun h34 => ?_) (fun h34 => ?_)
    · refine lv_iconst (v := nI 0) hx hb dM_fixed_63 (by decide +kernel) ?_
      have hcd : cdFixed ns x z = 1 := by unfold cdFixed; first | (rw [h10]; rfl) | (rw [isF_nI hf, h22]; rfl) | (rw [isF_nI hf, isB_nI hc, hfi, hfk, Bool.true_and, if_pos rfl, if_pos (by omega)]) | (rw [isF_nI hf, isB_nI hc, hfi, hfk, Bool.true_and, if_pos rfl, if_neg (by omega)])
      exact W.iret (v := nI 0) hx hb hr (fun t ht hW => ⟨⟨_, (), rfl, (by intro h0; first | exact absurd (hcd.symm.trans h0) (by decide) | (rw [hfi, hfk])), ln, wh, by rw [hcd]; exact hM, by rw [ht, hcd]; exact hP, va_K.moved hW.alike hK, by rw [hcd]; exact hD⟩, hS.F ht⟩) hS.2.2 dM_fixed_64
    · exfalso
      first | exact h34 (by decide +kernel) | exact absurd h34 (by decide +kernel)
  · obtain ⟨f, hf, rfl⟩ := isF_of (b_nf h10)
    have hfi : fi (nI f) = f := fi_nI (by omega)
    have hok := (hM f hf).1
    have hn := hok.1
    have hw64 := hok.2.1
    have hit := cw_it hok
    refine lv_iload_n hx hb dM_fixed_13 rfl (lv_at hl 2 rfl) ?_
    refine lv_i2l hx hb dM_fixed_14 rfl ?_
    refine lv_topl (fun v14 e14 => ?_)
    refine lv_lconst (v := lN 1) hx hb dM_fixed_15 (by decide +kernel) ?_
    refine lv_ldc2 (v := lN 64) hx hb hown (hw _ kw_432) dM_fixed_16 ?_
    refine vp_callSi (W.runS (As := [.long v14, .long (lN 1), .long (lN 64)]) (rest := [.ref hm]) ⟨hx, hb, hml, hown, hw⟩ (c_M_in l v14 (lN 1) (lN 64)) (cwS 3 hw (gS kw_417 kw_418 kw_16 kw_419) rfl rfl rfl (by decide +kernel) ⟨Nat.le_of_ble_eq_true rfl, Nat.le_of_ble_eq_true rfl⟩) preEq rfl rfl hl.1 rfl (lv_room (Nat.le_of_ble_eq_true rfl)) dM_fixed_19 ⟨Nat.zero_le _, Nat.zero_le _⟩) (fun v19 e19 => ?_)
    obtain rfl : v19 = nI (isB z).toNat := e19.trans (by rw [e14]; exact isB_in z)
    refine lv_if_ne (tgt := 29) hx hb dM_fixed_22 (by decide) (fun h22 => ?_) (fun h22 => ?_)
    · obtain ⟨cnt, hc, rfl⟩ := isB_of (b_nf h22)
      have hfk : fi (nI cnt) = cnt := fi_nI (by omega)
      refine lv_iconst (v := nI 0) hx hb dM_fixed_29 (by decide +kernel) ?_
      refine lv_iconst (v := nI 1) hx hb dM_fixed_30 (by decide +kernel) ?_
      have hPc := hP.sub (ws' := [(hm, .inr (2, [.int (nI 0), .ref ml, .ref mw, .ref mb, .ref ms, .ref mn])), (ml, .inl (cI, 8, .inl ln)), (mw, .inl (cI, 512, .inl wh)), (mb, .inl (cI, 48, .inl bi)), (ms, .inl (cZ, 48, .inl si)), (mn, .inl (cJ, 6, .inr (.inl nu)))]) [0, 1, 2, 3, 4, 5] rfl
      have hDc := hD.sub (ws' := [(hm, .inr (2, [.int (nI 0), .ref ml, .ref mw, .ref mb, .ref ms, .ref mn])), (ml, .inl (cI, 8, .inl ln)), (mw, .inl (cI, 512, .inl wh)), (mb, .inl (cI, 48, .inl bi)), (ms, .inl (cZ, 48, .inl si)), (mn, .inl (cJ, 6, .inr (.inl nu)))]) [0, 1, 2, 3, 4, 5] (by decide) rfl
      have hKc := hK.sub (tys' := [(cI, .int), (cZ, .boolean), (cJ, .long)]) [0, 1, 2] rfl
      have hFc := va_free (wc := [(hm, .inr (2, [.int (nI 0), .ref ml, .ref mw, .ref mb, .ref ms, .ref mn])), (ml, .inl (cI, 8, .inl ln)), (mw, .inl (cI, 512, .inl wh)), (mb, .inl (cI, 48, .inl bi)), (ms, .inl (cZ, 48, .inl si)), (mn, .inl (cJ, 6, .inr (.inl nu)))]) hD hS hA [0, 1, 2, 3, 4, 5] rfl
      refine va_calli (va_runV (As := [.int (nI 0), .int (nI 1)]) (rest := []) ⟨hx, hb, hml, hown, hw⟩ (c_M_fails0 l dC dI _ cI cZ cJ hm ml mw mb ms mn ln wh bi si nu 1 (by decide)) (cwV 2 hw (gV kw_420 kw_422 kw_5 kw_16 kw_423) rfl rfl rfl (by decide +kernel) ⟨Nat.le_of_ble_eq_true rfl, Nat.le_of_ble_eq_true rfl⟩) (rw_preV (q0 := 0) hKc hPc hDc rfl rfl) rfl rfl hl.1 rfl (lv_room (Nat.le_of_ble_eq_true rfl)) dM_fixed_31 ⟨Nat.zero_le _, Nat.zero_le _⟩) hS (fun q _ h => hFc q h) hFc (fun v31 u t H1 locs ht hvm e31 hB hz1 hk1 hS => ?_)
      obtain ⟨hP1, hK1, hD1⟩ := hB
      rw [ht] at hP1
      obtain ⟨hP, hD⟩ := va_join (wr := []) (w1 := [(hm, .inr (2, [.int (nI 0), .ref ml, .ref mw, .ref mb, .ref ms, .ref mn])), (ml, .inl (cI, 8, .inl ln)), (mw, .inl (cI, 512, .inl wh)), (mb, .inl (cI, 48, .inl bi)), (ms, .inl (cZ, 48, .inl si)), (mn, .inl (cJ, 6, .inr (.inl nu)))]) hP hD [0, 1, 2, 3, 4, 5] [] rfl rfl (by decide) (by decide) hk1 hFc hP1 hD1
      generalize H1 = H at hP hS ⊢
      have hP : va_P (dC, dI) cls3 [(hm, .inr (2, [.int (nI 0), .ref ml, .ref mw, .ref mb, .ref ms, .ref mn])), (ml, .inl (cI, 8, .inl ln)), (mw, .inl (cI, 512, .inl wh)), (mb, .inl (cI, 48, .inl bi)), (ms, .inl (cZ, 48, .inl si)), (mn, .inl (cJ, 6, .inr (.inl nu)))] H := hP
      have hD : va_D A [(hm, .inr (2, [.int (nI 0), .ref ml, .ref mw, .ref mb, .ref ms, .ref mn])), (ml, .inl (cI, 8, .inl ln)), (mw, .inl (cI, 512, .inl wh)), (mb, .inl (cI, 48, .inl bi)), (ms, .inl (cZ, 48, .inl si)), (mn, .inl (cJ, 6, .inr (.inl nu)))] := hD
      obtain rfl : v31 = nI 0 := e31
      refine lv_if_ne (tgt := 63) hx hb dM_fixed_34 (by decide) (fun h34 => ?_) (fun h34 => ?_)
      · exfalso
        first | exact h34 (by decide +kernel) | exact absurd h34 (by decide +kernel)
      · refine lv_aload_n hx hb dM_fixed_37 rfl (lv_at hl 0 rfl) ?_
        refine lv_aload_n hx hb dM_fixed_38 rfl (lv_at hl 0 rfl) ?_
        refine va_get (D := (dC, dI)) (ci := 2) (v := .ref ml) (C := RM) (T := TM) (N := 6) hx hb hw inM hown hK hP 0 rfl rfl 1 (by decide) (hw _ kw_387) (fun _ h9 => h9) rfl dM_fixed_39 ?_
        refine lv_iload_n hx hb dM_fixed_42 rfl (lv_at hl 1 rfl) ?_
        refine va_iald hx hb hK hP 1 0 rfl rfl (vp_in_nI (by omega) (by decide)) dM_fixed_43 ?_
        refine lv_topi (fun v43 e43 => ?_)
        rw [nI_clamp (by omega)] at e43
        obtain rfl : v43 = nI (ns f) := e43.trans (hM f hf).2.1
        refine lv_iload_n hx hb dM_fixed_44 rfl (lv_at hl 2 rfl) ?_
        refine lv_iadd hx hb dM_fixed_45 ?_
        refine lv_topi (fun v45 e45 => ?_)
        obtain rfl : v45 = nI (ns f + cnt) := e45.trans (nI_add _ _)
        refine lv_bipush (v := nI 64) hx hb dM_fixed_46 (by decide +kernel) ?_
        refine lv_icmp_le (tgt := 55) hx hb dM_fixed_48 (by decide) (fun h48 => ?_) (fun h48 => ?_)
        · rw [nI_leI (by omega) (by omega)] at h48
          refine lv_iconst (v := nI 0) hx hb dM_fixed_55 (by decide +kernel) ?_
          refine lv_iconst (v := nI 2) hx hb dM_fixed_56 (by decide +kernel) ?_
          have hPc := hP.sub (ws' := [(hm, .inr (2, [.int (nI 0), .ref ml, .ref mw, .ref mb, .ref ms, .ref mn])), (ml, .inl (cI, 8, .inl ln)), (mw, .inl (cI, 512, .inl wh)), (mb, .inl (cI, 48, .inl bi)), (ms, .inl (cZ, 48, .inl si)), (mn, .inl (cJ, 6, .inr (.inl nu)))]) [0, 1, 2, 3, 4, 5] rfl
          have hDc := hD.sub (ws' := [(hm, .inr (2, [.int (nI 0), .ref ml, .ref mw, .ref mb, .ref ms, .ref mn])), (ml, .inl (cI, 8, .inl ln)), (mw, .inl (cI, 512, .inl wh)), (mb, .inl (cI, 48, .inl bi)), (ms, .inl (cZ, 48, .inl si)), (mn, .inl (cJ, 6, .inr (.inl nu)))]) [0, 1, 2, 3, 4, 5] (by decide) rfl
          have hKc := hK.sub (tys' := [(cI, .int), (cZ, .boolean), (cJ, .long)]) [0, 1, 2] rfl
          have hFc := va_free (wc := [(hm, .inr (2, [.int (nI 0), .ref ml, .ref mw, .ref mb, .ref ms, .ref mn])), (ml, .inl (cI, 8, .inl ln)), (mw, .inl (cI, 512, .inl wh)), (mb, .inl (cI, 48, .inl bi)), (ms, .inl (cZ, 48, .inl si)), (mn, .inl (cJ, 6, .inr (.inl nu)))]) hD hS hA [0, 1, 2, 3, 4, 5] rfl
          refine va_calli (va_runV (As := [.int (nI 0), .int (nI 2)]) (rest := []) ⟨hx, hb, hml, hown, hw⟩ (c_M_fails0 l dC dI _ cI cZ cJ hm ml mw mb ms mn ln wh bi si nu 2 (by decide)) (cwV 2 hw (gV kw_420 kw_422 kw_5 kw_16 kw_423) rfl rfl rfl (by decide +kernel) ⟨Nat.le_of_ble_eq_true rfl, Nat.le_of_ble_eq_true rfl⟩) (rw_preV (q0 := 0) hKc hPc hDc rfl rfl) rfl rfl hl.1 rfl (lv_room (Nat.le_of_ble_eq_true rfl)) dM_fixed_57 ⟨Nat.zero_le _, Nat.zero_le _⟩) hS (fun q _ h => hFc q h) hFc (fun v57 u t H1 locs ht hvm e57 hB hz1 hk1 hS => ?_)
          obtain ⟨hP1, hK1, hD1⟩ := hB
          rw [ht] at hP1
          obtain ⟨hP, hD⟩ := va_join (wr := []) (w1 := [(hm, .inr (2, [.int (nI 0), .ref ml, .ref mw, .ref mb, .ref ms, .ref mn])), (ml, .inl (cI, 8, .inl ln)), (mw, .inl (cI, 512, .inl wh)), (mb, .inl (cI, 48, .inl bi)), (ms, .inl (cZ, 48, .inl si)), (mn, .inl (cJ, 6, .inr (.inl nu)))]) hP hD [0, 1, 2, 3, 4, 5] [] rfl rfl (by decide) (by decide) hk1 hFc hP1 hD1
          generalize H1 = H at hP hS ⊢
          have hP : va_P (dC, dI) cls3 [(hm, .inr (2, [.int (nI 0), .ref ml, .ref mw, .ref mb, .ref ms, .ref mn])), (ml, .inl (cI, 8, .inl ln)), (mw, .inl (cI, 512, .inl wh)), (mb, .inl (cI, 48, .inl bi)), (ms, .inl (cZ, 48, .inl si)), (mn, .inl (cJ, 6, .inr (.inl nu)))] H := hP
          have hD : va_D A [(hm, .inr (2, [.int (nI 0), .ref ml, .ref mw, .ref mb, .ref ms, .ref mn])), (ml, .inl (cI, 8, .inl ln)), (mw, .inl (cI, 512, .inl wh)), (mb, .inl (cI, 48, .inl bi)), (ms, .inl (cZ, 48, .inl si)), (mn, .inl (cJ, 6, .inr (.inl nu)))] := hD
          obtain rfl : v57 = nI 0 := e57
          refine lv_if_eq (tgt := 65) hx hb dM_fixed_60 (by decide) (fun h60 => ?_) (fun h60 => ?_)
          · refine lv_iload_n hx hb dM_fixed_65 rfl (lv_at hl 2 rfl) ?_
            refine lv_iconst (v := nI 1) hx hb dM_fixed_66 (by decide +kernel) ?_
            refine lv_isub hx hb dM_fixed_67 ?_
            refine lv_topi (fun v67 e67 => ?_)
            obtain rfl : v67 = nI cnt - nI 1 := e67
            refine lv_istore hx hb dM_fixed_68 hl (by decide) rfl (fun ls hl => ?_)
            have hl : lv_has ls 6 [(5, .int (nI cnt - nI 1)), (0, .ref hm), (1, .int (nI f)), (2, .int (nI cnt)), (3, .long v)] := hl
            refine (?_ : ∀ (kk : Nat) (k : Nat) (ln2 : Nat → Int32) (wh2 : Nat → Int32) (H : Heap) (locs : List Loc) (ls : Array Slot), kk = k → lv_has ls 6 [(5, .int (nI k - nI 1)), (0, .ref hm), (1, .int (nI f)), (2, .int (nI cnt)), (3, .long v)] → (k ≤ cnt) → (mR (va_up ns f (ns f + cnt - k)) (va_up its f (itF (its f) (ns f) cnt v)) wss sbs ln2 wh2 bi si) → va_P (dC, dI) cls3 [(hm, .inr (2, [.int (nI 0), .ref ml, .ref mw, .ref mb, .ref ms, .ref mn])), (ml, .inl (cI, 8, .inl ln2)), (mw, .inl (cI, 512, .inl wh2)), (mb, .inl (cI, 48, .inl bi)), (ms, .inl (cZ, 48, .inl si)), (mn, .inl (cJ, 6, .inr (.inl nu)))] H → va_D A [(hm, .inr (2, [.int (nI 0), .ref ml, .ref mw, .ref mb, .ref ms, .ref mn])), (ml, .inl (cI, 8, .inl ln2)), (mw, .inl (cI, 512, .inl wh2)), (mb, .inl (cI, 48, .inl bi)), (ms, .inl (cZ, 48, .inl si)), (mn, .inl (cJ, 6, .inr (.inl nu)))] → va_S A s.heap H locs → W p l e _ s m _ below meth c H locs _ _ _ (F0 m 70 ls [])) _ cnt ln wh _ _ ls rfl (lv_sub hl [0, 1, 2, 3, 4] rfl) (by omega) (by rw [Nat.add_sub_cancel]; exact mR_st hM (fun j hj => itF_lt hj)) hP hD hS
            intro kk
            induction kk using Nat.strongRecOn with
            | ind kk70 ih70 =>
              intro k ln2 wh2 H locs ls hkk70 hl hk hR hP hD hS
              refine lv_iload hx hb dM_fixed_70 (lv_at hl 0 rfl) ?_
              refine lv_if_lt (tgt := 108) hx hb dM_fixed_72 (by decide) (fun h72 => ?_) (fun h72 => ?_)
              · rw [dn_0 (by omega)] at h72
                subst h72
                refine lv_aload_n hx hb dM_fixed_108 rfl (lv_at hl 1 rfl) ?_
                refine va_get (D := (dC, dI)) (ci := 2) (v := .ref ml) (C := RM) (T := TM) (N := 6) hx hb hw inM hown hK hP 0 rfl rfl 1 (by decide) (hw _ kw_387) (fun _ h9 => h9) rfl dM_fixed_109 ?_
                refine lv_iload_n hx hb dM_fixed_112 rfl (lv_at hl 2 rfl) ?_
                refine va_iald hx hb hK hP 1 0 rfl rfl (vp_in_nI (by omega) (by decide)) dM_fixed_113 ?_
                refine lv_topi (fun v113 e113 => ?_)
                rw [nI_clamp (by omega)] at e113
                obtain rfl : v113 = nI (ns f + cnt) := e113.trans (mR_ln hR hf)
                have hcd : cdFixed ns (nI f) (nI cnt) = 0 := by unfold cdFixed; first | (rw [h10]; rfl) | (rw [isF_nI hf, h22]; rfl) | (rw [isF_nI hf, isB_nI hc, hfi, hfk, Bool.true_and, if_pos rfl, if_pos (by omega)]) | (rw [isF_nI hf, isB_nI hc, hfi, hfk, Bool.true_and, if_pos rfl, if_neg (by omega)])
                exact W.iret (v := nI (ns f + cnt)) hx hb hr (fun t ht hW => ⟨⟨_, (), rfl, (by intro h0; first | exact absurd (hcd.symm.trans h0) (by decide) | (rw [hfi, hfk])), ln2, wh2, by rw [hcd, hfi, hfk]; exact hR, by rw [ht, hcd]; exact hP, va_K.moved hW.alike hK, by rw [hcd]; exact hD⟩, hS.F ht⟩) hS.2.2 dM_fixed_114
              · rw [dn_0 (by omega)] at h72
                have hnn : ns f + cnt - (k - 1) = ns f + cnt - k + 1 := by omega
                have hok1 : cw_ok (itF (its f) (ns f) cnt v) (ns f + cnt - k + 1) (wss f) := itF_ok hok (by omega) (by omega)
                have hnx : itF (its f) (ns f) cnt v (ns f + cnt - k) = bq v (k - 1) := by rw [itF_ge (by omega)]; congr 1; omega
                refine lv_aload_n hx hb dM_fixed_75 rfl (lv_at hl 1 rfl) ?_
                refine va_get (D := (dC, dI)) (ci := 2) (v := .ref mw) (C := RM) (T := TM) (N := 6) hx hb hw inM hown hK hP 0 rfl rfl 2 (by decide) (hw _ kw_388) (fun _ h9 => h9) rfl dM_fixed_76 ?_
                refine lv_bipush (v := nI 64) hx hb dM_fixed_79 (by decide +kernel) ?_
                refine lv_iload_n hx hb dM_fixed_81 rfl (lv_at hl 2 rfl) ?_
                refine lv_imul hx hb dM_fixed_82 ?_
                refine lv_topi (fun v82 e82 => ?_)
                obtain rfl : v82 = nI (64 * f) := e82.trans (pk_mul _ _)
                refine lv_aload_n hx hb dM_fixed_83 rfl (lv_at hl 1 rfl) ?_
                refine va_get (D := (dC, dI)) (ci := 2) (v := .ref ml) (C := RM) (T := TM) (N := 6) hx hb hw inM hown hK hP 0 rfl rfl 1 (by decide) (hw _ kw_387) (fun _ h9 => h9) rfl dM_fixed_84 ?_
                refine lv_iload_n hx hb dM_fixed_87 rfl (lv_at hl 2 rfl) ?_
                refine lv_dup2_11 hx hb dM_fixed_88 rfl rfl ?_
                refine va_iald hx hb hK hP 1 0 rfl rfl (vp_in_nI (by omega) (by decide)) dM_fixed_89 ?_
                refine lv_topi (fun v89 e89 => ?_)
                rw [nI_clamp (by omega)] at e89
                obtain rfl : v89 = nI (ns f + cnt - k) := e89.trans (mR_ln hR hf)
                refine lv_dup_x2 hx hb dM_fixed_90 rfl rfl rfl ?_
                refine lv_iconst (v := nI 1) hx hb dM_fixed_91 (by decide +kernel) ?_
                refine lv_iadd hx hb dM_fixed_92 ?_
                refine lv_topi (fun v92 e92 => ?_)
                obtain rfl : v92 = nI (ns f + cnt - k + 1) := e92.trans (nI_add _ _)
                refine va_iast hx hb hK hP hD hS 1 0 rfl rfl (vp_in_nI (by omega) (by decide)) dM_fixed_93 (fun H locs hP hD hS => ?_)
                rw [show (nI f).toNatClampNeg = f from nI_clamp (by omega)] at hP hD
                have hP : va_P (dC, dI) cls3 [(hm, .inr (2, [.int (nI 0), .ref ml, .ref mw, .ref mb, .ref ms, .ref mn])), (ml, .inl (cI, 8, .inl (upd ln2 f (nI (ns f + cnt - k + 1))))), (mw, .inl (cI, 512, .inl wh2)), (mb, .inl (cI, 48, .inl bi)), (ms, .inl (cZ, 48, .inl si)), (mn, .inl (cJ, 6, .inr (.inl nu)))] H := hP
                have hD : va_D A [(hm, .inr (2, [.int (nI 0), .ref ml, .ref mw, .ref mb, .ref ms, .ref mn])), (ml, .inl (cI, 8, .inl (upd ln2 f (nI (ns f + cnt - k + 1))))), (mw, .inl (cI, 512, .inl wh2)), (mb, .inl (cI, 48, .inl bi)), (ms, .inl (cZ, 48, .inl si)), (mn, .inl (cJ, 6, .inr (.inl nu)))] := hD
                refine lv_iadd hx hb dM_fixed_94 ?_
                refine lv_topi (fun v94 e94 => ?_)
                obtain rfl : v94 = nI (64 * f + (ns f + cnt - k)) := e94.trans (nI_add _ _)
                refine lv_lload_n hx hb dM_fixed_95 rfl (lv_at hl 4 rfl) ?_
                refine lv_iload hx hb dM_fixed_96 (lv_at hl 0 rfl) ?_
                refine lv_topi (fun w96 ew96 => ?_)
                obtain rfl : w96 = nI (k - 1) := ew96.trans (cw_m1 (by omega))
                refine vp_callSi (W.runS (As := [.long v, .int (nI (k - 1))]) (rest := [.int (nI (64 * f + (ns f + cnt - k))), .ref mw]) ⟨hx, hb, hml, hown, hw⟩ (c_M_bit l v (k - 1) (by omega)) (cwS 2 hw (gS kw_441 kw_442 kw_16 kw_443) rfl rfl rfl (by decide +kernel) ⟨Nat.le_of_ble_eq_true rfl, Nat.le_of_ble_eq_true rfl⟩) preEq rfl rfl hl.1 rfl (lv_room (Nat.le_of_ble_eq_true rfl)) dM_fixed_98 ⟨Nat.zero_le _, Nat.zero_le _⟩) (fun v98 e98 => ?_)
                obtain rfl : v98 = nI (itF (its f) (ns f) cnt v (ns f + cnt - k)) := e98.trans (by rw [hnx])
                refine va_iast hx hb hK hP hD hS 2 0 rfl rfl (vp_in_nI (by omega) (by decide)) dM_fixed_101 (fun H locs hP hD hS => ?_)
                rw [show (nI (64 * f + (ns f + cnt - k))).toNatClampNeg = (64 * f + (ns f + cnt - k)) from nI_clamp (by omega)] at hP hD
                have hP : va_P (dC, dI) cls3 [(hm, .inr (2, [.int (nI 0), .ref ml, .ref mw, .ref mb, .ref ms, .ref mn])), (ml, .inl (cI, 8, .inl (upd ln2 f (nI (ns f + cnt - k + 1))))), (mw, .inl (cI, 512, .inl (upd wh2 (64 * f + (ns f + cnt - k)) (nI (itF (its f) (ns f) cnt v (ns f + cnt - k)))))), (mb, .inl (cI, 48, .inl bi)), (ms, .inl (cZ, 48, .inl si)), (mn, .inl (cJ, 6, .inr (.inl nu)))] H := hP
                have hD : va_D A [(hm, .inr (2, [.int (nI 0), .ref ml, .ref mw, .ref mb, .ref ms, .ref mn])), (ml, .inl (cI, 8, .inl (upd ln2 f (nI (ns f + cnt - k + 1))))), (mw, .inl (cI, 512, .inl (upd wh2 (64 * f + (ns f + cnt - k)) (nI (itF (its f) (ns f) cnt v (ns f + cnt - k)))))), (mb, .inl (cI, 48, .inl bi)), (ms, .inl (cZ, 48, .inl si)), (mn, .inl (cJ, 6, .inr (.inl nu)))] := hD
                refine lv_iinc (k := 0) (v := nI (k - 1) - nI 1) hx hb dM_fixed_102 hl rfl (cw_dec (by omega)) (by decide) rfl (fun ls hl => ?_)
                have hl : lv_has ls 6 [(5, .int (nI (k - 1) - nI 1)), (0, .ref hm), (1, .int (nI f)), (2, .int (nI cnt)), (3, .long v)] := hl
                refine lv_goto (tgt := 70) hx hb dM_fixed_105 (by decide) ?_
                exact ih70 _ (by omega) (k - 1) (upd ln2 f (nI (ns f + cnt - k + 1))) (upd wh2 (64 * f + (ns f + cnt - k)) (nI (itF (its f) (ns f) cnt v (ns f + cnt - k)))) _ _ ls rfl (lv_sub (l' := [(5, .int (nI (k - 1) - nI 1)), (0, .ref hm), (1, .int (nI f)), (2, .int (nI cnt)), (3, .long v)]) hl [0, 1, 2, 3, 4] rfl) (by omega) (by rw [hnn]; exact mR_app hf hR hok1) hP hD hS
          · exfalso
            first | exact h60 (by decide +kernel) | exact absurd h60 (by decide +kernel)
        · rw [nI_leI (by omega) (by omega)] at h48
          refine lv_iconst (v := nI 1) hx hb dM_fixed_51 (by decide +kernel) ?_
          refine lv_goto (tgt := 56) hx hb dM_fixed_52 (by decide) ?_
          refine lv_iconst (v := nI 2) hx hb dM_fixed_56 (by decide +kernel) ?_
          have hPc := hP.sub (ws' := [(hm, .inr (2, [.int (nI 0), .ref ml, .ref mw, .ref mb, .ref ms, .ref mn])), (ml, .inl (cI, 8, .inl ln)), (mw, .inl (cI, 512, .inl wh)), (mb, .inl (cI, 48, .inl bi)), (ms, .inl (cZ, 48, .inl si)), (mn, .inl (cJ, 6, .inr (.inl nu)))]) [0, 1, 2, 3, 4, 5] rfl
          have hDc := hD.sub (ws' := [(hm, .inr (2, [.int (nI 0), .ref ml, .ref mw, .ref mb, .ref ms, .ref mn])), (ml, .inl (cI, 8, .inl ln)), (mw, .inl (cI, 512, .inl wh)), (mb, .inl (cI, 48, .inl bi)), (ms, .inl (cZ, 48, .inl si)), (mn, .inl (cJ, 6, .inr (.inl nu)))]) [0, 1, 2, 3, 4, 5] (by decide) rfl
          have hKc := hK.sub (tys' := [(cI, .int), (cZ, .boolean), (cJ, .long)]) [0, 1, 2] rfl
          have hFc := va_free (wc := [(hm, .inr (2, [.int (nI 0), .ref ml, .ref mw, .ref mb, .ref ms, .ref mn])), (ml, .inl (cI, 8, .inl ln)), (mw, .inl (cI, 512, .inl wh)), (mb, .inl (cI, 48, .inl bi)), (ms, .inl (cZ, 48, .inl si)), (mn, .inl (cJ, 6, .inr (.inl nu)))]) hD hS hA [0, 1, 2, 3, 4, 5] rfl
          refine va_calli (va_runV (As := [.int (nI 1), .int (nI 2)]) (rest := []) ⟨hx, hb, hml, hown, hw⟩ (c_M_fails1 l dC dI _ cI cZ cJ hm ml mw mb ms mn ln wh bi si nu 2 (by decide)) (cwV 2 hw (gV kw_420 kw_422 kw_5 kw_16 kw_423) rfl rfl rfl (by decide +kernel) ⟨Nat.le_of_ble_eq_true rfl, Nat.le_of_ble_eq_true rfl⟩) (rw_preV (q0 := 0) hKc hPc hDc rfl rfl) rfl rfl hl.1 rfl (lv_room (Nat.le_of_ble_eq_true rfl)) dM_fixed_57 ⟨Nat.zero_le _, Nat.zero_le _⟩) hS (fun q _ h => hFc q h) hFc (fun v57 u t H1 locs ht hvm e57 hB hz1 hk1 hS => ?_)
          obtain ⟨hP1, hK1, hD1⟩ := hB
          rw [ht] at hP1
          obtain ⟨hP, hD⟩ := va_join (wr := []) (w1 := [(hm, .inr (2, [.int (nI 2), .ref ml, .ref mw, .ref mb, .ref ms, .ref mn])), (ml, .inl (cI, 8, .inl ln)), (mw, .inl (cI, 512, .inl wh)), (mb, .inl (cI, 48, .inl bi)), (ms, .inl (cZ, 48, .inl si)), (mn, .inl (cJ, 6, .inr (.inl nu)))]) hP hD [0, 1, 2, 3, 4, 5] [] rfl rfl (by decide) (by decide) hk1 hFc hP1 hD1
          generalize H1 = H at hP hS ⊢
          have hP : va_P (dC, dI) cls3 [(hm, .inr (2, [.int (nI 2), .ref ml, .ref mw, .ref mb, .ref ms, .ref mn])), (ml, .inl (cI, 8, .inl ln)), (mw, .inl (cI, 512, .inl wh)), (mb, .inl (cI, 48, .inl bi)), (ms, .inl (cZ, 48, .inl si)), (mn, .inl (cJ, 6, .inr (.inl nu)))] H := hP
          have hD : va_D A [(hm, .inr (2, [.int (nI 2), .ref ml, .ref mw, .ref mb, .ref ms, .ref mn])), (ml, .inl (cI, 8, .inl ln)), (mw, .inl (cI, 512, .inl wh)), (mb, .inl (cI, 48, .inl bi)), (ms, .inl (cZ, 48, .inl si)), (mn, .inl (cJ, 6, .inr (.inl nu)))] := hD
          obtain rfl : v57 = nI 1 := e57
          refine lv_if_eq (tgt := 65) hx hb dM_fixed_60 (by decide) (fun h60 => ?_) (fun h60 => ?_)
          · exfalso
            first | exact h60 (by decide +kernel) | exact absurd h60 (by decide +kernel)
          · refine lv_iconst (v := nI 0) hx hb dM_fixed_63 (by decide +kernel) ?_
            have hcd : cdFixed ns (nI f) (nI cnt) = 2 := by unfold cdFixed; first | (rw [h10]; rfl) | (rw [isF_nI hf, h22]; rfl) | (rw [isF_nI hf, isB_nI hc, hfi, hfk, Bool.true_and, if_pos rfl, if_pos (by omega)]) | (rw [isF_nI hf, isB_nI hc, hfi, hfk, Bool.true_and, if_pos rfl, if_neg (by omega)])
            exact W.iret (v := nI 0) hx hb hr (fun t ht hW => ⟨⟨_, (), rfl, (by intro h0; first | exact absurd (hcd.symm.trans h0) (by decide) | (rw [hfi, hfk])), ln, wh, by rw [hcd]; exact hM, by rw [ht, hcd]; exact hP, va_K.moved hW.alike hK, by rw [hcd]; exact hD⟩, hS.F ht⟩) hS.2.2 dM_fixed_64
    · rw [b_nat0] at h22
      refine lv_iconst (v := nI 1) hx hb dM_fixed_25 (by decide +kernel) ?_
      refine lv_goto (tgt := 30) hx hb dM_fixed_26 (by decide) ?_
      refine lv_iconst (v := nI 1) hx hb dM_fixed_30 (by decide +kernel) ?_
      have hPc := hP.sub (ws' := [(hm, .inr (2, [.int (nI 0), .ref ml, .ref mw, .ref mb, .ref ms, .ref mn])), (ml, .inl (cI, 8, .inl ln)), (mw, .inl (cI, 512, .inl wh)), (mb, .inl (cI, 48, .inl bi)), (ms, .inl (cZ, 48, .inl si)), (mn, .inl (cJ, 6, .inr (.inl nu)))]) [0, 1, 2, 3, 4, 5] rfl
      have hDc := hD.sub (ws' := [(hm, .inr (2, [.int (nI 0), .ref ml, .ref mw, .ref mb, .ref ms, .ref mn])), (ml, .inl (cI, 8, .inl ln)), (mw, .inl (cI, 512, .inl wh)), (mb, .inl (cI, 48, .inl bi)), (ms, .inl (cZ, 48, .inl si)), (mn, .inl (cJ, 6, .inr (.inl nu)))]) [0, 1, 2, 3, 4, 5] (by decide) rfl
      have hKc := hK.sub (tys' := [(cI, .int), (cZ, .boolean), (cJ, .long)]) [0, 1, 2] rfl
      have hFc := va_free (wc := [(hm, .inr (2, [.int (nI 0), .ref ml, .ref mw, .ref mb, .ref ms, .ref mn])), (ml, .inl (cI, 8, .inl ln)), (mw, .inl (cI, 512, .inl wh)), (mb, .inl (cI, 48, .inl bi)), (ms, .inl (cZ, 48, .inl si)), (mn, .inl (cJ, 6, .inr (.inl nu)))]) hD hS hA [0, 1, 2, 3, 4, 5] rfl
      refine va_calli (va_runV (As := [.int (nI 1), .int (nI 1)]) (rest := []) ⟨hx, hb, hml, hown, hw⟩ (c_M_fails1 l dC dI _ cI cZ cJ hm ml mw mb ms mn ln wh bi si nu 1 (by decide)) (cwV 2 hw (gV kw_420 kw_422 kw_5 kw_16 kw_423) rfl rfl rfl (by decide +kernel) ⟨Nat.le_of_ble_eq_true rfl, Nat.le_of_ble_eq_true rfl⟩) (rw_preV (q0 := 0) hKc hPc hDc rfl rfl) rfl rfl hl.1 rfl (lv_room (Nat.le_of_ble_eq_true rfl)) dM_fixed_31 ⟨Nat.zero_le _, Nat.zero_le _⟩) hS (fun q _ h => hFc q h) hFc (fun v31 u t H1 locs ht hvm e31 hB hz1 hk1 hS => ?_)
      obtain ⟨hP1, hK1, hD1⟩ := hB
      rw [ht] at hP1
      obtain ⟨hP, hD⟩ := va_join (wr := []) (w1 := [(hm, .inr (2, [.int (nI 1), .ref ml, .ref mw, .ref mb, .ref ms, .ref mn])), (ml, .inl (cI, 8, .inl ln)), (mw, .inl (cI, 512, .inl wh)), (mb, .inl (cI, 48, .inl bi)), (ms, .inl (cZ, 48, .inl si)), (mn, .inl (cJ, 6, .inr (.inl nu)))]) hP hD [0, 1, 2, 3, 4, 5] [] rfl rfl (by decide) (by decide) hk1 hFc hP1 hD1
      generalize H1 = H at hP hS ⊢
      have hP : va_P (dC, dI) cls3 [(hm, .inr (2, [.int (nI 1), .ref ml, .ref mw, .ref mb, .ref ms, .ref mn])), (ml, .inl (cI, 8, .inl ln)), (mw, .inl (cI, 512, .inl wh)), (mb, .inl (cI, 48, .inl bi)), (ms, .inl (cZ, 48, .inl si)), (mn, .inl (cJ, 6, .inr (.inl nu)))] H := hP
      have hD : va_D A [(hm, .inr (2, [.int (nI 1), .ref ml, .ref mw, .ref mb, .ref ms, .ref mn])), (ml, .inl (cI, 8, .inl ln)), (mw, .inl (cI, 512, .inl wh)), (mb, .inl (cI, 48, .inl bi)), (ms, .inl (cZ, 48, .inl si)), (mn, .inl (cJ, 6, .inr (.inl nu)))] := hD
      obtain rfl : v31 = nI 1 := e31
      refine lv_if_ne (tgt := 63) hx hb dM_fixed_34 (by decide) (fun h34 => ?_) (fun h34 => ?_)
      · refine lv_iconst (v := nI 0) hx hb dM_fixed_63 (by decide +kernel) ?_
        have hcd : cdFixed ns (nI f) z = 1 := by unfold cdFixed; first | (rw [h10]; rfl) | (rw [isF_nI hf, h22]; rfl) | (rw [isF_nI hf, isB_nI hc, hfi, hfk, Bool.true_and, if_pos rfl, if_pos (by omega)]) | (rw [isF_nI hf, isB_nI hc, hfi, hfk, Bool.true_and, if_pos rfl, if_neg (by omega)])
        exact W.iret (v := nI 0) hx hb hr (fun t ht hW => ⟨⟨_, (), rfl, (by intro h0; first | exact absurd (hcd.symm.trans h0) (by decide) | (rw [hfi, hfk])), ln, wh, by rw [hcd]; exact hM, by rw [ht, hcd]; exact hP, va_K.moved hW.alike hK, by rw [hcd]; exact hD⟩, hS.F ht⟩) hS.2.2 dM_fixed_64
      · exfalso
        first | exact h34 (by decide +kernel) | exact absurd h34 (by decide +kernel)
