/-! the class's object as a whole: eight forms -/
def fc (cI cZ : ClassId) (ha pw ps po pk ns : Nat → Nat) (wd sg ow co : Nat → Nat → Int32) (i : Nat) : va_W :=
  [(ha i, .inr (0, [.ref (pw i), .ref (ps i), .ref (po i), .ref (pk i), .int (nI (ns i))])), (pw i, .inl (cI, 6, .inl (wd i))), (ps i, .inl (cZ, 6, .inl (sg i))), (po i, .inl (cI, 64, .inl (ow i))), (pk i, .inl (cI, 64, .inl (co i)))]
def fl (F : Nat → va_W) : Nat → va_W
  | 0 => []
  | k + 1 => fl F k ++ F k
theorem fl_len {F : Nat → va_W} (h : ∀ i, (F i).length = 5) : ∀ k, (fl F k).length = 5 * k := by
  intro k
  induction k with
  | zero => rfl
  | succ k ih => simp only [fl, List.length_append, ih, h]; omega
theorem fl_get {F : Nat → va_W} (h : ∀ i, (F i).length = 5) : ∀ k i r, i < k → r < 5 → (fl F k)[5 * i + r]? = (F i)[r]? := by
  intro k
  induction k with
  | zero => intro i r hi; omega
  | succ k ih =>
    intro i r hi hr
    simp only [fl]
    by_cases e : i = k
    · subst e
      rw [List.getElem?_append_right (by rw [fl_len h]; omega), fl_len h, show 5 * i + r - 5 * i = r by omega]
    · rw [List.getElem?_append_left (by rw [fl_len h]; omega)]
      exact ih i r (by omega) hr
theorem fl_at {F : Nat → va_W} (h : ∀ i, (F i).length = 5) {k j : Nat} {q : Nat × va_E} (hq : (fl F k)[j]? = some q) : ∃ i r, i < k ∧ r < 5 ∧ j = 5 * i + r ∧ (F i)[r]? = some q := by
  have hj : j < 5 * k := by
    have := (List.getElem?_eq_some_iff.mp hq).1
    rw [fl_len h] at this; exact this
  refine ⟨j / 5, j % 5, by omega, by omega, by omega, ?_⟩
  rw [← fl_get h k (j / 5) (j % 5) (by omega) (by omega), show 5 * (j / 5) + j % 5 = j by omega]
  exact hq
section WX
variable {D : va_G} {cl : List vw_C} {H H1 : Heap} {A : Nat → Prop} {F : Nat → va_W} {b0 b1 b2 b3 : Nat × va_E} {i : Nat} {F' : va_W}
theorem wx_i (hF : ∀ i, (F i).length = 5) (hi : i < 8) {r : Nat} {q : Nat × va_E} (hq : (F i)[r]? = some q) : ([b0, b1, b2, b3] ++ fl F 8)[4 + (5 * i + r)]? = some q := by
  have hr : r < 5 := by have := (List.getElem?_eq_some_iff.mp hq).1; rw [hF] at this; exact this
  rw [List.getElem?_append_right (by simp), show 4 + (5 * i + r) - [b0, b1, b2, b3].length = 5 * i + r by simp, fl_get hF 8 i r hi hr]
  exact hq
theorem wx_b {k : Nat} {q : Nat × va_E} (hq : [b0, b1, b2, b3][k]? = some q) : ([b0, b1, b2, b3] ++ fl F 8)[k]? = some q := by
  have := (List.getElem?_eq_some_iff.mp hq).1
  rw [List.getElem?_append_left this]; exact hq
/-- the cells of one form -/
theorem wx_F (hF : ∀ i, (F i).length = 5) (hi : i < 8) (h : va_P D cl ([b0, b1, b2, b3] ++ fl F 8) H) : va_P D cl (F i) H := fun r q hq => h _ q (wx_i hF hi hq)
theorem wx_B (h : va_P D cl ([b0, b1, b2, b3] ++ fl F 8) H) : va_P D cl [b0, b1, b2, b3] H := fun k q hq => h k q (wx_b hq)
theorem wx_DF (hF : ∀ i, (F i).length = 5) (hi : i < 8) (h : va_D A ([b0, b1, b2, b3] ++ fl F 8)) : va_D A (F i) := by
  refine ⟨fun a b p q hp hq e => ?_, fun r q hq => h.2 _ q (wx_i hF hi hq)⟩
  have := h.1 _ _ p q (wx_i hF hi hp) (wx_i hF hi hq) e
  omega
theorem wx_DB (h : va_D A ([b0, b1, b2, b3] ++ fl F 8)) : va_D A [b0, b1, b2, b3] :=
  ⟨fun a b p q hp hq e => h.1 a b p q (wx_b hp) (wx_b hq) e, fun k q hq => h.2 k q (wx_b hq)⟩
theorem wx_D2 (hF : ∀ i, (F i).length = 5) (hi : i < 8) (h : va_D A ([b0, b1, b2, b3] ++ fl F 8)) : va_D A ([b0, b1] ++ F i) := by
  refine va_D.app ((wx_DB h).sub [0, 1] (by decide) rfl) (wx_DF hF hi h) (fun a b p q hp hq e => ?_)
  have ha : a < 2 := (List.getElem?_eq_some_iff.mp hp).1
  have hp' : ([b0, b1, b2, b3] ++ fl F 8)[a]? = some p := wx_b (by
    match a, ha with
    | 0, _ => exact hp
    | 1, _ => exact hp)
  have := h.1 _ _ p q hp' (wx_i hF hi hq) e
  omega
theorem D_congr {ws ws' : va_W} (h : va_D A ws) (e : ws'.map (·.1) = ws.map (·.1)) : va_D A ws' := by
  have key : ∀ (k : Nat) (p : Nat × va_E), ws'[k]? = some p → ∃ q : Nat × va_E, ws[k]? = some q ∧ q.1 = p.1 := by
    intro k p hp
    have h1 : (ws'.map (·.1))[k]? = some p.1 := by rw [List.getElem?_map, hp]; rfl
    rw [e, List.getElem?_map] at h1
    cases hq : ws[k]? with
    | none => rw [hq] at h1; cases h1
    | some q => rw [hq] at h1; exact ⟨q, rfl, Option.some.inj h1⟩
  refine ⟨fun a b p q hp hq e2 => ?_, fun k q hq => ?_⟩
  · obtain ⟨p', g1, g2⟩ := key a p hp
    obtain ⟨q', g3, g4⟩ := key b q hq
    exact h.1 a b p' q' g1 g3 (by rw [g2, g4]; exact e2)
  · obtain ⟨q', g1, g2⟩ := key k q hq
    rw [← g2]; exact h.2 k q' g1
theorem fl_fst {F G : Nat → va_W} (h : ∀ i, (F i).map (·.1) = (G i).map (·.1)) : ∀ k, (fl F k).map (·.1) = (fl G k).map (·.1) := by
  intro k
  induction k with
  | zero => rfl
  | succ k ih => simp only [fl, List.map_append, ih, h]
/-- a call that wrote the cells of form i alone -/
theorem wx_join (hF : ∀ i, (F i).length = 5) (hi : i < 8) (hP : va_P D cl ([b0, b1, b2, b3] ++ fl F 8) H) (hD : va_D A ([b0, b1, b2, b3] ++ fl F 8)) (hk : ∀ q : Nat, q < H.size → ¬ va_A ([b0, b1] ++ F i) H.size q → H1[q]? = H[q]?)
    (hP1 : va_P D cl ([b0, b1] ++ F') H1) (hF' : F'.map (·.1) = (F i).map (·.1)) : va_P D cl ([b0, b1, b2, b3] ++ fl (va_up F i F') 8) H1 ∧ va_D A ([b0, b1, b2, b3] ++ fl (va_up F i F') 8) := by
  have hl' : F'.length = 5 := by have := congrArg List.length hF'; simp only [List.length_map] at this; rw [this]; exact hF i
  have hU : ∀ j, (va_up F i F' j).length = 5 := fun j => by
    by_cases e : j = i
    · rw [e, va_up_self]; exact hl'
    · rw [va_up_ne _ _ e]; exact hF j
  -- a cell at a place outside the callee's stays
  have out : ∀ (k : Nat) (q : Nat × va_E), ([b0, b1, b2, b3] ++ fl F 8)[k]? = some q → k ≠ 0 → k ≠ 1 → (∀ r, r < 5 → k ≠ 4 + (5 * i + r)) → va_at D cl q H1 := by
    intro k q hq h0 h1 hr
    have hat := hP k q hq
    refine hat.kept (hk _ hat.lt (fun z => ?_))
    rcases z with ⟨j, e, hj⟩ | z
    · by_cases hj2 : j < 2
      · have hp' : ([b0, b1, b2, b3] ++ fl F 8)[j]? = some (q.1, e) := by
          rw [List.getElem?_append_left (by simp; omega)] at hj
          refine wx_b ?_
          match j, hj2 with
          | 0, _ => exact hj
          | 1, _ => exact hj
        have := hD.1 _ _ _ _ hq hp' rfl
        omega
      · rw [List.getElem?_append_right (by simp; omega)] at hj
        have hj5 := (List.getElem?_eq_some_iff.mp hj).1
        rw [hF] at hj5
        have := hD.1 _ _ _ _ hq (wx_i (b0 := b0) (b1 := b1) (b2 := b2) (b3 := b3) hF hi hj) rfl
        exact hr _ hj5 this
    · have := hat.lt
      omega
  constructor
  · intro k q hq
    by_cases hk4 : k < 4
    · rw [List.getElem?_append_left (by simpa using hk4)] at hq
      have hq' := wx_b (F := F) hq
      match k, hk4 with
      | 0, _ => exact hP1 0 q (by rw [List.getElem?_append_left (by simp)]; exact hq)
      | 1, _ => exact hP1 1 q (by rw [List.getElem?_append_left (by simp)]; exact hq)
      | 2, _ => exact out 2 q hq' (by omega) (by omega) (fun r _ => by omega)
      | 3, _ => exact out 3 q hq' (by omega) (by omega) (fun r _ => by omega)
    · rw [List.getElem?_append_right (by simpa using hk4)] at hq
      obtain ⟨j, r, hj, hr, e, hq⟩ := fl_at hU hq
      by_cases ej : j = i
      · subst ej
        rw [va_up_self] at hq
        exact hP1 (2 + r) q (by rw [List.getElem?_append_right (by simp)]; simp only [List.length_cons, List.length_nil]; rw [show 2 + r - (0 + 1 + 1) = r by omega]; exact hq)
      · rw [va_up_ne _ _ ej] at hq
        refine out (4 + (5 * j + r)) q (wx_i hF hj hq) (by omega) (by omega) (fun r' hr' => by omega)
  · refine D_congr hD ?_
    simp only [List.map_append]
    congr 1
    refine fl_fst (fun j => ?_) 8
    by_cases e : j = i
    · rw [e, va_up_self]; exact hF'
    · rw [va_up_ne _ _ e]
/-- only new cells came -/
theorem P_grow {ws : va_W} (h : va_P D cl ws H) (hk : ∀ z : Nat, z < H.size → H1[z]? = H[z]?) : va_P D cl ws H1 := fun k q hq => (h k q hq).kept (hk _ (h k q hq).lt)
theorem S_grow {A : Nat → Prop} {H0 : Heap} {locs : List Loc} (hS : va_S A H0 H locs) (h1 : H.size ≤ H1.size) (hk : ∀ z : Nat, z < H.size → H1[z]? = H[z]?) : va_S A H0 H1 locs :=
  ⟨Nat.le_trans hS.1 h1, fun q g1 g2 => by rw [hk q (Nat.lt_of_lt_of_le g1 hS.1)]; exact hS.2.1 q g1 g2, hS.2.2⟩
end WX
theorem fc_len (cI cZ : ClassId) (ha pw ps po pk ns : Nat → Nat) (wd sg ow co : Nat → Nat → Int32) : ∀ i, (fc cI cZ ha pw ps po pk ns wd sg ow co i).length = 5 := fun _ => rfl
theorem fc_up {cI cZ : ClassId} {ha pw ps po pk ns : Nat → Nat} {wd sg ow co : Nat → Nat → Int32} (f n : Nat) (wd' sg' ow' co' : Nat → Int32) :
    va_up (fc cI cZ ha pw ps po pk ns wd sg ow co) f [(ha f, .inr (0, [.ref (pw f), .ref (ps f), .ref (po f), .ref (pk f), .int (nI n)])), (pw f, .inl (cI, 6, .inl wd')), (ps f, .inl (cZ, 6, .inl sg')), (po f, .inl (cI, 64, .inl ow')), (pk f, .inl (cI, 64, .inl co'))]
      = fc cI cZ ha pw ps po pk (va_up ns f n) (va_up wd f wd') (va_up sg f sg') (va_up ow f ow') (va_up co f co') := by
  funext i
  by_cases e : i = f
  · subst e; rw [va_up_self]; simp only [fc, va_up_self]
  · rw [va_up_ne _ _ e]; simp only [fc, va_up_ne _ _ e]
theorem va_up_id {α : Type} (g : Nat → α) (f : Nat) : va_up g f (g f) = g := by
  funext i
  by_cases e : i = f
  · rw [e, va_up_self]
  · rw [va_up_ne _ _ e]
def xR (ns : Nat → Nat) (its wss : Nat → Nat → Nat) (sbs : Nat → Nat → Bool) (wd sg ow co : Nat → Nat → Int32) : Prop := ∀ f, f < 8 → fR (ns f) (its f) (wss f) (sbs f) (wd f) (sg f) (ow f) (co f)
theorem xR_up {ns : Nat → Nat} {its wss : Nat → Nat → Nat} {sbs : Nat → Nat → Bool} {wd sg ow co : Nat → Nat → Int32} {f n : Nat} {it w : Nat → Nat} {sb : Nat → Bool} {wd' sg' ow' co' : Nat → Int32} (h : xR ns its wss sbs wd sg ow co) (h' : fR n it w sb wd' sg' ow' co') :
    xR (va_up ns f n) (va_up its f it) (va_up wss f w) (va_up sbs f sb) (va_up wd f wd') (va_up sg f sg') (va_up ow f ow') (va_up co f co') := by
  intro g hg
  by_cases e : g = f
  · subst e; simp only [va_up_self]; exact h'
  · simp only [va_up_ne _ _ e]; exact h g hg
/-- what the law's helpers need beside: which exception is no kind of which -/
def lN9 (U : State) : Prop := va_Nc eIS eIA U ∧ va_Nc eIX eIA U ∧ va_Nc eAR eIA U ∧ va_Nc eAR eIS U ∧ va_Nc eIS eIX U
theorem lN9.moved {u U : State} (hvm : u.vm.Alike U.vm) (h : lN9 u) : lN9 U := ⟨va_Nc.moved hvm h.1, va_Nc.moved hvm h.2.1, va_Nc.moved hvm h.2.2.1, va_Nc.moved hvm h.2.2.2.1, va_Nc.moved hvm h.2.2.2.2⟩
section LPC
variable {s : State} {H : Heap} {D : va_G} {cl : List vw_C} {ws : va_W} {tys : List (ClassId × FieldType)} {sz : Nat} {As av : List Value} {A : Nat → Prop} {sa : Nat → Nat}
def xl_Pc (sa : Nat → Nat) (D : va_G) (cl : List vw_C) (ws : va_W) (tys : List (ClassId × FieldType)) (sz : Nat) (av : List Value) : Array Value → State → Prop := va_Pc av (fun U => U.heap.size = sz ∧ va_P D cl ws U.heap ∧ va_K D cl tys U ∧ va_D (fun _ => True) ws ∧ xV sa U ∧ xZ U U.heap ∧ lN9 U)
theorem xl_blind : FrameBlind (xl_Pc sa D cl ws tys sz av) := fun a U g mk q => ⟨q.1, q.2.1, q.2.2.1, va_K.moved (u := U) (U := U.calling g mk a) (Vm.Alike.refl U.vm) q.2.2.2.1, q.2.2.2.2.1, xV.same (u := U) (U := U.calling g mk a) rfl q.2.2.2.2.2.1, xZ.moved (u := U) (U := U.calling g mk a) (Vm.Alike.refl U.vm) q.2.2.2.2.2.2.1, lN9.moved (u := U) (U := U.calling g mk a) (Vm.Alike.refl U.vm) q.2.2.2.2.2.2.2⟩
theorem xl_preS (hK : va_K D cl tys s) (hP : va_P D cl ws H) (hD : va_D A ws) (hV : xV sa s) (hZ : xZ s H) (hN : lN9 s) : PreS s H (xl_Pc sa D cl ws tys H.size As) As :=
  ⟨xl_blind, fun U hU hW => ⟨rfl, by rw [hU], by rw [hU]; exact hP, va_K.moved hW.alike hK, hD.weaken (fun _ _ _ _ => trivial), hV.warm hW, by rw [hU]; exact hZ.moved hW.alike, hN.moved hW.alike⟩⟩
end LPC
section LTAB
/-- the table of a method that has one -/
theorem tx_table {p : Program} {l : Launch} {y : MethodName} {ws : List Cond} {rm : Room} {cc : ByteArray} {maxL : Nat} {ret : Option FieldType} {e : Env} {s s₁ : State} {m : MethodId} {args : Array Value} {below : List Frame} {meth : Method} {c : Code} {hh : List (Nat × Nat × Nat × Nat)}
    (B : BodyLoose p l y (headSpec ws rm) cc maxL ret e s m args below meth c s₁) (h : (Cond.codeWith y cc maxL ret hh).before args s = true) : c.exceptionTable.toList = tableOf hh := by
  obtain ⟨m9, me, co, hn9, h1, h2, -, -, h5, -, -, -⟩ := Cond.codeWith_spec h
  cases Option.some.inj (B.named.symm.trans hn9)
  have X : Stand p l e (headSpec ws rm).room s m args below meth c s₁ [] 0 0 := Stand.of_body B
  cases Option.some.inj (X.method.symm.trans h1)
  cases Option.some.inj (X.code.symm.trans h2)
  rw [← table_eq c.exceptionTable.toList, h5]
variable {p : Program} {l : Launch} {e : Env} {R : Room} {s : State} {m : MethodId} {args : Array Value} {below : List Frame} {meth : Method} {c : Code} {H : Heap} {locs : List Loc} {cells slots : Nat}
/-- invokestatic of a method with a table of its own -/
theorem sw_run {y : MethodName} {bytes cc : ByteArray} {maxL nL mc ms n index : Nat} {ret : Option FieldType} {hh : List (Nat × Nat × Nat × Nat)} {ws : List Cond} {rm : Room} {Pc : Array Value → State → Prop} {Qc : Array Value → State → Outcome → State → Prop} {free : Addr → Prop} {Ts : List Cond} {own : String} {As rest : List Value} {g : JFrame}
    (S : CallFix p m c cc nL s args Ts own) (hM : Met l y ws rm Pc Qc mc ms free) (hrc : rm.cells = mc) (hrs : rm.slots = ms) (hR : rm.frames + 1 ≤ R.frames ∧ 8 + (maxL + 11) + rm.locals ≤ R.locals)
    (hws : ∀ w ∈ ws, ∀ (a' : Array Value) (U : State), s.WarmedH U.vm → w.before a' U = true) (hcw : Cond.codeWith y bytes maxL ret hh ∈ ws) (hini : (Cond.initialized y.cls).before args s = true) (hl : (Cond.methodLink own index y).before args s = true) (hst : (Cond.static y).before args s = true)
    (hd : y.cls ≠ "java/lang/invoke/MethodHandle" ∧ y.cls ≠ "java/lang/invoke/VarHandle" ∧ (parseMethodDescriptor y.desc).map (fun d => d.parameters.length) = some n) (hp : PreS s H Pc As)
    (hg : g.method = m) (hn : As.length = n) (hsize : g.locals.size = nL) (hstack : g.stack = As.reverse ++ rest) (hW : 2 * g.monitorRoom + (rest.map fun v => v.category).sum ≤ 8) (hdg : decode cc g.pc = .ok (.invokestatic index, 3)) (hf : cells + mc ≤ R.cells ∧ slots + ms ≤ R.slots) :
    va_Run p l e R s m args below meth c H locs cells slots mc ms g rest (Qc As.toArray) free := by
  have hK : Back l R p e below s args y 3 8 (PreOf R mc ms Pc) (PostOf Qc mc ms free) := va_backW (hh := hh) (bytes := bytes) (maxL := maxL) (ret := ret) hM hp.1 hrc hrs hR.1 hR.2 hws hcw (fun a' U hW => word_at hW (Or.inl (by first | rfl | simp [Cond.onTables, Cond.keeps, Cond.steady])) hini)
  obtain ⟨hx, hb, hml, ho, -⟩ := S
  intro T hT X
  have hcode : (Cond.codeWith y bytes maxL ret hh).before args s = true := hws _ hcw args s (State.WarmedH.refl s)
  obtain ⟨mk, methM, cM, hnamed, hmethM, -, -, -, -, -, -, hsigM⟩ := Cond.codeWith_spec hcode
  have hstatic : methM.isStatic = true := Cond.static_spec hnamed hmethM hst
  obtain ⟨kP, hkP, -⟩ := className_of_methodNamed hnamed
  have hinitP : kP.init = .initialized := Cond.initialized_spec (findClass_of_methodNamed hnamed) hkP hini
  have hlen : As.length = methM.sig.parameters.length := by
    have h2 := hd.2.2
    rw [hsigM] at h2
    rw [hn]; exact (Option.some.inj h2).symm
  obtain ⟨vm₁, X₁, hstep₁⟩ := X.invokestatic hx ho hl hnamed hmethM hstatic hkP hinitP ⟨hd.1, hd.2.1⟩ (g := g) hg (argsL := As) (rest := rest) hlen hstack (by rw [hb]; exact hdg)
  obtain ⟨v, ⟨U', l2, c2, s2⟩, X', ⟨g', mk', t, L, e1, e2, hq, h1, hL, h2, h3⟩, hsteps⟩ := hK m meth c ⟨T.setVm vm₁, locs, cells, slots⟩ { g with stack := rest } (.invokestatic index) mk As.toArray X₁ hg (hsize.trans hml.symm) (by rw [hb]; exact hdg) hW (X₁.named hnamed) ⟨hf.1, hf.2, hp.2 (T.setVm vm₁) hT X₁.warmed⟩
  dsimp only [Pt.U, Pt.locs, Pt.cells, Pt.slots] at X' e1 e2 h1 h2 h3 hsteps
  subst h1; subst h2; subst h3
  exact ⟨v, (T.setVm vm₁).calling g' mk' As.toArray, t, U', L, hT, X', hL, e1, e2, hq, fun target h => hstep₁ _ fun acts => by rw [doInvoke_state]; exact hsteps.trans h⟩
end LTAB
