abbrev eIA : String := "java/lang/IllegalArgumentException"
abbrev eIS : String := "java/lang/IllegalStateException"
abbrev eIX : String := "java/lang/IndexOutOfBoundsException"
abbrev eAR : String := "java/lang/ArithmeticException"
abbrev eUp : List String := ["java/lang/RuntimeException", "java/lang/Exception"]
abbrev sU : String := "UNASSIGNED_STACK"
abbrev sN : String := "SUPPRESSED_SENTINEL"
def hWs : List Cond := [.isRef (.static Bundle.tN sU Bundle.steD), .isRef (.static Bundle.tN sN Bundle.listD), .laysStatic Bundle.tN sU Bundle.steD, .laysStatic Bundle.tN sN Bundle.listD]
abbrev xWs : List Cond := [.castable eIA eIA, .castable eIS eIS, .castable eIX eIX, .castable eAR eAR, .declares (Bundle.initS "java/lang/RuntimeException"), .declares (Bundle.initS "java/lang/Exception"), .declares (Bundle.initS Bundle.tN), .fieldLinkNest "SliceCoder" 70 "SliceCoder$Form" "widths" "[I" "SliceCoder", .fieldLinkNest "SliceCoder" 57 "SliceCoder$Form" "length" "I" "SliceCoder"]
abbrev xStr : List (Nat × String) := [(140, "form is not 0..7"), (144, "operand is not 0..5"), (146, "n is not 1..64"), (40, "the form has this operand"), (148, "there would be more than 64 bits"), (142, "the form has no such operand"), (67, "high is below low"), (76, "the operand has no such bits"), (83, "one of the bits is in the word"), (150, "the form is not whole"), (107, "a number does not fit"), (118, "the word is not of the form"), (138, "what is not 0..3")]
theorem og_IA : ∀ w ∈ (Bundle.ownAtoms RX 69 eIA eUp).filter goodWord, w ∈ lw_tbl := by decide +kernel
theorem on_IA : ∀ w ∈ (Bundle.ownAtoms RX 69 eIA eUp).filter (fun w => !goodWord w), w ∈ xWs ∨ w ∈ hWs := by decide +kernel
theorem og_IS : ∀ w ∈ (Bundle.ownAtoms RX 42 eIS eUp).filter goodWord, w ∈ lw_tbl := by decide +kernel
theorem on_IS : ∀ w ∈ (Bundle.ownAtoms RX 42 eIS eUp).filter (fun w => !goodWord w), w ∈ xWs ∨ w ∈ hWs := by decide +kernel
theorem og_IX : ∀ w ∈ (Bundle.ownAtoms RX 78 eIX eUp).filter goodWord, w ∈ lw_tbl := by decide +kernel
theorem on_IX : ∀ w ∈ (Bundle.ownAtoms RX 78 eIX eUp).filter (fun w => !goodWord w), w ∈ xWs ∨ w ∈ hWs := by decide +kernel
theorem og_AR : ∀ w ∈ (Bundle.ownAtoms RX 109 eAR eUp).filter goodWord, w ∈ lw_tbl := by decide +kernel
theorem on_AR : ∀ w ∈ (Bundle.ownAtoms RX 109 eAR eUp).filter (fun w => !goodWord w), w ∈ xWs ∨ w ∈ hWs := by decide +kernel
/-- a static reference of Throwable lies in its cell -/
def tzS (n d : String) (U : State) (H : Heap) : Prop := ∃ (c : ClassId) (k : Class) (i : Nat) (f : Field) (a : Nat) (cell : Cell) (v : Value), U.vm.findClass Bundle.tN = some c ∧ U.fieldFound? Bundle.tN n d = some (c, k, i, f) ∧ f.isStatic = true ∧ k.statics = some a ∧ H[a]? = some cell ∧ cell.vm.isStatics = true ∧ cell.cls = c ∧ f.slot < cell.slots.size ∧ k.staticTypes[f.slot]? = some f.type ∧ cell.slots[f.slot]? = some v ∧ v.isRef = true
theorem tzS.moved {n d : String} {u U : State} {H : Heap} (hvm : u.vm.Alike U.vm) (h : tzS n d u H) : tzS n d U H := by
  obtain ⟨c, k, i, f, a, cell, v, h1, h2, h3, h4, h5, h6, h7, h8, h9, h10, h11⟩ := h
  obtain ⟨k', hi', he⟩ := State.fieldFound?_setVm hvm h2
  exact ⟨c, k', i, f, a, cell, v, by rw [hvm.findClass]; exact h1, hi', h3, by rw [he]; exact h4, h5, h6, h7, h8, by rw [he]; exact h9, h10, h11⟩
theorem tzS.kept {n d : String} {U : State} {H H1 : Heap} (h : tzS n d U H) (hq : ∀ z : Nat, z < H.size → H1[z]? = H[z]?) : tzS n d U H1 := by
  obtain ⟨c, k, i, f, a, cell, v, h1, h2, h3, h4, h5, h6, h7, h8, h9, h10, h11⟩ := h
  exact ⟨c, k, i, f, a, cell, v, h1, h2, h3, h4, by rw [hq a (Array.getElem?_eq_some_iff.mp h5).1]; exact h5, h6, h7, h8, h9, h10, h11⟩
theorem tzS.lays {n d : String} {s : State} {args : Array Value} (h : tzS n d s s.heap) : (Cond.laysStatic Bundle.tN n d).before args s = true := by
  obtain ⟨c, k, i, f, a, cell, v, h1, h2, h3, h4, h5, h6, h7, h8, h9, h10, h11⟩ := h
  show (Cond.laysStatic Bundle.tN n d).holds args s none s [] = true
  exact Cond.laysStatic_of h1 h2 h3 h4 h5 h6 h7 h8 h9
theorem tzS.ref {n d : String} {s : State} {args : Array Value} (h : tzS n d s s.heap) : (Cond.isRef (.static Bundle.tN n d)).before args s = true := by
  obtain ⟨c, k, i, f, a, cell, v, h1, h2, h3, h4, h5, h6, h7, h8, h9, h10, h11⟩ := h
  have he : (Term.static Bundle.tN n d).eval args s none [] s = some v := by
    simp [Term.eval, State.fieldNamed?, h2, h3, h4, h5, h6, h10]
  simp only [Cond.before, Cond.holds, Cond.value, he]
  cases v <;> simp_all [Value.isRef]
theorem tzS.of {n d : String} {s : State} {args : Array Value} (hl : (Cond.laysStatic Bundle.tN n d).before args s = true) (hini : (Cond.initialized Bundle.tN).before args s = true) (hr : (Cond.isRef (.static Bundle.tN n d)).before args s = true) : tzS n d s s.heap := by
  obtain ⟨c, k, i, f, a, cell, h1, h2, h3, h4, h5, h6, h7, h8, h9⟩ := Cond.laysStatic_spec hl
  rcases va_Zqof (A := fun _ => False) hl hini hr (fun _ _ h => h) with ⟨cf, kf, fi, f', a', cell', g1, g2, g3, g4, g5, g6, g7, -⟩ | ⟨t, cf, kf, fi, f', a', cell', g1, g2, g3, g4, g5, g6, g7, -⟩
  · cases Option.some.inj (h2.symm.trans g1)
    cases Option.some.inj (h4.symm.trans g4)
    cases Option.some.inj (h5.symm.trans g5)
    exact ⟨c, k, i, f, a, cell, _, h1, h2, h3, h4, h5, h6, h7, h8, h9, g7, rfl⟩
  · cases Option.some.inj (h2.symm.trans g1)
    cases Option.some.inj (h4.symm.trans g4)
    cases Option.some.inj (h5.symm.trans g5)
    exact ⟨c, k, i, f, a, cell, _, h1, h2, h3, h4, h5, h6, h7, h8, h9, g7, rfl⟩
/-- what the tables and the heap say for the class's throws -/
def xV (sa : Nat → Nat) (U : State) : Prop := (∀ w ∈ xWs, va_Nw w U) ∧ ∀ (i : Nat) (q : Nat × String), xStr[i]? = some q → vk_R RX q.1 q.2 (sa i) U
def xZ (U : State) (H : Heap) : Prop := tzS sU Bundle.steD U H ∧ tzS sN Bundle.listD U H
theorem xZ.moved {u U : State} {H : Heap} (hvm : u.vm.Alike U.vm) (h : xZ u H) : xZ U H := ⟨h.1.moved hvm, h.2.moved hvm⟩
theorem xZ.kept {U : State} {H H1 : Heap} (h : xZ U H) (hq : ∀ z : Nat, z < H.size → H1[z]? = H[z]?) : xZ U H1 := ⟨h.1.kept hq, h.2.kept hq⟩
theorem xWs_on : ∀ w ∈ xWs, w.onTables = true := by decide +kernel
theorem xV.same {sa : Nat → Nat} {u U : State} (hv : U.vm = u.vm) (h : xV sa u) : xV sa U := ⟨fun w hw => va_Nw.same (xWs_on w hw) hv.symm (h.1 w hw), fun i q hq => vk_R.same hv (h.2 i q hq)⟩
theorem xV.warm {sa : Nat → Nat} {s U : State} (hW : s.WarmedH U.vm) (h : xV sa s) : xV sa U := by
  refine ⟨fun w hw => ?_, fun i q hq => vk_R.warm hW (h.2 i q hq)⟩
  have h1 := h.1 w hw
  simp only [List.mem_cons, List.not_mem_nil, or_false] at hw
  rcases hw with rfl | rfl | rfl | rfl | rfl | rfl | rfl | rfl | rfl
  · exact va_Nw.warmC hW h1
  · exact va_Nw.warmC hW h1
  · exact va_Nw.warmC hW h1
  · exact va_Nw.warmC hW h1
  · exact va_Nw.warmD hW h1
  · exact va_Nw.warmD hW h1
  · exact va_Nw.warmD hW h1
  · exact va_Nw.warmF hW h1
  · exact va_Nw.warmF hW h1
theorem xE_at {s : State} {args : Array Value} {sa : Nat → Nat} {L : List Cond} (hw : ∀ w ∈ wA, w.before args s = true) (hV : xV sa s) (hZ : xZ s s.heap) (g1 : ∀ w ∈ L.filter goodWord, w ∈ lw_tbl) (g2 : ∀ w ∈ L.filter (fun w => !goodWord w), w ∈ xWs ∨ w ∈ hWs) : ∀ w ∈ L, w.before args s = true := by
  intro w hL
  by_cases g : goodWord w = true
  · exact hw w (List.mem_filter.mpr ⟨g1 w (List.mem_filter.mpr ⟨hL, g⟩), g⟩)
  · rcases g2 w (List.mem_filter.mpr ⟨hL, by simp [g]⟩) with h | h
    · exact va_Nw.use (xWs_on w h) (hV.1 w h)
    · simp only [hWs, List.mem_cons, List.not_mem_nil, or_false] at h
      rcases h with rfl | rfl | rfl | rfl
      · exact hZ.1.ref
      · exact hZ.2.ref
      · exact hZ.1.lays
      · exact hZ.2.lays
section XPC
variable {s : State} {H : Heap} {D : va_G} {cl : List vw_C} {ws : va_W} {tys : List (ClassId × FieldType)} {C : String} {T : u_T} {N ci q0 sz : Nat} {b : Nat} {As av : List Value} {fs : List Value} {A : Nat → Prop} {sa : Nat → Nat}
def xo_Pc (sa : Nat → Nat) (D : va_G) (cl : List vw_C) (ws : va_W) (tys : List (ClassId × FieldType)) (av : List Value) : Array Value → State → Prop := va_Pc av (fun U => va_P D cl ws U.heap ∧ va_K D cl tys U ∧ xV sa U ∧ xZ U U.heap)
theorem xo_blind : FrameBlind (xo_Pc sa D cl ws tys av) := fun a U g mk q => ⟨q.1, q.2.1, va_K.moved (u := U) (U := U.calling g mk a) (Vm.Alike.refl U.vm) q.2.2.1, xV.same (u := U) (U := U.calling g mk a) rfl q.2.2.2.1, xZ.moved (u := U) (U := U.calling g mk a) (Vm.Alike.refl U.vm) q.2.2.2.2⟩
theorem xo_preV (hK : va_K D cl tys s) (hP : va_P D cl ws H) (hV : xV sa s) (hZ : xZ s H) (he : ws[q0]? = some (b, .inr (ci, fs))) (hc : cl[ci]? = some (C, T, N)) : PreV s H C b (xo_Pc sa D cl ws tys (.ref b :: As)) As :=
  ⟨xo_blind, va_recv hK hP hc he, fun U hU hW => ⟨rfl, by rw [hU]; exact hP, va_K.moved hW.alike hK, hV.warm hW, by rw [hU]; exact hZ.moved hW.alike⟩⟩
theorem xo_preS (hK : va_K D cl tys s) (hP : va_P D cl ws H) (hV : xV sa s) (hZ : xZ s H) : PreS s H (xo_Pc sa D cl ws tys As) As :=
  ⟨xo_blind, fun U hU hW => ⟨rfl, by rw [hU]; exact hP, va_K.moved hW.alike hK, hV.warm hW, by rw [hU]; exact hZ.moved hW.alike⟩⟩
def xw_Pc (sa : Nat → Nat) (D : va_G) (cl : List vw_C) (ws : va_W) (tys : List (ClassId × FieldType)) (sz : Nat) (av : List Value) : Array Value → State → Prop := va_Pc av (fun U => U.heap.size = sz ∧ va_P D cl ws U.heap ∧ va_K D cl tys U ∧ va_D (fun _ => True) ws ∧ xV sa U ∧ xZ U U.heap)
theorem xw_blind : FrameBlind (xw_Pc sa D cl ws tys sz av) := fun a U g mk q => ⟨q.1, q.2.1, q.2.2.1, va_K.moved (u := U) (U := U.calling g mk a) (Vm.Alike.refl U.vm) q.2.2.2.1, q.2.2.2.2.1, xV.same (u := U) (U := U.calling g mk a) rfl q.2.2.2.2.2.1, xZ.moved (u := U) (U := U.calling g mk a) (Vm.Alike.refl U.vm) q.2.2.2.2.2.2⟩
theorem xw_preV (hK : va_K D cl tys s) (hP : va_P D cl ws H) (hD : va_D A ws) (hV : xV sa s) (hZ : xZ s H) (he : ws[q0]? = some (b, .inr (ci, fs))) (hc : cl[ci]? = some (C, T, N)) : PreV s H C b (xw_Pc sa D cl ws tys H.size (.ref b :: As)) As :=
  ⟨xw_blind, va_recv hK hP hc he, fun U hU hW => ⟨rfl, by rw [hU], by rw [hU]; exact hP, va_K.moved hW.alike hK, hD.weaken (fun _ _ _ _ => trivial), hV.warm hW, by rw [hU]; exact hZ.moved hW.alike⟩⟩
theorem xw_preS (hK : va_K D cl tys s) (hP : va_P D cl ws H) (hD : va_D A ws) (hV : xV sa s) (hZ : xZ s H) : PreS s H (xw_Pc sa D cl ws tys H.size As) As :=
  ⟨xw_blind, fun U hU hW => ⟨rfl, by rw [hU], by rw [hU]; exact hP, va_K.moved hW.alike hK, hD.weaken (fun _ _ _ _ => trivial), hV.warm hW, by rw [hU]; exact hZ.moved hW.alike⟩⟩
end XPC
