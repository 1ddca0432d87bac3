/-! THE CLAIM OUT OF ONE WALK OF THE LAW'S BODY. Your part is whole_start (and what it stands on); all else here is the same for every law, but numbers. -/
def R_law : String := "SliceCoderLaw"
def lw_P (b : Addr) (xs : List Int32) (args : Array Value) (s : State) : Prop := args = #[.ref b] ∧ s.IntsAt b xs ∧ xs.length ≤ 2560 ∧ (Jvm.Cond.and given_1 narrow_1).before args s = true
def lw_Q (_ : Array Value) (s : State) (o : Outcome) (t : State) : Prop := o = .returned (some (.int 1)) ∧ Framed s o t [] 601024 7293034
def lw_Z (below : List Frame) (a : Array Value) (s : State) : State → Prop := fun t => ∃ o, t.status = .running ∧ Ended t below o ∧ lw_Q a s o t
/-- the law's own end, with 1 on the stack, nothing written that was there before, its room as the claim has it -/
theorem lw_ret {p : Program} {l : Launch} {e : Env} {s : State} {m : MethodId} {below : List Frame} {meth : Method} {c : Code} {b : Nat} (hx : p.tables.exec = Jvm.exec) (hb : c.code = code) (hr : meth.sig.returnType = ret) (hlocks : meth.locks = false) {pc : Nat} {H : Heap} {ls : Array Slot} (hdg : decode code pc = .ok (.ireturn, 1)) : W p l e room_1 s m #[Value.ref b] below meth c H [] 601024 7293034 (lw_Z below #[Value.ref b] s) (F0 m pc ls [.int 1]) := by
  intro T hT X
  obtain ⟨fs, hret, hrun, hended, hW, hframe⟩ := X.leave (v := some (.int 1)) (hlocks := hlocks) (fun h => by rw [hr] at h; cases h)
  have hmeth' : T.vm.method? m = some meth := X.method'
  refine ⟨T.setFrames fs, ?_, .returned (some (.int 1)), hrun, hended, rfl, ⟨_, rfl⟩, hW, hframe⟩
  jvm_step X.here [X.here.top, hx, hb, hdg, hmeth', hr, ret, narrow_b1]
  (try refine ⟨rfl, ?_⟩); (try refine ⟨rfl, ?_⟩)
  first | (intro acts; rw [hret _ acts rfl rfl rfl]) | rw [hret _ _ rfl rfl rfl]
  exact Steps.refl _
/-- what holds at the law's entry: the machine, the code, the tables' words (any of lw_tbl by 'hts w (by decide +kernel)'), the script of L ints xs at the cell b, what the Statement gives of the start (any of its parts by flat_of_before) -/
def lw_At (p : Program) (s : State) (m : MethodId) (meth : Method) (c : Code) (b L : Nat) (xs : Nat → Int32) : Prop :=
  p.tables.exec = Jvm.exec ∧ c.code = code ∧ meth.sig.returnType = ret ∧ c.maxLocals = 8 ∧ s.vm.findClass R_law = some m.cls ∧ (∀ w ∈ lw_tbl, w.before #[Value.ref b] s = true) ∧ va_X b L xs s s.heap ∧ b < s.heap.size ∧ meth.locks = false ∧ (Jvm.Cond.and given_1 narrow_1).before #[Value.ref b] s = true
theorem ll_sw {x : Int32} (h : ∃ q, q < 2 ^ 4 ∧ x = nI q) : x = nI 0 ∨ x = nI 1 ∨ x = nI 2 ∨ x = nI 3 ∨ x = nI 4 ∨ x = nI 5 ∨ x = nI 6 ∨ x = nI 7 ∨ x = nI 8 ∨ x = nI 9 ∨ x = nI 10 ∨ x = nI 11 ∨ x = nI 12 ∨ x = nI 13 ∨ x = nI 14 ∨ x = nI 15 := by
  obtain ⟨q, hq, rfl⟩ := h
  rcases (show q = 0 ∨ q = 1 ∨ q = 2 ∨ q = 3 ∨ q = 4 ∨ q = 5 ∨ q = 6 ∨ q = 7 ∨ q = 8 ∨ q = 9 ∨ q = 10 ∨ q = 11 ∨ q = 12 ∨ q = 13 ∨ q = 14 ∨ q = 15 by omega) with rfl | rfl | rfl | rfl | rfl | rfl | rfl | rfl | rfl | rfl | rfl | rfl | rfl | rfl | rfl | rfl <;> simp
section LAWLOOP
variable {p : Program} {l : Launch} {e : Env} {s : State} {m : MethodId} {below : List Frame} {meth : Method} {c : Code} {b L : Nat} {xs : Nat → Int32} {dC : Nat → ClassId} {dI : Nat → Nat → Nat} {sa : Nat → Nat} {cR cI cZ cJ : ClassId}
variable {ax hfm hq hu : Nat} {ha pw ps po pk : Nat → Nat} {hm ml mw mb ms mn : Nat}
set_option maxHeartbeats 4000000 in
set_option maxRecDepth 100000 in
theorem ll_loop (C : LC p l s m c b L xs dC dI sa cR cI cZ cJ (fun q => s.heap.size ≤ q)) (hr : meth.sig.returnType = ret) (hlocks : meth.locks = false) : ∀ (d j : Nat) (ns : Nat → Nat) (its wss : Nat → Nat → Nat) (sbs : Nat → Nat → Bool) (nu : Nat → Int64) (H : Heap) (locs : List Loc) (ls : Array Slot),
    L ≤ 5 * j + 5 * d + 4 → j ≤ 512 → lv_has ls 8 [(0, .ref b), (1, .ref ax), (2, .ref hm), (3, .ref hu), (4, .int (nI (5 * j)))] → lI (fun q => s.heap.size ≤ q) s.heap dC dI cR cI cZ cJ ax hfm hq hu ha pw ps po pk hm ml mw mb ms mn ns its wss sbs nu H locs →
    W p l e room_1 s m #[Value.ref b] below meth c H locs (50 + j) (1805 + 6 * j) (lw_Z below #[Value.ref b] s) (F0 m 23 ls []) := by
  have C0 := C
  obtain ⟨hx, hb, hml, hown, hw, hX, hbl, hK, hV, hZ0, hN, hl0, hL, hA, hAn⟩ := C0
  have hbA := hAn b hbl
  intro d
  induction d with
  | zero =>
    intro j ns its wss sbs nu H locs ls hd hj hl hI
    obtain ⟨wd, sg, ow, co, ou, er, ln, wh, bi, si, hXR, hM, hP, hD, hS⟩ := hI
    refine lv_iload hx hb dL_law_23 (lv_at hl 4 rfl) ?_
    refine lv_aload_n hx hb dL_law_25 rfl (lv_at hl 0 rfl) ?_
    refine va_slen hx hb hX hbl hbA hS dL_law_26 ?_
    refine lv_iconst (v := nI 5) hx hb dL_law_27 (by decide +kernel) ?_
    refine lv_isub hx hb dL_law_28 ?_
    refine lv_topi (fun v28 e28 => ?_)
    have h28 : v28.toInt = (L : Int) - 5 := by rw [e28]; exact pk_sub_toInt (a := L) (b := 5) (by omega) (by omega)
    refine lv_icmp_gt (tgt := 1112) hx hb dL_law_29 (by decide) (fun h29 => ?_) (fun h29 => ?_)
    · refine lv_iconst (v := 1) hx hb dL_law_1112 (by decide +kernel) ?_
      refine va_forget hS.2.2 ?_
      refine W.widen (k := 601024) (n := 7293034) (by omega) (by omega) ?_
      exact lw_ret hx hb hr hlocks dL_law_1113
    · exfalso
      apply h29
      rw [Int32.lt_iff_toInt_lt, h28, nI_toInt (by omega)]
      omega
  | succ d ih =>
    intro j ns its wss sbs nu H locs ls hd hj hl hI
    have hI0 := hI
    obtain ⟨wd, sg, ow, co, ou, er, ln, wh, bi, si, hXR, hM, hP, hD, hS⟩ := hI0
    refine lv_iload hx hb dL_law_23 (lv_at hl 4 rfl) ?_
    refine lv_aload_n hx hb dL_law_25 rfl (lv_at hl 0 rfl) ?_
    refine va_slen hx hb hX hbl hbA hS dL_law_26 ?_
    refine lv_iconst (v := nI 5) hx hb dL_law_27 (by decide +kernel) ?_
    refine lv_isub hx hb dL_law_28 ?_
    refine lv_topi (fun v28 e28 => ?_)
    have h28 : v28.toInt = (L : Int) - 5 := by rw [e28]; exact pk_sub_toInt (a := L) (b := 5) (by omega) (by omega)
    refine lv_icmp_gt (tgt := 1112) hx hb dL_law_29 (by decide) (fun h29 => ?_) (fun h29 => ?_)
    · refine lv_iconst (v := 1) hx hb dL_law_1112 (by decide +kernel) ?_
      refine va_forget hS.2.2 ?_
      refine W.widen (k := 601024) (n := 7293034) (by omega) (by omega) ?_
      exact lw_ret hx hb hr hlocks dL_law_1113
    have hi : 5 * j + 5 ≤ L := by
      refine Classical.byContradiction (fun q => h29 ?_)
      rw [Int32.lt_iff_toInt_lt, h28, nI_toInt (by omega)]
      omega
    have kk : ∀ (ns : Nat → Nat) (its wss : Nat → Nat → Nat) (sbs : Nat → Nat → Bool) (nu : Nat → Int64) (H : Heap) (locs : List Loc) (ls : Array Slot), lv_has ls 8 [(0, .ref b), (1, .ref ax), (2, .ref hm), (3, .ref hu), (4, .int (nI (5 * j)))] → lI (fun q => s.heap.size ≤ q) s.heap dC dI cR cI cZ cJ ax hfm hq hu ha pw ps po pk hm ml mw mb ms mn ns its wss sbs nu H locs →
        W p l e room_1 s m #[Value.ref b] below meth c H locs (50 + j + 1) (1805 + 6 * j + 6) (lw_Z below #[Value.ref b] s) (F0 m 1106 ls []) := by
      intro ns its wss sbs nu H locs ls hl hI
      refine lv_iinc (k := 4) (v := nI (5 * (j + 1))) hx hb dL_law_1106 hl rfl (by rw [show Int32.ofInt 5 = nI 5 by decide +kernel, nI_add]; rfl) (by decide) rfl (fun ls hl => ?_)
      refine lv_goto (tgt := 23) hx hb dL_law_1109 (by decide) ?_
      refine W.widen (k := 50 + (j + 1)) (n := 1805 + 6 * (j + 1)) (by omega) (by omega) ?_
      exact ih (j + 1) ns its wss sbs nu H locs ls (by omega) (by omega) (lv_sub (l' := [(0, .ref b), (1, .ref ax), (2, .ref hm), (3, .ref hu), (4, .int (nI (5 * (j + 1))))]) hl [1, 2, 3, 4, 0] rfl) hI
    have hcs : 50 + j + 1 ≤ 601024 := by omega
    have hss : 1805 + 6 * j + 6 ≤ 7293034 := by omega
    refine lv_aload_n hx hb dL_law_32 rfl (lv_at hl 0 rfl) ?_
    refine lv_iload hx hb dL_law_33 (lv_at hl 4 rfl) ?_
    refine va_sld hx hb hX hbl hbA hS (vp_in_nI (by omega) (by omega)) dL_law_35 ?_
    refine lv_bipush (v := nI 15) hx hb dL_law_36 (by decide +kernel) ?_
    refine lv_iand hx hb dL_law_38 ?_
    refine lv_topi (fun v38 e38 => ?_)
    have hq9 := ll_sw (x := v38) (by rw [e38]; exact pk_andE _ 4 (by decide +kernel))
    rcases hq9 with rfl | rfl | rfl | rfl | rfl | rfl | rfl | rfl | rfl | rfl | rfl | rfl | rfl | rfl | rfl | rfl
    · refine lv_tableIn (tgt := 100) hx hb dL_law_39 (by decide +kernel) (by decide +kernel) rfl (by decide) ?_
      exact lc_clear C hl hi hI hcs hss kk
    · refine lv_tableIn (tgt := 136) hx hb dL_law_39 (by decide +kernel) (by decide +kernel) rfl (by decide) ?_
      by_cases h4 : xs (5 * j + 4) = 0
      · exact lc_operand_t C hl hi hI hcs hss h4 kk
      · exact lc_operand_f C hl hi hI hcs hss h4 kk
    · refine lv_tableIn (tgt := 224) hx hb dL_law_39 (by decide +kernel) (by decide +kernel) rfl (by decide) ?_
      exact lc_fixed C hl hi hI hcs hss kk
    · refine lv_tableIn (tgt := 336) hx hb dL_law_39 (by decide +kernel) (by decide +kernel) rfl (by decide) ?_
      exact lc_slice C hl hi hI hcs hss kk
    · refine lv_tableIn (tgt := 428) hx hb dL_law_39 (by decide +kernel) (by decide +kernel) rfl (by decide) ?_
      exact lc_whole C hl hi hI hcs hss kk
    · refine lv_tableIn (tgt := 491) hx hb dL_law_39 (by decide +kernel) (by decide +kernel) rfl (by decide) ?_
      exact lc_number C hl hi hI hcs hss kk
    · refine lv_tableIn (tgt := 571) hx hb dL_law_39 (by decide +kernel) (by decide +kernel) rfl (by decide) ?_
      exact lc_fits C hl hi hI hcs hss kk
    · refine lv_tableIn (tgt := 690) hx hb dL_law_39 (by decide +kernel) (by decide +kernel) rfl (by decide) ?_
      exact lc_encode C hl hi hI hcs hss kk
    · refine lv_tableIn (tgt := 745) hx hb dL_law_39 (by decide +kernel) (by decide +kernel) rfl (by decide) ?_
      exact lc_is C hl hi hI hcs hss kk
    · refine lv_tableIn (tgt := 852) hx hb dL_law_39 (by decide +kernel) (by decide +kernel) rfl (by decide) ?_
      exact lc_decode C hl hi hI hcs hss kk
    · refine lv_tableIn (tgt := 963) hx hb dL_law_39 (by decide +kernel) (by decide +kernel) rfl (by decide) ?_
      exact lc_meet C hl hi hI hcs hss kk
    · refine lv_tableIn (tgt := 1038) hx hb dL_law_39 (by decide +kernel) (by decide +kernel) rfl (by decide) ?_
      exact lc_count C hl hi hI hcs hss kk
    · refine lv_tableOut (tgt := 1106) hx hb dL_law_39 (by decide +kernel) (by decide) ?_
      refine W.widen (k := 50 + j + 1) (n := 1805 + 6 * j + 6) (by omega) (by omega) ?_
      exact kk ns its wss sbs nu H locs ls hl hI
    · refine lv_tableOut (tgt := 1106) hx hb dL_law_39 (by decide +kernel) (by decide) ?_
      refine W.widen (k := 50 + j + 1) (n := 1805 + 6 * j + 6) (by omega) (by omega) ?_
      exact kk ns its wss sbs nu H locs ls hl hI
    · refine lv_tableOut (tgt := 1106) hx hb dL_law_39 (by decide +kernel) (by decide) ?_
      refine W.widen (k := 50 + j + 1) (n := 1805 + 6 * j + 6) (by omega) (by omega) ?_
      exact kk ns its wss sbs nu H locs ls hl hI
    · refine lv_tableOut (tgt := 1106) hx hb dL_law_39 (by decide +kernel) (by decide) ?_
      refine W.widen (k := 50 + j + 1) (n := 1805 + 6 * j + 6) (by omega) (by omega) ?_
      exact kk ns its wss sbs nu H locs ls hl hI
end LAWLOOP
