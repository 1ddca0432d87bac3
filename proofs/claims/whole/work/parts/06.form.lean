set_option maxHeartbeats 4000000 in
set_option maxRecDepth 100000 in
theorem c_F_bitOf (l : Launch) (v : Int64) (k : Nat) (hk : k < 64) : Met l yF_bitOf wF_bitOf { frames := 0, cells := 0, slots := 0, locals := 0 } (fun av9 _ => av9 = ([.long v, .int (nI k)] : List Value).toArray) (vp_Si (fun r => r = nI (bq v k))) 0 0 (fun _ => False) := by
  refine Met.ofW (cc := cF_bitOf) (maxL := 3) (ret := (some .int)) (by decide) rfl ?_
  intro p e s m args below meth c s₁ B hml hv
  obtain rfl := hv
  have hx := B.exec
  have hb := B.bytes
  have hr := B.returns
  have hts := atoms_spec (ws := wF_bitOf) B.pre
  have hw : ∀ w ∈ wA, w.before _ s = true := fun w h => hts w (List.mem_cons_of_mem _ h)
  have hown : s.vm.findClass RF = some m.cls := findClass_of_methodNamed B.named
  have hlocks := B.notSynchronized
  have hl := lv_entry ([.long v, .int (nI k)]) (n := 3) (Nat.le_of_ble_eq_true rfl)
  rw [lg_entry_eq]
  generalize (lg_sl ([.long v, .int (nI k)]) ++ List.replicate (3 - (lg_sl ([.long v, .int (nI k)])).length) Slot.unset).toArray = ls at hl ⊢
  have hl : lv_has ls 3 [(0, .long v), (2, .int (nI k))] := hl
  refine lv_lload_n hx hb dF_bitOf_0 rfl (lv_at hl 0 rfl) ?_
  refine lv_iload_n hx hb dF_bitOf_1 rfl (lv_at hl 1 rfl) ?_
  refine lv_lushr hx hb dF_bitOf_2 rfl ?_
  refine lv_topl (fun v2 e2 => ?_)
  refine lv_lconst (v := lN 1) hx hb dF_bitOf_3 (by decide +kernel) ?_
  refine lv_land hx hb dF_bitOf_4 ?_
  refine lv_topl (fun v4 e4 => ?_)
  refine lv_l2i hx hb dF_bitOf_5 rfl ?_
  refine lv_topi (fun v5 e5 => ?_)
  exact W.iret (v := v5) hx hb hr (fun t ht hW => ⟨_, rfl, (by rw [e5, e4, e2]; exact bq_u v hk), ht⟩) (fun q h => nomatch h) dF_bitOf_6

set_option maxHeartbeats 4000000 in
set_option maxRecDepth 100000 in
theorem c_F_fixedBits (l : Launch) (dC : Nat → ClassId) (dI : Nat → Nat → Nat) (cI cZ : ClassId) (h pw ps po pk n : Nat) (wd sg ow co : Nat → Int32) (it w : Nat → Nat) (sb : Nat → Bool) (hF : fR n it w sb wd sg ow co) : Met l yF_fixedBits wF_fixedBits { frames := 0, cells := 0, slots := 0, locals := 0 } (ro_Pc (dC, dI) cls3 [(h, .inr (0, [.ref pw, .ref ps, .ref po, .ref pk, .int (nI n)])), (pw, .inl (cI, 6, .inl wd)), (ps, .inl (cZ, 6, .inl sg)), (po, .inl (cI, 64, .inl ow)), (pk, .inl (cI, 64, .inl co))] [(cI, .int), (cZ, .boolean)] [.ref h]) (vp_Si (fun r => r = nI (cw_fix it n))) 0 0 (fun _ => False) := by
  refine Met.ofW (cc := cF_fixedBits) (maxL := 3) (ret := (some .int)) (by decide) rfl ?_
  intro p e s m args below meth c s₁ B hml hv
  obtain ⟨rfl, hP, hK⟩ := hv
  have hx := B.exec
  have hb := B.bytes
  have hr := B.returns
  have hts := atoms_spec (ws := wF_fixedBits) B.pre
  have hw : ∀ w ∈ wA, w.before _ s = true := fun w h => hts w (List.mem_cons_of_mem _ h)
  have hown : s.vm.findClass RF = some m.cls := findClass_of_methodNamed B.named
  have hlocks := B.notSynchronized
  have hl := lv_entry ([.ref h]) (n := 3) (Nat.le_of_ble_eq_true rfl)
  rw [lg_entry_eq]
  generalize (lg_sl ([.ref h]) ++ List.replicate (3 - (lg_sl ([.ref h])).length) Slot.unset).toArray = ls at hl ⊢
  have hl : lv_has ls 3 [(0, .ref h)] := hl
  have hn : n ≤ 64 := hF.1.1
  have hwd := hF.2.1
  have hsg := hF.2.2.1
  have hoc := hF.2.2.2
  have hit := cw_it hF.1
  have hw64 := hF.1.2.1
  refine lv_iconst (v := nI 0) hx hb dF_fixedBits_0 (by decide +kernel) ?_
  refine lv_istore_n hx hb dF_fixedBits_1 rfl hl (by decide) rfl (fun ls hl => ?_)
  have hl : lv_has ls 3 [(1, .int (nI 0)), (0, .ref h)] := hl
  refine lv_iconst (v := nI 0) hx hb dF_fixedBits_2 (by decide +kernel) ?_
  refine lv_istore_n hx hb dF_fixedBits_3 rfl hl (by decide) rfl (fun ls hl => ?_)
  have hl : lv_has ls 3 [(2, .int (nI 0)), (1, .int (nI 0)), (0, .ref h)] := hl
  refine (?_ : ∀ (kk : Nat) (i : Nat) (ls : Array Slot), kk = n - i → lv_has ls 3 [(2, .int (nI i)), (1, .int (nI (cw_fix it i))), (0, .ref h)] → (i ≤ n) → W p l e _ s m _ below meth c _ _ _ _ _ (F0 m 4 ls [])) _ 0 ls rfl (lv_sub hl [0, 1, 2] rfl) (by omega)
  intro kk
  induction kk using Nat.strongRecOn with
  | ind kk4 ih4 =>
    intro i ls hkk4 hl hi
    refine lv_iload_n hx hb dF_fixedBits_4 rfl (lv_at hl 0 rfl) ?_
    refine lv_aload_n hx hb dF_fixedBits_5 rfl (lv_at hl 2 rfl) ?_
    refine va_get (D := (dC, dI)) (ci := 0) (v := .int (nI n)) (C := RF) (T := TF) (N := 5) hx hb hw inF hown hK hP 0 rfl rfl 4 (by decide) (hw _ kw_44) (fun _ h9 => h9) rfl dF_fixedBits_6 ?_
    refine lv_icmp_ge (tgt := 31) hx hb dF_fixedBits_9 (by decide) (fun h9 => ?_) (fun h9 => ?_)
    · rw [nI_leI (by omega) (by omega)] at h9
      refine lv_iload_n hx hb dF_fixedBits_31 rfl (lv_at hl 1 rfl) ?_
      exact W.iret (v := nI (cw_fix it i)) hx hb hr (fun t ht hW => ⟨_, rfl, (by rw [show i = n by omega]), ht⟩) (fun q h => nomatch h) dF_fixedBits_32
    · rw [nI_leI (by omega) (by omega)] at h9
      refine lv_aload_n hx hb dF_fixedBits_12 rfl (lv_at hl 2 rfl) ?_
      refine va_get (D := (dC, dI)) (ci := 0) (v := .ref po) (C := RF) (T := TF) (N := 5) hx hb hw inF hown hK hP 0 rfl rfl 2 (by decide) (hw _ kw_42) (fun _ h9 => h9) rfl dF_fixedBits_13 ?_
      refine lv_iload_n hx hb dF_fixedBits_16 rfl (lv_at hl 0 rfl) ?_
      refine va_iald hx hb hK hP 3 0 rfl rfl (vp_in_nI (by omega) (by decide)) dF_fixedBits_17 ?_
      refine lv_topi (fun v17 e17 => ?_)
      rw [nI_clamp (by omega)] at e17
      obtain rfl : v17 = cw_O (it i) := e17.trans (hoc i (by omega)).1
      refine lv_iconst (v := (-1)) hx hb dF_fixedBits_18 (by decide +kernel) ?_
      refine lv_icmp_ne (tgt := 25) hx hb dF_fixedBits_19 (by decide) (fun h19 => ?_) (fun h19 => ?_)
      · rw [cw_O_m1 (hit i (by omega))] at h19
        refine lv_iinc (k := 0) (v := nI (i + 1)) hx hb dF_fixedBits_25 hl rfl (cw_inc _) (by decide) rfl (fun ls hl => ?_)
        have hl : lv_has ls 3 [(2, .int (nI (i + 1))), (1, .int (nI (cw_fix it i))), (0, .ref h)] := hl
        refine lv_goto (tgt := 4) hx hb dF_fixedBits_28 (by decide) ?_
        exact ih4 _ (by omega) (i + 1) ls rfl (cw_lvx (lv_sub (l' := [(2, .int (nI (i + 1))), (1, .int (nI (cw_fix it i))), (0, .ref h)]) hl [0, 1, 2] rfl) (by simp only [cw_fix]; first | (rw [if_neg h19]; rfl) | (rw [if_pos h19]))) (by omega)
      · rw [cw_O_m1 (hit i (by omega))] at h19
        refine lv_iinc (k := 1) (v := nI ((cw_fix it i) + 1)) hx hb dF_fixedBits_22 hl rfl (cw_inc _) (by decide) rfl (fun ls hl => ?_)
        have hl : lv_has ls 3 [(1, .int (nI ((cw_fix it i) + 1))), (2, .int (nI i)), (0, .ref h)] := hl
        refine lv_iinc (k := 1) (v := nI (i + 1)) hx hb dF_fixedBits_25 hl rfl (cw_inc _) (by decide) rfl (fun ls hl => ?_)
        have hl : lv_has ls 3 [(2, .int (nI (i + 1))), (1, .int (nI ((cw_fix it i) + 1))), (0, .ref h)] := hl
        refine lv_goto (tgt := 4) hx hb dF_fixedBits_28 (by decide) ?_
        exact ih4 _ (by omega) (i + 1) ls rfl (cw_lvx (lv_sub (l' := [(2, .int (nI (i + 1))), (1, .int (nI ((cw_fix it i) + 1))), (0, .ref h)]) hl [0, 1, 2] rfl) (by simp only [cw_fix]; first | (rw [if_neg h19]; rfl) | (rw [if_pos h19]))) (by omega)

set_option maxHeartbeats 4000000 in
set_option maxRecDepth 100000 in
theorem c_F_hasOperand (l : Launch) (dC : Nat → ClassId) (dI : Nat → Nat → Nat) (cI cZ : ClassId) (h pw ps po pk n : Nat) (wd sg ow co : Nat → Int32) (it w : Nat → Nat) (sb : Nat → Bool) (hF : fR n it w sb wd sg ow co) (x : Int32) : Met l yF_hasOperand wF_hasOperand { frames := 0, cells := 0, slots := 0, locals := 0 } (ro_Pc (dC, dI) cls3 [(h, .inr (0, [.ref pw, .ref ps, .ref po, .ref pk, .int (nI n)])), (pw, .inl (cI, 6, .inl wd)), (ps, .inl (cZ, 6, .inl sg)), (po, .inl (cI, 64, .inl ow)), (pk, .inl (cI, 64, .inl co))] [(cI, .int), (cZ, .boolean)] [.ref h, .int x]) (vp_Si (fun r => r = nI (hop w x).toNat)) 0 0 (fun _ => False) := by
  refine Met.ofW (cc := cF_hasOperand) (maxL := 2) (ret := (some .boolean)) (by decide) rfl ?_
  intro p e s m args below meth c s₁ B hml hv
  obtain ⟨rfl, hP, hK⟩ := hv
  have hx := B.exec
  have hb := B.bytes
  have hr := B.returns
  have hts := atoms_spec (ws := wF_hasOperand) B.pre
  have hw : ∀ w ∈ wA, w.before _ s = true := fun w h => hts w (List.mem_cons_of_mem _ h)
  have hown : s.vm.findClass RF = some m.cls := findClass_of_methodNamed B.named
  have hlocks := B.notSynchronized
  have hl := lv_entry ([.ref h, .int x]) (n := 2) (Nat.le_of_ble_eq_true rfl)
  rw [lg_entry_eq]
  generalize (lg_sl ([.ref h, .int x]) ++ List.replicate (2 - (lg_sl ([.ref h, .int x])).length) Slot.unset).toArray = ls at hl ⊢
  have hl : lv_has ls 2 [(0, .ref h), (1, .int x)] := hl
  have hn : n ≤ 64 := hF.1.1
  have hwd := hF.2.1
  have hsg := hF.2.2.1
  have hoc := hF.2.2.2
  have hit := cw_it hF.1
  have hw64 := hF.1.2.1
  refine lv_iload_n hx hb dF_hasOperand_0 rfl (lv_at hl 1 rfl) ?_
  refine lv_if_lt (tgt := 23) hx hb dF_hasOperand_1 (by decide) (fun h1 => ?_) (fun h1 => ?_)
  · refine lv_iconst (v := nI 0) hx hb dF_hasOperand_23 (by decide +kernel) ?_
    exact W.zret (v := nI 0) hx hb hr (by first | exact b_nar _ | decide +kernel) (fun t ht hW => ⟨_, rfl, (by first | exact hop_neg h1 | exact hop_big h7 | (rw [hop_nI w ho, h16]; rfl) | (rw [hop_nI w ho, decide_eq_true (by omega)]; rfl)), ht⟩) (fun q h => nomatch h) dF_hasOperand_24
  · refine lv_iload_n hx hb dF_hasOperand_4 rfl (lv_at hl 1 rfl) ?_
    refine lv_bipush (v := nI 6) hx hb dF_hasOperand_5 (by decide +kernel) ?_
    refine lv_icmp_ge (tgt := 23) hx hb dF_hasOperand_7 (by decide) (fun h7 => ?_) (fun h7 => ?_)
    · refine lv_iconst (v := nI 0) hx hb dF_hasOperand_23 (by decide +kernel) ?_
      exact W.zret (v := nI 0) hx hb hr (by first | exact b_nar _ | decide +kernel) (fun t ht hW => ⟨_, rfl, (by first | exact hop_neg h1 | exact hop_big h7 | (rw [hop_nI w ho, h16]; rfl) | (rw [hop_nI w ho, decide_eq_true (by omega)]; rfl)), ht⟩) (fun q h => nomatch h) dF_hasOperand_24
    · obtain ⟨o, ho, rfl⟩ : ∃ o : Nat, o < 6 ∧ x = nI o := by
        rcases pk_ix x (n := 6) (by decide) with q | q | q
        · exact absurd q h1
        · exact absurd q h7
        · exact q
      refine lv_aload_n hx hb dF_hasOperand_10 rfl (lv_at hl 0 rfl) ?_
      refine va_get (D := (dC, dI)) (ci := 0) (v := .ref pw) (C := RF) (T := TF) (N := 5) hx hb hw inF hown hK hP 0 rfl rfl 0 (by decide) (hw _ kw_39) (fun _ h9 => h9) rfl dF_hasOperand_11 ?_
      refine lv_iload_n hx hb dF_hasOperand_14 rfl (lv_at hl 1 rfl) ?_
      refine va_iald hx hb hK hP 1 0 rfl rfl (vp_in_nI (by omega) (by decide)) dF_hasOperand_15 ?_
      refine lv_topi (fun v15 e15 => ?_)
      rw [nI_clamp (by omega)] at e15
      obtain rfl : v15 = nI (w o) := e15.trans (hwd o (by omega))
      refine lv_if_le (tgt := 23) hx hb dF_hasOperand_16 (by decide) (fun h16 => ?_) (fun h16 => ?_)
      · rw [nI_le0 (by have := hw64 o ho; omega)] at h16
        refine lv_iconst (v := nI 0) hx hb dF_hasOperand_23 (by decide +kernel) ?_
        exact W.zret (v := nI 0) hx hb hr (by first | exact b_nar _ | decide +kernel) (fun t ht hW => ⟨_, rfl, (by first | exact hop_neg h1 | exact hop_big h7 | (rw [hop_nI w ho, h16]; rfl) | (rw [hop_nI w ho, decide_eq_true (by omega)]; rfl)), ht⟩) (fun q h => nomatch h) dF_hasOperand_24
      · rw [nI_le0 (by have := hw64 o ho; omega)] at h16
        refine lv_iconst (v := nI 1) hx hb dF_hasOperand_19 (by decide +kernel) ?_
        refine lv_goto (tgt := 24) hx hb dF_hasOperand_20 (by decide) ?_
        exact W.zret (v := nI 1) hx hb hr (by first | exact b_nar _ | decide +kernel) (fun t ht hW => ⟨_, rfl, (by first | exact hop_neg h1 | exact hop_big h7 | (rw [hop_nI w ho, h16]; rfl) | (rw [hop_nI w ho, decide_eq_true (by omega)]; rfl)), ht⟩) (fun q h => nomatch h) dF_hasOperand_24

set_option maxHeartbeats 4000000 in
set_option maxRecDepth 100000 in
theorem c_F_operands (l : Launch) (dC : Nat → ClassId) (dI : Nat → Nat → Nat) (cI cZ : ClassId) (h pw ps po pk n : Nat) (wd sg ow co : Nat → Int32) (it w : Nat → Nat) (sb : Nat → Bool) (hF : fR n it w sb wd sg ow co) : Met l yF_operands wF_operands { frames := 0, cells := 0, slots := 0, locals := 0 } (ro_Pc (dC, dI) cls3 [(h, .inr (0, [.ref pw, .ref ps, .ref po, .ref pk, .int (nI n)])), (pw, .inl (cI, 6, .inl wd)), (ps, .inl (cZ, 6, .inl sg)), (po, .inl (cI, 64, .inl ow)), (pk, .inl (cI, 64, .inl co))] [(cI, .int), (cZ, .boolean)] [.ref h]) (vp_Si (fun r => r = nI (cw_ops w 6))) 0 0 (fun _ => False) := by
  refine Met.ofW (cc := cF_operands) (maxL := 3) (ret := (some .int)) (by decide) rfl ?_
  intro p e s m args below meth c s₁ B hml hv
  obtain ⟨rfl, hP, hK⟩ := hv
  have hx := B.exec
  have hb := B.bytes
  have hr := B.returns
  have hts := atoms_spec (ws := wF_operands) B.pre
  have hw : ∀ w ∈ wA, w.before _ s = true := fun w h => hts w (List.mem_cons_of_mem _ h)
  have hown : s.vm.findClass RF = some m.cls := findClass_of_methodNamed B.named
  have hlocks := B.notSynchronized
  have hl := lv_entry ([.ref h]) (n := 3) (Nat.le_of_ble_eq_true rfl)
  rw [lg_entry_eq]
  generalize (lg_sl ([.ref h]) ++ List.replicate (3 - (lg_sl ([.ref h])).length) Slot.unset).toArray = ls at hl ⊢
  have hl : lv_has ls 3 [(0, .ref h)] := hl
  have hn : n ≤ 64 := hF.1.1
  have hwd := hF.2.1
  have hsg := hF.2.2.1
  have hoc := hF.2.2.2
  have hit := cw_it hF.1
  have hw64 := hF.1.2.1
  refine lv_iconst (v := nI 0) hx hb dF_operands_0 (by decide +kernel) ?_
  refine lv_istore_n hx hb dF_operands_1 rfl hl (by decide) rfl (fun ls hl => ?_)
  have hl : lv_has ls 3 [(1, .int (nI 0)), (0, .ref h)] := hl
  refine lv_iconst (v := nI 0) hx hb dF_operands_2 (by decide +kernel) ?_
  refine lv_istore_n hx hb dF_operands_3 rfl hl (by decide) rfl (fun ls hl => ?_)
  have hl : lv_has ls 3 [(2, .int (nI 0)), (1, .int (nI 0)), (0, .ref h)] := hl
  refine (?_ : ∀ (kk : Nat) (i : Nat) (ls : Array Slot), kk = 6 - i → lv_has ls 3 [(2, .int (nI i)), (1, .int (nI (cw_ops w i))), (0, .ref h)] → (i ≤ 6) → W p l e _ s m _ below meth c _ _ _ _ _ (F0 m 4 ls [])) _ 0 ls rfl (lv_sub hl [0, 1, 2] rfl) (by omega)
  intro kk
  induction kk using Nat.strongRecOn with
  | ind kk4 ih4 =>
    intro i ls hkk4 hl hi
    refine lv_iload_n hx hb dF_operands_4 rfl (lv_at hl 0 rfl) ?_
    refine lv_bipush (v := nI 6) hx hb dF_operands_5 (by decide +kernel) ?_
    refine lv_icmp_ge (tgt := 28) hx hb dF_operands_7 (by decide) (fun h7 => ?_) (fun h7 => ?_)
    · rw [nI_leI (by omega) (by omega)] at h7
      refine lv_iload_n hx hb dF_operands_28 rfl (lv_at hl 1 rfl) ?_
      exact W.iret (v := nI (cw_ops w i)) hx hb hr (fun t ht hW => ⟨_, rfl, (by rw [show i = 6 by omega]), ht⟩) (fun q h => nomatch h) dF_operands_29
    · rw [nI_leI (by omega) (by omega)] at h7
      refine lv_aload_n hx hb dF_operands_10 rfl (lv_at hl 2 rfl) ?_
      refine va_get (D := (dC, dI)) (ci := 0) (v := .ref pw) (C := RF) (T := TF) (N := 5) hx hb hw inF hown hK hP 0 rfl rfl 0 (by decide) (hw _ kw_39) (fun _ h9 => h9) rfl dF_operands_11 ?_
      refine lv_iload_n hx hb dF_operands_14 rfl (lv_at hl 0 rfl) ?_
      refine va_iald hx hb hK hP 1 0 rfl rfl (vp_in_nI (by omega) (by decide)) dF_operands_15 ?_
      refine lv_topi (fun v15 e15 => ?_)
      rw [nI_clamp (by omega)] at e15
      obtain rfl : v15 = nI (w i) := e15.trans (hwd i (by omega))
      refine lv_if_le (tgt := 22) hx hb dF_operands_16 (by decide) (fun h16 => ?_) (fun h16 => ?_)
      · rw [nI_le0 (by have := hw64 i (by omega); omega)] at h16
        refine lv_iinc (k := 0) (v := nI (i + 1)) hx hb dF_operands_22 hl rfl (cw_inc _) (by decide) rfl (fun ls hl => ?_)
        have hl : lv_has ls 3 [(2, .int (nI (i + 1))), (1, .int (nI (cw_ops w i))), (0, .ref h)] := hl
        refine lv_goto (tgt := 4) hx hb dF_operands_25 (by decide) ?_
        exact ih4 _ (by omega) (i + 1) ls rfl (cw_lvx (lv_sub (l' := [(2, .int (nI (i + 1))), (1, .int (nI (cw_ops w i))), (0, .ref h)]) hl [0, 1, 2] rfl) (by simp only [cw_ops]; first | (rw [if_neg (by omega)]; rfl) | (rw [if_pos (by omega)]))) (by omega)
      · rw [nI_le0 (by have := hw64 i (by omega); omega)] at h16
        refine lv_iinc (k := 1) (v := nI ((cw_ops w i) + 1)) hx hb dF_operands_19 hl rfl (cw_inc _) (by decide) rfl (fun ls hl => ?_)
        have hl : lv_has ls 3 [(1, .int (nI ((cw_ops w i) + 1))), (2, .int (nI i)), (0, .ref h)] := hl
        refine lv_iinc (k := 1) (v := nI (i + 1)) hx hb dF_operands_22 hl rfl (cw_inc _) (by decide) rfl (fun ls hl => ?_)
        have hl : lv_has ls 3 [(2, .int (nI (i + 1))), (1, .int (nI ((cw_ops w i) + 1))), (0, .ref h)] := hl
        refine lv_goto (tgt := 4) hx hb dF_operands_25 (by decide) ?_
        exact ih4 _ (by omega) (i + 1) ls rfl (cw_lvx (lv_sub (l' := [(2, .int (nI (i + 1))), (1, .int (nI ((cw_ops w i) + 1))), (0, .ref h)]) hl [0, 1, 2] rfl) (by simp only [cw_ops]; first | (rw [if_neg (by omega)]; rfl) | (rw [if_pos (by omega)]))) (by omega)

set_option maxHeartbeats 4000000 in
set_option maxRecDepth 100000 in
theorem c_F_missingBits (l : Launch) (dC : Nat → ClassId) (dI : Nat → Nat → Nat) (cI cZ : ClassId) (h pw ps po pk n : Nat) (wd sg ow co : Nat → Int32) (it w : Nat → Nat) (sb : Nat → Bool) (hF : fR n it w sb wd sg ow co) : Met l yF_missingBits wF_missingBits { frames := 1, cells := 0, slots := 0, locals := 22 } (ro_Pc (dC, dI) cls3 [(h, .inr (0, [.ref pw, .ref ps, .ref po, .ref pk, .int (nI n)])), (pw, .inl (cI, 6, .inl wd)), (ps, .inl (cZ, 6, .inl sg)), (po, .inl (cI, 64, .inl ow)), (pk, .inl (cI, 64, .inl co))] [(cI, .int), (cZ, .boolean)] [.ref h]) (vp_Si (fun r => r = nI (cw_lft it n w 6))) 0 0 (fun _ => False) := by
  refine Met.ofW (cc := cF_missingBits) (maxL := 3) (ret := (some .int)) (by decide) rfl ?_
  intro p e s m args below meth c s₁ B hml hv
  obtain ⟨rfl, hP, hK⟩ := hv
  have hx := B.exec
  have hb := B.bytes
  have hr := B.returns
  have hts := atoms_spec (ws := wF_missingBits) B.pre
  have hw : ∀ w ∈ wA, w.before _ s = true := fun w h => hts w (List.mem_cons_of_mem _ h)
  have hown : s.vm.findClass RF = some m.cls := findClass_of_methodNamed B.named
  have hlocks := B.notSynchronized
  have hl := lv_entry ([.ref h]) (n := 3) (Nat.le_of_ble_eq_true rfl)
  rw [lg_entry_eq]
  generalize (lg_sl ([.ref h]) ++ List.replicate (3 - (lg_sl ([.ref h])).length) Slot.unset).toArray = ls at hl ⊢
  have hl : lv_has ls 3 [(0, .ref h)] := hl
  have hn : n ≤ 64 := hF.1.1
  have hwd := hF.2.1
  have hsg := hF.2.2.1
  have hoc := hF.2.2.2
  have hit := cw_it hF.1
  have hw64 := hF.1.2.1
  refine lv_iconst (v := nI 0) hx hb dF_missingBits_0 (by decide +kernel) ?_
  refine lv_istore_n hx hb dF_missingBits_1 rfl hl (by decide) rfl (fun ls hl => ?_)
  have hl : lv_has ls 3 [(1, .int (nI 0)), (0, .ref h)] := hl
  refine lv_iconst (v := nI 0) hx hb dF_missingBits_2 (by decide +kernel) ?_
  refine lv_istore_n hx hb dF_missingBits_3 rfl hl (by decide) rfl (fun ls hl => ?_)
  have hl : lv_has ls 3 [(2, .int (nI 0)), (1, .int (nI 0)), (0, .ref h)] := hl
  refine (?_ : ∀ (kk : Nat) (i : Nat) (ls : Array Slot), kk = 6 - i → lv_has ls 3 [(2, .int (nI i)), (1, .int (nI (cw_sum w i))), (0, .ref h)] → (i ≤ 6) → W p l e _ s m _ below meth c _ _ _ _ _ (F0 m 4 ls [])) _ 0 ls rfl (lv_sub hl [0, 1, 2] rfl) (by omega)
  intro kk
  induction kk using Nat.strongRecOn with
  | ind kk4 ih4 =>
    intro i ls hkk4 hl hi
    refine lv_iload_n hx hb dF_missingBits_4 rfl (lv_at hl 0 rfl) ?_
    refine lv_bipush (v := nI 6) hx hb dF_missingBits_5 (by decide +kernel) ?_
    refine lv_icmp_ge (tgt := 25) hx hb dF_missingBits_7 (by decide) (fun h7 => ?_) (fun h7 => ?_)
    · rw [nI_leI (by omega) (by omega)] at h7
      refine lv_iload_n hx hb dF_missingBits_25 rfl (lv_at hl 1 rfl) ?_
      refine lv_aload_n hx hb dF_missingBits_26 rfl (lv_at hl 2 rfl) ?_
      refine va_get (D := (dC, dI)) (ci := 0) (v := .int (nI n)) (C := RF) (T := TF) (N := 5) hx hb hw inF hown hK hP 0 rfl rfl 4 (by decide) (hw _ kw_44) (fun _ h9 => h9) rfl dF_missingBits_27 ?_
      refine lv_aload_n hx hb dF_missingBits_30 rfl (lv_at hl 2 rfl) ?_
      refine vp_callSi (W.runV (As := []) (rest := [.int (nI n), .int (nI (cw_sum w i))]) ⟨hx, hb, hml, hown, hw⟩ (c_F_fixedBits l dC dI cI cZ h pw ps po pk n wd sg ow co it w sb hF) (cwV 0 hw (gV kw_268 kw_269 kw_270 kw_15 kw_271) rfl rfl rfl (by decide +kernel) ⟨Nat.le_of_ble_eq_true rfl, Nat.le_of_ble_eq_true rfl⟩) (ro_preV (q0 := 0) hK hP rfl rfl) rfl rfl hl.1 rfl (lv_room (Nat.le_of_ble_eq_true rfl)) dF_missingBits_31 ⟨Nat.zero_le _, Nat.zero_le _⟩) (fun v31 e31 => ?_)
      obtain rfl : v31 = nI (cw_fix it n) := e31
      refine lv_isub hx hb dF_missingBits_34 ?_
      refine lv_topi (fun v34 e34 => ?_)
      obtain rfl : v34 = nI (n - cw_fix it n) := e34.trans (pk_sub (cw_fix_le it n))
      refine lv_isub hx hb dF_missingBits_35 ?_
      refine lv_topi (fun v35 e35 => ?_)
      obtain rfl : v35 = nI (cw_sum w i - (n - cw_fix it n)) := e35.trans (pk_sub (by have := cw_missing it w n hF.1; rw [show i = 6 by omega]; omega))
      exact W.iret (v := nI (cw_sum w i - (n - cw_fix it n))) hx hb hr (fun t ht hW => ⟨_, rfl, (by have := cw_missing it w n hF.1; rw [show i = 6 by omega]; congr 1; omega), ht⟩) (fun q h => nomatch h) dF_missingBits_36
    · rw [nI_leI (by omega) (by omega)] at h7
      refine lv_iload_n hx hb dF_missingBits_10 rfl (lv_at hl 1 rfl) ?_
      refine lv_aload_n hx hb dF_missingBits_11 rfl (lv_at hl 2 rfl) ?_
      refine va_get (D := (dC, dI)) (ci := 0) (v := .ref pw) (C := RF) (T := TF) (N := 5) hx hb hw inF hown hK hP 0 rfl rfl 0 (by decide) (hw _ kw_39) (fun _ h9 => h9) rfl dF_missingBits_12 ?_
      refine lv_iload_n hx hb dF_missingBits_15 rfl (lv_at hl 0 rfl) ?_
      refine va_iald hx hb hK hP 1 0 rfl rfl (vp_in_nI (by omega) (by decide)) dF_missingBits_16 ?_
      refine lv_topi (fun v16 e16 => ?_)
      rw [nI_clamp (by omega)] at e16
      obtain rfl : v16 = nI (w i) := e16.trans (hwd i (by omega))
      refine lv_iadd hx hb dF_missingBits_17 ?_
      refine lv_topi (fun v17 e17 => ?_)
      obtain rfl : v17 = nI (cw_sum w i + w i) := e17.trans (nI_add _ _)
      refine lv_istore_n hx hb dF_missingBits_18 rfl hl (by decide) rfl (fun ls hl => ?_)
      have hl : lv_has ls 3 [(1, .int (nI (cw_sum w i + w i))), (2, .int (nI i)), (0, .ref h)] := hl
      refine lv_iinc (k := 1) (v := nI (i + 1)) hx hb dF_missingBits_19 hl rfl (cw_inc _) (by decide) rfl (fun ls hl => ?_)
      have hl : lv_has ls 3 [(2, .int (nI (i + 1))), (1, .int (nI (cw_sum w i + w i))), (0, .ref h)] := hl
      refine lv_goto (tgt := 4) hx hb dF_missingBits_22 (by decide) ?_
      exact ih4 _ (by omega) (i + 1) ls rfl (cw_lvx (lv_sub (l' := [(2, .int (nI (i + 1))), (1, .int (nI (cw_sum w i + w i))), (0, .ref h)]) hl [0, 1, 2] rfl) (rfl)) (by omega)

set_option maxHeartbeats 4000000 in
set_option maxRecDepth 100000 in
theorem c_F_isWhole (l : Launch) (dC : Nat → ClassId) (dI : Nat → Nat → Nat) (cI cZ : ClassId) (h pw ps po pk n : Nat) (wd sg ow co : Nat → Int32) (it w : Nat → Nat) (sb : Nat → Bool) (hF : fR n it w sb wd sg ow co) : Met l yF_isWhole wF_isWhole { frames := 2, cells := 0, slots := 0, locals := 44 } (ro_Pc (dC, dI) cls3 [(h, .inr (0, [.ref pw, .ref ps, .ref po, .ref pk, .int (nI n)])), (pw, .inl (cI, 6, .inl wd)), (ps, .inl (cZ, 6, .inl sg)), (po, .inl (cI, 64, .inl ow)), (pk, .inl (cI, 64, .inl co))] [(cI, .int), (cZ, .boolean)] [.ref h]) (vp_Si (fun r => r = nI (decide (cw_lft it n w 6 = 0)).toNat)) 0 0 (fun _ => False) := by
  refine Met.ofW (cc := cF_isWhole) (maxL := 1) (ret := (some .boolean)) (by decide) rfl ?_
  intro p e s m args below meth c s₁ B hml hv
  obtain ⟨rfl, hP, hK⟩ := hv
  have hx := B.exec
  have hb := B.bytes
  have hr := B.returns
  have hts := atoms_spec (ws := wF_isWhole) B.pre
  have hw : ∀ w ∈ wA, w.before _ s = true := fun w h => hts w (List.mem_cons_of_mem _ h)
  have hown : s.vm.findClass RF = some m.cls := findClass_of_methodNamed B.named
  have hlocks := B.notSynchronized
  have hl := lv_entry ([.ref h]) (n := 1) (Nat.le_of_ble_eq_true rfl)
  rw [lg_entry_eq]
  generalize (lg_sl ([.ref h]) ++ List.replicate (1 - (lg_sl ([.ref h])).length) Slot.unset).toArray = ls at hl ⊢
  have hl : lv_has ls 1 [(0, .ref h)] := hl
  have hn : n ≤ 64 := hF.1.1
  have hwd := hF.2.1
  have hsg := hF.2.2.1
  have hoc := hF.2.2.2
  have hit := cw_it hF.1
  have hw64 := hF.1.2.1
  have hlf : cw_lft it n w 6 ≤ 384 := by have := cw_missing it w n hF.1; have := cw_sum_le w 6 hw64; omega
  refine lv_aload_n hx hb dF_isWhole_0 rfl (lv_at hl 0 rfl) ?_
  refine vp_callSi (W.runV (As := []) (rest := []) ⟨hx, hb, hml, hown, hw⟩ (c_F_missingBits l dC dI cI cZ h pw ps po pk n wd sg ow co it w sb hF) (cwV 0 hw (gV kw_264 kw_265 kw_266 kw_15 kw_267) rfl rfl rfl (by decide +kernel) ⟨Nat.le_of_ble_eq_true rfl, Nat.le_of_ble_eq_true rfl⟩) (ro_preV (q0 := 0) hK hP rfl rfl) rfl rfl hl.1 rfl (lv_room (Nat.le_of_ble_eq_true rfl)) dF_isWhole_1 ⟨Nat.zero_le _, Nat.zero_le _⟩) (fun v1 e1 => ?_)
  obtain rfl : v1 = nI (cw_lft it n w 6) := e1
  refine lv_if_ne (tgt := 11) hx hb dF_isWhole_4 (by decide) (fun h4 => ?_) (fun h4 => ?_)
  · rw [nI_eq0 (by omega)] at h4
    refine lv_iconst (v := nI 0) hx hb dF_isWhole_11 (by decide +kernel) ?_
    exact W.zret (v := nI 0) hx hb hr (by first | exact b_nar _ | decide +kernel) (fun t ht hW => ⟨_, rfl, (by first | (rw [decide_eq_false h4]; rfl) | (rw [decide_eq_true h4]; rfl)), ht⟩) (fun q h => nomatch h) dF_isWhole_12
  · rw [nI_eq0 (by omega)] at h4
    refine lv_iconst (v := nI 1) hx hb dF_isWhole_7 (by decide +kernel) ?_
    refine lv_goto (tgt := 12) hx hb dF_isWhole_8 (by decide) ?_
    exact W.zret (v := nI 1) hx hb hr (by first | exact b_nar _ | decide +kernel) (fun t ht hW => ⟨_, rfl, (by first | (rw [decide_eq_false h4]; rfl) | (rw [decide_eq_true h4]; rfl)), ht⟩) (fun q h => nomatch h) dF_isWhole_12

set_option maxHeartbeats 4000000 in
set_option maxRecDepth 100000 in
theorem c_F_allows (l : Launch) (dC : Nat → ClassId) (dI : Nat → Nat → Nat) (cI cZ : ClassId) (h pw ps po pk n : Nat) (wd sg ow co : Nat → Int32) (it w : Nat → Nat) (sb : Nat → Bool) (hF : fR n it w sb wd sg ow co) (j b : Nat) (hj : j < 64) (hb2 : b < 2) : Met l yF_allows wF_allows { frames := 0, cells := 0, slots := 0, locals := 0 } (ro_Pc (dC, dI) cls3 [(h, .inr (0, [.ref pw, .ref ps, .ref po, .ref pk, .int (nI n)])), (pw, .inl (cI, 6, .inl wd)), (ps, .inl (cZ, 6, .inl sg)), (po, .inl (cI, 64, .inl ow)), (pk, .inl (cI, 64, .inl co))] [(cI, .int), (cZ, .boolean)] [.ref h, .int (nI j), .int (nI b)]) (vp_Si (fun r => r = nI (alw it n j b).toNat)) 0 0 (fun _ => False) := by
  refine Met.ofW (cc := cF_allows) (maxL := 4) (ret := (some .boolean)) (by decide) rfl ?_
  intro p e s m args below meth c s₁ B hml hv
  obtain ⟨rfl, hP, hK⟩ := hv
  have hx := B.exec
  have hb := B.bytes
  have hr := B.returns
  have hts := atoms_spec (ws := wF_allows) B.pre
  have hw : ∀ w ∈ wA, w.before _ s = true := fun w h => hts w (List.mem_cons_of_mem _ h)
  have hown : s.vm.findClass RF = some m.cls := findClass_of_methodNamed B.named
  have hlocks := B.notSynchronized
  have hl := lv_entry ([.ref h, .int (nI j), .int (nI b)]) (n := 4) (Nat.le_of_ble_eq_true rfl)
  rw [lg_entry_eq]
  generalize (lg_sl ([.ref h, .int (nI j), .int (nI b)]) ++ List.replicate (4 - (lg_sl ([.ref h, .int (nI j), .int (nI b)])).length) Slot.unset).toArray = ls at hl ⊢
  have hl : lv_has ls 4 [(0, .ref h), (1, .int (nI j)), (2, .int (nI b))] := hl
  have hn : n ≤ 64 := hF.1.1
  have hwd := hF.2.1
  have hsg := hF.2.2.1
  have hoc := hF.2.2.2
  have hit := cw_it hF.1
  have hw64 := hF.1.2.1
  refine lv_iload_n hx hb dF_allows_0 rfl (lv_at hl 1 rfl) ?_
  refine lv_aload_n hx hb dF_allows_1 rfl (lv_at hl 0 rfl) ?_
  refine va_get (D := (dC, dI)) (ci := 0) (v := .int (nI n)) (C := RF) (T := TF) (N := 5) hx hb hw inF hown hK hP 0 rfl rfl 4 (by decide) (hw _ kw_44) (fun _ h9 => h9) rfl dF_allows_2 ?_
  refine lv_icmp_lt (tgt := 18) hx hb dF_allows_5 (by decide) (fun h5 => ?_) (fun h5 => ?_)
  · rw [nI_ltI (by omega) (by omega)] at h5
    refine lv_aload_n hx hb dF_allows_18 rfl (lv_at hl 0 rfl) ?_
    refine va_get (D := (dC, dI)) (ci := 0) (v := .int (nI n)) (C := RF) (T := TF) (N := 5) hx hb hw inF hown hK hP 0 rfl rfl 4 (by decide) (hw _ kw_44) (fun _ h9 => h9) rfl dF_allows_19 ?_
    refine lv_iconst (v := nI 1) hx hb dF_allows_22 (by decide +kernel) ?_
    refine lv_isub hx hb dF_allows_23 ?_
    refine lv_topi (fun v23 e23 => ?_)
    obtain rfl : v23 = nI (n - 1) := e23.trans (pk_sub (by omega))
    refine lv_iload_n hx hb dF_allows_24 rfl (lv_at hl 1 rfl) ?_
    refine lv_isub hx hb dF_allows_25 ?_
    refine lv_topi (fun v25 e25 => ?_)
    obtain rfl : v25 = nI (n - 1 - j) := e25.trans (pk_sub (by omega))
    refine lv_istore_n hx hb dF_allows_26 rfl hl (by decide) rfl (fun ls hl => ?_)
    have hl : lv_has ls 4 [(3, .int (nI (n - 1 - j))), (0, .ref h), (1, .int (nI j)), (2, .int (nI b))] := hl
    refine lv_aload_n hx hb dF_allows_27 rfl (lv_at hl 1 rfl) ?_
    refine va_get (D := (dC, dI)) (ci := 0) (v := .ref po) (C := RF) (T := TF) (N := 5) hx hb hw inF hown hK hP 0 rfl rfl 2 (by decide) (hw _ kw_42) (fun _ h9 => h9) rfl dF_allows_28 ?_
    refine lv_iload_n hx hb dF_allows_31 rfl (lv_at hl 0 rfl) ?_
    refine va_iald hx hb hK hP 3 0 rfl rfl (vp_in_nI (by omega) (by decide)) dF_allows_32 ?_
    refine lv_topi (fun v32 e32 => ?_)
    rw [nI_clamp (by omega)] at e32
    obtain rfl : v32 = cw_O (it (n - 1 - j)) := e32.trans (hoc (n - 1 - j) (by omega)).1
    refine lv_iconst (v := (-1)) hx hb dF_allows_33 (by decide +kernel) ?_
    refine lv_icmp_ne (tgt := 47) hx hb dF_allows_34 (by decide) (fun h34 => ?_) (fun h34 => ?_)
    · rw [cw_O_m1 (hit _ (by omega))] at h34
      refine lv_iconst (v := nI 1) hx hb dF_allows_47 (by decide +kernel) ?_
      refine lv_goto (tgt := 52) hx hb dF_allows_48 (by decide) ?_
      exact W.zret (v := nI 1) hx hb hr (by first | exact b_nar _ | decide +kernel) (fun t ht hW => ⟨_, rfl, (by first | exact alw_a h5 h9 | exact alw_b h5 h9 | exact alw_c h5 h34 | exact alw_d h5 h34 h44 | exact alw_e h5 h34 h44), ht⟩) (fun q h => nomatch h) dF_allows_52
    · rw [cw_O_m1 (hit _ (by omega))] at h34
      refine lv_aload_n hx hb dF_allows_37 rfl (lv_at hl 1 rfl) ?_
      refine va_get (D := (dC, dI)) (ci := 0) (v := .ref pk) (C := RF) (T := TF) (N := 5) hx hb hw inF hown hK hP 0 rfl rfl 3 (by decide) (hw _ kw_43) (fun _ h9 => h9) rfl dF_allows_38 ?_
      refine lv_iload_n hx hb dF_allows_41 rfl (lv_at hl 0 rfl) ?_
      refine va_iald hx hb hK hP 4 0 rfl rfl (vp_in_nI (by omega) (by decide)) dF_allows_42 ?_
      refine lv_topi (fun v42 e42 => ?_)
      rw [nI_clamp (by omega)] at e42
      obtain rfl : v42 = cw_C (it (n - 1 - j)) := e42.trans (hoc (n - 1 - j) (by omega)).2
      refine lv_iload_n hx hb dF_allows_43 rfl (lv_at hl 3 rfl) ?_
      refine lv_icmp_ne (tgt := 51) hx hb dF_allows_44 (by decide) (fun h44 => ?_) (fun h44 => ?_)
      · rw [cw_C_lo h34, nI_eq (by omega) (by omega)] at h44
        refine lv_iconst (v := nI 0) hx hb dF_allows_51 (by decide +kernel) ?_
        exact W.zret (v := nI 0) hx hb hr (by first | exact b_nar _ | decide +kernel) (fun t ht hW => ⟨_, rfl, (by first | exact alw_a h5 h9 | exact alw_b h5 h9 | exact alw_c h5 h34 | exact alw_d h5 h34 h44 | exact alw_e h5 h34 h44), ht⟩) (fun q h => nomatch h) dF_allows_52
      · rw [cw_C_lo h34, nI_eq (by omega) (by omega)] at h44
        refine lv_iconst (v := nI 1) hx hb dF_allows_47 (by decide +kernel) ?_
        refine lv_goto (tgt := 52) hx hb dF_allows_48 (by decide) ?_
        exact W.zret (v := nI 1) hx hb hr (by first | exact b_nar _ | decide +kernel) (fun t ht hW => ⟨_, rfl, (by first | exact alw_a h5 h9 | exact alw_b h5 h9 | exact alw_c h5 h34 | exact alw_d h5 h34 h44 | exact alw_e h5 h34 h44), ht⟩) (fun q h => nomatch h) dF_allows_52
  · rw [nI_ltI (by omega) (by omega)] at h5
    refine lv_iload_n hx hb dF_allows_8 rfl (lv_at hl 2 rfl) ?_
    refine lv_if_ne (tgt := 16) hx hb dF_allows_9 (by decide) (fun h9 => ?_) (fun h9 => ?_)
    · rw [nI_eq0 (by omega)] at h9
      refine lv_iconst (v := nI 0) hx hb dF_allows_16 (by decide +kernel) ?_
      exact W.zret (v := nI 0) hx hb hr (by first | exact b_nar _ | decide +kernel) (fun t ht hW => ⟨_, rfl, (by first | exact alw_a h5 h9 | exact alw_b h5 h9 | exact alw_c h5 h34 | exact alw_d h5 h34 h44 | exact alw_e h5 h34 h44), ht⟩) (fun q h => nomatch h) dF_allows_17
    · rw [nI_eq0 (by omega)] at h9
      refine lv_iconst (v := nI 1) hx hb dF_allows_12 (by decide +kernel) ?_
      refine lv_goto (tgt := 17) hx hb dF_allows_13 (by decide) ?_
      exact W.zret (v := nI 1) hx hb hr (by first | exact b_nar _ | decide +kernel) (fun t ht hW => ⟨_, rfl, (by first | exact alw_a h5 h9 | exact alw_b h5 h9 | exact alw_c h5 h34 | exact alw_d h5 h34 h44 | exact alw_e h5 h34 h44), ht⟩) (fun q h => nomatch h) dF_allows_17

set_option maxHeartbeats 4000000 in
set_option maxRecDepth 100000 in
theorem c_F_matches (l : Launch) (dC : Nat → ClassId) (dI : Nat → Nat → Nat) (cI cZ : ClassId) (h pw ps po pk n : Nat) (wd sg ow co : Nat → Int32) (it w : Nat → Nat) (sb : Nat → Bool) (hF : fR n it w sb wd sg ow co) (wo : Int64) : Met l yF_matches wF_matches { frames := 1, cells := 0, slots := 0, locals := 23 } (ro_Pc (dC, dI) cls3 [(h, .inr (0, [.ref pw, .ref ps, .ref po, .ref pk, .int (nI n)])), (pw, .inl (cI, 6, .inl wd)), (ps, .inl (cZ, 6, .inl sg)), (po, .inl (cI, 64, .inl ow)), (pk, .inl (cI, 64, .inl co))] [(cI, .int), (cZ, .boolean)] [.ref h, .long wo]) (vp_Si (fun r => r = nI (allb (fun j => alw it n j (bq wo j)) 64).toNat)) 0 0 (fun _ => False) := by
  refine Met.ofW (cc := cF_matches) (maxL := 4) (ret := (some .boolean)) (by decide) rfl ?_
  intro p e s m args below meth c s₁ B hml hv
  obtain ⟨rfl, hP, hK⟩ := hv
  have hx := B.exec
  have hb := B.bytes
  have hr := B.returns
  have hts := atoms_spec (ws := wF_matches) B.pre
  have hw : ∀ w ∈ wA, w.before _ s = true := fun w h => hts w (List.mem_cons_of_mem _ h)
  have hown : s.vm.findClass RF = some m.cls := findClass_of_methodNamed B.named
  have hlocks := B.notSynchronized
  have hl := lv_entry ([.ref h, .long wo]) (n := 4) (Nat.le_of_ble_eq_true rfl)
  rw [lg_entry_eq]
  generalize (lg_sl ([.ref h, .long wo]) ++ List.replicate (4 - (lg_sl ([.ref h, .long wo])).length) Slot.unset).toArray = ls at hl ⊢
  have hl : lv_has ls 4 [(0, .ref h), (1, .long wo)] := hl
  have hn : n ≤ 64 := hF.1.1
  have hwd := hF.2.1
  have hsg := hF.2.2.1
  have hoc := hF.2.2.2
  have hit := cw_it hF.1
  have hw64 := hF.1.2.1
  refine lv_iconst (v := nI 0) hx hb dF_matches_0 (by decide +kernel) ?_
  refine lv_istore_n hx hb dF_matches_1 rfl hl (by decide) rfl (fun ls hl => ?_)
  have hl : lv_has ls 4 [(3, .int (nI 0)), (0, .ref h), (1, .long wo)] := hl
  refine (?_ : ∀ (kk : Nat) (j : Nat) (ls : Array Slot), kk = 64 - j → lv_has ls 4 [(3, .int (nI j)), (0, .ref h), (1, .long wo)] → (j ≤ 64) → (allb (fun j => alw it n j (bq wo j)) j = true) → W p l e _ s m _ below meth c _ _ _ _ _ (F0 m 2 ls [])) _ 0 ls rfl (lv_sub hl [0, 1, 2] rfl) (by omega) rfl
  intro kk
  induction kk using Nat.strongRecOn with
  | ind kk2 ih2 =>
    intro j ls hkk2 hl hj ha
    refine lv_iload_n hx hb dF_matches_2 rfl (lv_at hl 0 rfl) ?_
    refine lv_bipush (v := nI 64) hx hb dF_matches_3 (by decide +kernel) ?_
    refine lv_icmp_ge (tgt := 29) hx hb dF_matches_5 (by decide) (fun h5 => ?_) (fun h5 => ?_)
    · rw [nI_leI (by omega) (by omega)] at h5
      refine lv_iconst (v := nI 1) hx hb dF_matches_29 (by decide +kernel) ?_
      exact W.zret (v := nI 1) hx hb hr (by first | exact b_nar _ | decide +kernel) (fun t ht hW => ⟨_, rfl, (by first | (rw [show j = 64 by omega] at ha; rw [ha]; rfl) | (rw [allb_f _ 64 (k := j) (by omega) ((b_nat0 _).mp h18)]; rfl)), ht⟩) (fun q h => nomatch h) dF_matches_30
    · rw [nI_leI (by omega) (by omega)] at h5
      refine lv_aload_n hx hb dF_matches_8 rfl (lv_at hl 1 rfl) ?_
      refine lv_iload_n hx hb dF_matches_9 rfl (lv_at hl 0 rfl) ?_
      refine lv_lload_n hx hb dF_matches_10 rfl (lv_at hl 2 rfl) ?_
      refine lv_iload_n hx hb dF_matches_11 rfl (lv_at hl 0 rfl) ?_
      refine vp_callSi (W.runS (As := [.long wo, .int (nI j)]) (rest := [.int (nI j), .ref h]) ⟨hx, hb, hml, hown, hw⟩ (c_F_bitOf l wo j (by omega)) (cwS 2 hw (gS kw_223 kw_224 kw_15 kw_225) rfl rfl rfl (by decide +kernel) ⟨Nat.le_of_ble_eq_true rfl, Nat.le_of_ble_eq_true rfl⟩) preEq rfl rfl hl.1 rfl (lv_room (Nat.le_of_ble_eq_true rfl)) dF_matches_12 ⟨Nat.zero_le _, Nat.zero_le _⟩) (fun v12 e12 => ?_)
      obtain rfl : v12 = nI (bq wo j) := e12
      refine vp_callSi (W.runV (As := [.int (nI j), .int (nI (bq wo j))]) (rest := []) ⟨hx, hb, hml, hown, hw⟩ (c_F_allows l dC dI cI cZ h pw ps po pk n wd sg ow co it w sb hF j (bq wo j) (by omega) (bq_lt _ _)) (cwV 2 hw (gV kw_339 kw_341 kw_4 kw_15 kw_342) rfl rfl rfl (by decide +kernel) ⟨Nat.le_of_ble_eq_true rfl, Nat.le_of_ble_eq_true rfl⟩) (ro_preV (q0 := 0) hK hP rfl rfl) rfl rfl hl.1 rfl (lv_room (Nat.le_of_ble_eq_true rfl)) dF_matches_15 ⟨Nat.zero_le _, Nat.zero_le _⟩) (fun v15 e15 => ?_)
      obtain rfl : v15 = nI (alw it n j (bq wo j)).toNat := e15
      refine lv_if_ne (tgt := 23) hx hb dF_matches_18 (by decide) (fun h18 => ?_) (fun h18 => ?_)
      · refine lv_iinc (k := 0) (v := nI (j + 1)) hx hb dF_matches_23 hl rfl (cw_inc _) (by decide) rfl (fun ls hl => ?_)
        have hl : lv_has ls 4 [(3, .int (nI (j + 1))), (0, .ref h), (1, .long wo)] := hl
        refine lv_goto (tgt := 2) hx hb dF_matches_26 (by decide) ?_
        exact ih2 _ (by omega) (j + 1) ls rfl (lv_sub (l' := [(3, .int (nI (j + 1))), (0, .ref h), (1, .long wo)]) hl [0, 1, 2] rfl) (by omega) (by simp only [allb, ha, Bool.true_and]; exact b_nf h18)
      · refine lv_iconst (v := nI 0) hx hb dF_matches_21 (by decide +kernel) ?_
        exact W.zret (v := nI 0) hx hb hr (by first | exact b_nar _ | decide +kernel) (fun t ht hW => ⟨_, rfl, (by first | (rw [show j = 64 by omega] at ha; rw [ha]; rfl) | (rw [allb_f _ 64 (k := j) (by omega) ((b_nat0 _).mp h18)]; rfl)), ht⟩) (fun q h => nomatch h) dF_matches_22
