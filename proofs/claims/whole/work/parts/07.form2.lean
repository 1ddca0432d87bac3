def hcd (it : Nat → Nat) (o hi lo j : Nat) : Bool := decide (¬ it j < 2 ∧ (it j - 2) / 64 = o ∧ lo ≤ (it j - 2) % 64 ∧ (it j - 2) % 64 ≤ hi)
theorem hcd_f {it : Nat → Nat} {o hi lo j : Nat} (h : ¬ (¬ it j < 2 ∧ (it j - 2) / 64 = o ∧ lo ≤ (it j - 2) % 64 ∧ (it j - 2) % 64 ≤ hi)) : (!hcd it o hi lo j) = true := by
  unfold hcd; rw [decide_eq_false h]; rfl
theorem hcd_t {it : Nat → Nat} {o hi lo j : Nat} (h : ¬ it j < 2 ∧ (it j - 2) / 64 = o ∧ lo ≤ (it j - 2) % 64 ∧ (it j - 2) % 64 ≤ hi) : (!hcd it o hi lo j) = false := by
  unfold hcd; rw [decide_eq_true h]; rfl
theorem b_ff {b : Bool} (h : ¬ b = true) : b = false := by cases b <;> simp_all
theorem fitB_64 (sg : Bool) (v : Int64) : fitB 64 sg v = true := (fitB_iff 64 sg v).mpr (fun k h1 h2 => by omega)
/-- bit i of a word by the numbers of the operands -/
def ebit (it : Nat → Nat) (nu : Nat → Int64) (i : Nat) : Nat := if it i < 2 then it i else bq (nu ((it i - 2) / 64)) ((it i - 2) % 64)
theorem ebit_lt (it : Nat → Nat) (nu : Nat → Int64) (i : Nat) : ebit it nu i < 2 := by
  unfold ebit; split
  · assumption
  · exact bq_lt _ _
theorem ebit_lo {it : Nat → Nat} {nu : Nat → Int64} {i : Nat} (h : it i < 2) : cw_C (it i) = nI (ebit it nu i) := by
  rw [cw_C_lo h]; unfold ebit; rw [if_pos h]
theorem ebit_hi {it : Nat → Nat} {nu : Nat → Int64} {i : Nat} (h : ¬ it i < 2) : nI (bq (nu ((it i - 2) / 64)) ((it i - 2) % 64)) = nI (ebit it nu i) := by
  unfold ebit; rw [if_neg h]
/-- bit k of operand o in a word, as far as i items tell -/
def dsp (it : Nat → Nat) (n o : Nat) (wo : Int64) : Nat → Nat → Nat
  | 0, _ => 0
  | i + 1, k => if it i = 2 + 64 * o + k then bq wo (n - 1 - i) else dsp it n o wo i k
theorem dsp_0 (it : Nat → Nat) (n o : Nat) (wo : Int64) : ∀ k, k < 64 → bq (lN 0) k = dsp it n o wo 0 k := by
  intro k _
  rw [bq_lN (by decide)]
  simp [dsp]
theorem dsp_none {it : Nat → Nat} {n o : Nat} {wo : Int64} {k : Nat} : ∀ i, (∀ j, j < i → it j ≠ 2 + 64 * o + k) → dsp it n o wo i k = 0 := by
  intro i
  induction i with
  | zero => intro _; rfl
  | succ i ih =>
    intro h
    simp only [dsp]
    rw [if_neg (h i (by omega))]
    exact ih (fun j hj => h j (by omega))
theorem dsp_at {it w : Nat → Nat} {n o : Nat} {wo : Int64} {k : Nat} (hok : cw_ok it n w) {j : Nat} (hj : j < n) (e : it j = 2 + 64 * o + k) : ∀ i, j < i → i ≤ n → dsp it n o wo i k = bq wo (n - 1 - j) := by
  intro i
  induction i with
  | zero => intro h; omega
  | succ i ih =>
    intro h1 h2
    simp only [dsp]
    by_cases hi : it i = 2 + 64 * o + k
    · have : i = j := hok.2.2.2 i j (by omega) hj (by omega) (by omega)
      rw [if_pos hi, this]
    · rw [if_neg hi]
      have : j ≠ i := fun q => hi (by rw [← q]; exact e)
      exact ih (by omega) (by omega)
theorem dsp_skip {it : Nat → Nat} {n o i : Nat} {wo x : Int64} (hd : ∀ k, k < 64 → bq x k = dsp it n o wo i k) (h : ¬ (¬ it i < 2 ∧ (it i - 2) / 64 = o)) : ∀ k, k < 64 → bq x k = dsp it n o wo (i + 1) k := by
  intro k hk
  simp only [dsp]
  rw [if_neg (fun q => h ⟨by omega, by omega⟩)]
  exact hd k hk
theorem dsp_put {it w : Nat → Nat} {n o i : Nat} {wo x : Int64} (hok : cw_ok it n w) (hi : i < n) (ho : o < 6) (hd : ∀ k, k < 64 → bq x k = dsp it n o wo i k) (h : ¬ it i < 2 ∧ (it i - 2) / 64 = o) :
    ∀ k, k < 64 → bq (x ||| (lN (bq wo (n - 1 - i)) <<< ((nI ((it i - 2) % 64)).toInt64 &&& 63))) k = dsp it n o wo (i + 1) k := by
  intro k hk
  have hb := bq_lt wo (n - 1 - i)
  rw [bq_or, bq_one _ _ _ hb (by omega), hd k hk]
  simp only [dsp]
  by_cases e : k = (it i - 2) % 64
  · have hx : it i = 2 + 64 * o + k := by omega
    rw [if_pos hx, if_pos e]
    rw [dsp_none i (fun j hj q => by
      have := hok.2.2.2 j i (by omega) hi (by omega) (by omega)
      omega)]
    by_cases h1 : bq wo (n - 1 - i) = 1
    · rw [if_pos (Or.inr h1), h1]
    · rw [if_neg (by omega)]; omega
  · have hx : ¬ it i = 2 + 64 * o + k := by omega
    rw [if_neg hx, if_neg e]
    have hl : dsp it n o wo i k < 2 := by rw [← hd k hk]; exact bq_lt _ _
    by_cases h1 : dsp it n o wo i k = 1
    · rw [if_pos (Or.inl h1), h1]
    · rw [if_neg (by omega)]; omega
/-- r is the number of operand o (w bits, signed or not) in the word -/
def dcP (it : Nat → Nat) (n w : Nat) (sg : Bool) (o : Nat) (wo : Int64) (r : Int64) : Prop :=
  ∀ k, k < 64 → ∀ j, j < n → it j = 2 + 64 * o + (if k < w then k else w - 1) → bq r k = if k < w ∨ sg = true then bq wo (n - 1 - j) else 0
theorem dsp_over {it w : Nat → Nat} {n o : Nat} {wo : Int64} (hok : cw_ok it n w) (ho : o < 6) {k : Nat} (hk : k < 64) (h : ¬ k < w o) : dsp it n o wo n k = 0 :=
  dsp_none n (fun j hj q => by
    rcases hok.2.2.1 j hj with h1 | ⟨o', k', ho', hk', e⟩
    · omega
    · have := hok.2.1 o' ho'
      have e1 : o' = o := by omega
      subst e1
      omega)
theorem dcP_u {it w : Nat → Nat} {n o : Nat} {wo x : Int64} (hok : cw_ok it n w) (ho : o < 6) (hw1 : 0 < w o) (hd : ∀ k, k < 64 → bq x k = dsp it n o wo n k) : dcP it n (w o) false o wo x := by
  intro k hk j hj e
  rw [hd k hk]
  by_cases hc : k < w o
  · rw [if_pos hc] at e
    rw [if_pos (Or.inl hc), dsp_at hok hj e n hj (Nat.le_refl _)]
  · rw [if_neg (by simp [hc]), dsp_over hok ho hk hc]
theorem dcP_s {it w : Nat → Nat} {n o : Nat} {wo x : Int64} (hok : cw_ok it n w) (ho : o < 6) (hw1 : 0 < w o) (hd : ∀ k, k < 64 → bq x k = dsp it n o wo n k) : dcP it n (w o) true o wo ((x <<< ((nI (64 - w o)).toInt64 &&& 63)) >>> ((nI (64 - w o)).toInt64 &&& 63)) := by
  intro k hk j hj e
  have hwo := hok.2.1 o ho
  rw [bq_sx x (by omega) hwo hk, if_pos (Or.inr rfl)]
  by_cases hc : k < w o
  · rw [if_pos hc] at e ⊢
    rw [hd k hk, dsp_at hok hj e n hj (Nat.le_refl _)]
  · rw [if_neg hc] at e ⊢
    rw [hd _ (by omega), dsp_at hok hj e n hj (Nat.le_refl _)]
/-- a bit that both forms allow there -/
def shw (it : Nat → Nat) (n : Nat) (it2 : Nat → Nat) (n2 : Nat) (j : Nat) : Bool := (alw it n j 0 && alw it2 n2 j 0) || (alw it n j 1 && alw it2 n2 j 1)
theorem shw_0 {it it2 : Nat → Nat} {n n2 j : Nat} (h1 : alw it n j 0 = true) (h2 : alw it2 n2 j 0 = true) : shw it n it2 n2 j = true := by unfold shw; rw [h1, h2]; rfl
theorem shw_1 {it it2 : Nat → Nat} {n n2 j : Nat} (h1 : alw it n j 1 = true) (h2 : alw it2 n2 j 1 = true) : shw it n it2 n2 j = true := by unfold shw; rw [h1, h2]; simp
theorem shw_f {it it2 : Nat → Nat} {n n2 j : Nat} (h1 : alw it n j 0 = false ∨ alw it2 n2 j 0 = false) (h2 : alw it n j 1 = false ∨ alw it2 n2 j 1 = false) : shw it n it2 n2 j = false := by
  unfold shw
  rcases h1 with h1 | h1 <;> rcases h2 with h2 | h2 <;> simp [h1, h2]
set_option maxHeartbeats 4000000 in
set_option maxRecDepth 100000 in
theorem c_F_holdsAny (l : Launch) (dC : Nat → ClassId) (dI : Nat → Nat → Nat) (cI cZ : ClassId) (h pw ps po pk n : Nat) (wd sg ow co : Nat → Int32) (it w : Nat → Nat) (sb : Nat → Bool) (hF : fR n it w sb wd sg ow co) (o hi lo : Nat) (ho : o < 6) (hhi : hi < 64) (hlo : lo ≤ hi) : Met l yF_holdsAny wF_holdsAny { frames := 0, cells := 0, slots := 0, locals := 0 } (ro_Pc (dC, dI) cls3 [(h, .inr (0, [.ref pw, .ref ps, .ref po, .ref pk, .int (nI n)])), (pw, .inl (cI, 6, .inl wd)), (ps, .inl (cZ, 6, .inl sg)), (po, .inl (cI, 64, .inl ow)), (pk, .inl (cI, 64, .inl co))] [(cI, .int), (cZ, .boolean)] [.ref h, .int (nI o), .int (nI hi), .int (nI lo)]) (vp_Si (fun r => r = nI (!(allb (fun j => !(hcd it o hi lo j)) n)).toNat)) 0 0 (fun _ => False) := by
  refine Met.ofW (cc := cF_holdsAny) (maxL := 5) (ret := (some .boolean)) (by decide) rfl ?_
  intro p e s m args below meth c s₁ B hml hv
  obtain ⟨rfl, hP, hK⟩ := hv
  have hx := B.exec
  have hb := B.bytes
  have hr := B.returns
  have hts := atoms_spec (ws := wF_holdsAny) B.pre
  have hw : ∀ w ∈ wA, w.before _ s = true := fun w h => hts w (List.mem_cons_of_mem _ h)
  have hown : s.vm.findClass RF = some m.cls := findClass_of_methodNamed B.named
  have hlocks := B.notSynchronized
  have hl := lv_entry ([.ref h, .int (nI o), .int (nI hi), .int (nI lo)]) (n := 5) (Nat.le_of_ble_eq_true rfl)
  rw [lg_entry_eq]
  generalize (lg_sl ([.ref h, .int (nI o), .int (nI hi), .int (nI lo)]) ++ List.replicate (5 - (lg_sl ([.ref h, .int (nI o), .int (nI hi), .int (nI lo)])).length) Slot.unset).toArray = ls at hl ⊢
  have hl : lv_has ls 5 [(0, .ref h), (1, .int (nI o)), (2, .int (nI hi)), (3, .int (nI lo))] := hl
  have hn : n ≤ 64 := hF.1.1
  have hwd := hF.2.1
  have hsg := hF.2.2.1
  have hoc := hF.2.2.2
  have hit := cw_it hF.1
  have hw64 := hF.1.2.1
  refine lv_iconst (v := nI 0) hx hb dF_holdsAny_0 (by decide +kernel) ?_
  refine lv_istore hx hb dF_holdsAny_1 hl (by decide) rfl (fun ls hl => ?_)
  have hl : lv_has ls 5 [(4, .int (nI 0)), (0, .ref h), (1, .int (nI o)), (2, .int (nI hi)), (3, .int (nI lo))] := hl
  refine (?_ : ∀ (kk : Nat) (j : Nat) (ls : Array Slot), kk = n - j → lv_has ls 5 [(4, .int (nI j)), (0, .ref h), (1, .int (nI o)), (2, .int (nI hi)), (3, .int (nI lo))] → (j ≤ n) → (allb (fun j => !(hcd it o hi lo j)) j = true) → W p l e _ s m _ below meth c _ _ _ _ _ (F0 m 3 ls [])) _ 0 ls rfl (lv_sub hl [0, 1, 2, 3, 4] rfl) (by omega) rfl
  intro kk
  induction kk using Nat.strongRecOn with
  | ind kk3 ih3 =>
    intro j ls hkk3 hl hj ha
    refine lv_iload hx hb dF_holdsAny_3 (lv_at hl 0 rfl) ?_
    refine lv_aload_n hx hb dF_holdsAny_5 rfl (lv_at hl 1 rfl) ?_
    refine va_get (D := (dC, dI)) (ci := 0) (v := .int (nI n)) (C := RF) (T := TF) (N := 5) hx hb hw inF hown hK hP 0 rfl rfl 4 (by decide) (hw _ kw_44) (fun _ h9 => h9) rfl dF_holdsAny_6 ?_
    refine lv_icmp_ge (tgt := 53) hx hb dF_holdsAny_9 (by decide) (fun h9 => ?_) (fun h9 => ?_)
    · rw [nI_leI (by omega) (by omega)] at h9
      refine lv_iconst (v := nI 0) hx hb dF_holdsAny_53 (by decide +kernel) ?_
      exact W.zret (v := nI 0) hx hb hr (by first | exact b_nar _ | decide +kernel) (fun t ht hW => ⟨_, rfl, (by first | (rw [show j = n by omega] at ha; rw [ha]; rfl) | (rw [allb_f _ n (k := j) (by omega) (hcd_t ⟨h20.1, h20.2, by omega, by omega⟩)]; rfl)), ht⟩) (fun q h => nomatch h) dF_holdsAny_54
    · rw [nI_leI (by omega) (by omega)] at h9
      refine lv_aload_n hx hb dF_holdsAny_12 rfl (lv_at hl 1 rfl) ?_
      refine va_get (D := (dC, dI)) (ci := 0) (v := .ref po) (C := RF) (T := TF) (N := 5) hx hb hw inF hown hK hP 0 rfl rfl 2 (by decide) (hw _ kw_42) (fun _ h9 => h9) rfl dF_holdsAny_13 ?_
      refine lv_iload hx hb dF_holdsAny_16 (lv_at hl 0 rfl) ?_
      refine va_iald hx hb hK hP 3 0 rfl rfl (vp_in_nI (by omega) (by decide)) dF_holdsAny_18 ?_
      refine lv_topi (fun v18 e18 => ?_)
      rw [nI_clamp (by omega)] at e18
      obtain rfl : v18 = cw_O (it j) := e18.trans (hoc j (by omega)).1
      refine lv_iload_n hx hb dF_holdsAny_19 rfl (lv_at hl 2 rfl) ?_
      refine lv_icmp_ne (tgt := 47) hx hb dF_holdsAny_20 (by decide) (fun h20 => ?_) (fun h20 => ?_)
      · rw [cw_O_eq (hit j (by omega)) ho] at h20
        refine lv_iinc (k := 0) (v := nI (j + 1)) hx hb dF_holdsAny_47 hl rfl (cw_inc _) (by decide) rfl (fun ls hl => ?_)
        have hl : lv_has ls 5 [(4, .int (nI (j + 1))), (0, .ref h), (1, .int (nI o)), (2, .int (nI hi)), (3, .int (nI lo))] := hl
        refine lv_goto (tgt := 3) hx hb dF_holdsAny_50 (by decide) ?_
        exact ih3 _ (by omega) (j + 1) ls rfl (lv_sub (l' := [(4, .int (nI (j + 1))), (0, .ref h), (1, .int (nI o)), (2, .int (nI hi)), (3, .int (nI lo))]) hl [0, 1, 2, 3, 4] rfl) (by omega) (by simp only [allb, ha, Bool.true_and]; exact hcd_f (fun q => by first | exact h20 ⟨q.1, q.2.1⟩ | omega))
      · rw [cw_O_eq (hit j (by omega)) ho] at h20
        refine lv_aload_n hx hb dF_holdsAny_23 rfl (lv_at hl 1 rfl) ?_
        refine va_get (D := (dC, dI)) (ci := 0) (v := .ref pk) (C := RF) (T := TF) (N := 5) hx hb hw inF hown hK hP 0 rfl rfl 3 (by decide) (hw _ kw_43) (fun _ h9 => h9) rfl dF_holdsAny_24 ?_
        refine lv_iload hx hb dF_holdsAny_27 (lv_at hl 0 rfl) ?_
        refine va_iald hx hb hK hP 4 0 rfl rfl (vp_in_nI (by omega) (by decide)) dF_holdsAny_29 ?_
        refine lv_topi (fun v29 e29 => ?_)
        rw [nI_clamp (by omega)] at e29
        obtain rfl : v29 = cw_C (it j) := e29.trans (hoc j (by omega)).2
        refine lv_iload_n hx hb dF_holdsAny_30 rfl (lv_at hl 4 rfl) ?_
        refine lv_icmp_lt (tgt := 47) hx hb dF_holdsAny_31 (by decide) (fun h31 => ?_) (fun h31 => ?_)
        · rw [cw_C_hi h20.1, nI_ltI (by omega) (by omega)] at h31
          refine lv_iinc (k := 0) (v := nI (j + 1)) hx hb dF_holdsAny_47 hl rfl (cw_inc _) (by decide) rfl (fun ls hl => ?_)
          have hl : lv_has ls 5 [(4, .int (nI (j + 1))), (0, .ref h), (1, .int (nI o)), (2, .int (nI hi)), (3, .int (nI lo))] := hl
          refine lv_goto (tgt := 3) hx hb dF_holdsAny_50 (by decide) ?_
          exact ih3 _ (by omega) (j + 1) ls rfl (lv_sub (l' := [(4, .int (nI (j + 1))), (0, .ref h), (1, .int (nI o)), (2, .int (nI hi)), (3, .int (nI lo))]) hl [0, 1, 2, 3, 4] rfl) (by omega) (by simp only [allb, ha, Bool.true_and]; exact hcd_f (fun q => by first | exact h20 ⟨q.1, q.2.1⟩ | omega))
        · rw [cw_C_hi h20.1, nI_ltI (by omega) (by omega)] at h31
          refine lv_aload_n hx hb dF_holdsAny_34 rfl (lv_at hl 1 rfl) ?_
          refine va_get (D := (dC, dI)) (ci := 0) (v := .ref pk) (C := RF) (T := TF) (N := 5) hx hb hw inF hown hK hP 0 rfl rfl 3 (by decide) (hw _ kw_43) (fun _ h9 => h9) rfl dF_holdsAny_35 ?_
          refine lv_iload hx hb dF_holdsAny_38 (lv_at hl 0 rfl) ?_
          refine va_iald hx hb hK hP 4 0 rfl rfl (vp_in_nI (by omega) (by decide)) dF_holdsAny_40 ?_
          refine lv_topi (fun v40 e40 => ?_)
          rw [nI_clamp (by omega)] at e40
          obtain rfl : v40 = cw_C (it j) := e40.trans (hoc j (by omega)).2
          refine lv_iload_n hx hb dF_holdsAny_41 rfl (lv_at hl 3 rfl) ?_
          refine lv_icmp_gt (tgt := 47) hx hb dF_holdsAny_42 (by decide) (fun h42 => ?_) (fun h42 => ?_)
          · rw [cw_C_hi h20.1, nI_ltI (by omega) (by omega)] at h42
            refine lv_iinc (k := 0) (v := nI (j + 1)) hx hb dF_holdsAny_47 hl rfl (cw_inc _) (by decide) rfl (fun ls hl => ?_)
            have hl : lv_has ls 5 [(4, .int (nI (j + 1))), (0, .ref h), (1, .int (nI o)), (2, .int (nI hi)), (3, .int (nI lo))] := hl
            refine lv_goto (tgt := 3) hx hb dF_holdsAny_50 (by decide) ?_
            exact ih3 _ (by omega) (j + 1) ls rfl (lv_sub (l' := [(4, .int (nI (j + 1))), (0, .ref h), (1, .int (nI o)), (2, .int (nI hi)), (3, .int (nI lo))]) hl [0, 1, 2, 3, 4] rfl) (by omega) (by simp only [allb, ha, Bool.true_and]; exact hcd_f (fun q => by first | exact h20 ⟨q.1, q.2.1⟩ | omega))
          · rw [cw_C_hi h20.1, nI_ltI (by omega) (by omega)] at h42
            refine lv_iconst (v := nI 1) hx hb dF_holdsAny_45 (by decide +kernel) ?_
            exact W.zret (v := nI 1) hx hb hr (by first | exact b_nar _ | decide +kernel) (fun t ht hW => ⟨_, rfl, (by first | (rw [show j = n by omega] at ha; rw [ha]; rfl) | (rw [allb_f _ n (k := j) (by omega) (hcd_t ⟨h20.1, h20.2, by omega, by omega⟩)]; rfl)), ht⟩) (fun q h => nomatch h) dF_holdsAny_46

set_option maxHeartbeats 4000000 in
set_option maxRecDepth 100000 in
theorem c_F_canBe (l : Launch) (dC : Nat → ClassId) (dI : Nat → Nat → Nat) (cI cZ : ClassId) (h pw ps po pk n : Nat) (wd sg ow co : Nat → Int32) (it w : Nat → Nat) (sb : Nat → Bool) (hF : fR n it w sb wd sg ow co) (o : Nat) (ho : o < 6) (hw1 : 0 < w o) (v : Int64) : Met l yF_canBe wF_canBe { frames := 0, cells := 0, slots := 0, locals := 0 } (ro_Pc (dC, dI) cls3 [(h, .inr (0, [.ref pw, .ref ps, .ref po, .ref pk, .int (nI n)])), (pw, .inl (cI, 6, .inl wd)), (ps, .inl (cZ, 6, .inl sg)), (po, .inl (cI, 64, .inl ow)), (pk, .inl (cI, 64, .inl co))] [(cI, .int), (cZ, .boolean)] [.ref h, .int (nI o), .long v]) (vp_Si (fun r => r = nI (fitB (w o) (sb o) v).toNat)) 0 0 (fun _ => False) := by
  refine Met.ofW (cc := cF_canBe) (maxL := 7) (ret := (some .boolean)) (by decide) rfl ?_
  intro p e s m args below meth c s₁ B hml hv
  obtain ⟨rfl, hP, hK⟩ := hv
  have hx := B.exec
  have hb := B.bytes
  have hr := B.returns
  have hts := atoms_spec (ws := wF_canBe) B.pre
  have hw : ∀ w ∈ wA, w.before _ s = true := fun w h => hts w (List.mem_cons_of_mem _ h)
  have hown : s.vm.findClass RF = some m.cls := findClass_of_methodNamed B.named
  have hlocks := B.notSynchronized
  have hl := lv_entry ([.ref h, .int (nI o), .long v]) (n := 7) (Nat.le_of_ble_eq_true rfl)
  rw [lg_entry_eq]
  generalize (lg_sl ([.ref h, .int (nI o), .long v]) ++ List.replicate (7 - (lg_sl ([.ref h, .int (nI o), .long v])).length) Slot.unset).toArray = ls at hl ⊢
  have hl : lv_has ls 7 [(0, .ref h), (1, .int (nI o)), (2, .long v)] := hl
  have hn : n ≤ 64 := hF.1.1
  have hwd := hF.2.1
  have hsg := hF.2.2.1
  have hoc := hF.2.2.2
  have hit := cw_it hF.1
  have hw64 := hF.1.2.1
  have hwo := hw64 o ho
  refine lv_aload_n hx hb dF_canBe_0 rfl (lv_at hl 0 rfl) ?_
  refine va_get (D := (dC, dI)) (ci := 0) (v := .ref pw) (C := RF) (T := TF) (N := 5) hx hb hw inF hown hK hP 0 rfl rfl 0 (by decide) (hw _ kw_39) (fun _ h9 => h9) rfl dF_canBe_1 ?_
  refine lv_iload_n hx hb dF_canBe_4 rfl (lv_at hl 1 rfl) ?_
  refine va_iald hx hb hK hP 1 0 rfl rfl (vp_in_nI (by omega) (by decide)) dF_canBe_5 ?_
  refine lv_topi (fun v5 e5 => ?_)
  rw [nI_clamp (by omega)] at e5
  obtain rfl : v5 = nI (w o) := e5.trans (hwd o (by omega))
  refine lv_istore hx hb dF_canBe_6 hl (by decide) rfl (fun ls hl => ?_)
  have hl : lv_has ls 7 [(4, .int (nI (w o))), (0, .ref h), (1, .int (nI o)), (2, .long v)] := hl
  refine lv_iload hx hb dF_canBe_8 (lv_at hl 0 rfl) ?_
  refine lv_bipush (v := nI 64) hx hb dF_canBe_10 (by decide +kernel) ?_
  refine lv_icmp_ne (tgt := 17) hx hb dF_canBe_12 (by decide) (fun h12 => ?_) (fun h12 => ?_)
  · rw [nI_eq (by omega) (by omega)] at h12
    refine lv_aload_n hx hb dF_canBe_17 rfl (lv_at hl 1 rfl) ?_
    refine va_get (D := (dC, dI)) (ci := 0) (v := .ref ps) (C := RF) (T := TF) (N := 5) hx hb hw inF hown hK hP 0 rfl rfl 1 (by decide) (hw _ kw_41) (fun _ h9 => h9) rfl dF_canBe_18 ?_
    refine lv_iload_n hx hb dF_canBe_21 rfl (lv_at hl 2 rfl) ?_
    refine va_zald hx hb hK hP 2 1 rfl rfl (vp_in_nI (by omega) (by decide)) dF_canBe_22 ?_
    refine lv_topi (fun v22 e22 => ?_)
    rw [nI_clamp (by omega)] at e22
    obtain rfl : v22 = nI (sb o).toNat := e22.trans (hsg o (by omega))
    refine lv_if_eq (tgt := 56) hx hb dF_canBe_23 (by decide) (fun h23 => ?_) (fun h23 => ?_)
    · rw [b_nat0] at h23
      refine lv_lload_n hx hb dF_canBe_56 rfl (lv_at hl 3 rfl) ?_
      refine lv_iload hx hb dF_canBe_57 (lv_at hl 0 rfl) ?_
      refine lv_lushr hx hb dF_canBe_59 rfl ?_
      refine lv_topl (fun v59 e59 => ?_)
      refine lv_lconst (v := lN 0) hx hb dF_canBe_60 (by decide +kernel) ?_
      refine W.lcmp hx hb dF_canBe_61 ?_
      refine lv_topi (fun v61 e61 => ?_)
      refine lv_if_ne (tgt := 69) hx hb dF_canBe_62 (by decide) (fun h62 => ?_) (fun h62 => ?_)
      · rw [e61, lg_cmp_eq, e59] at h62
        refine lv_iconst (v := nI 0) hx hb dF_canBe_69 (by decide +kernel) ?_
        exact W.zret (v := nI 0) hx hb hr (by first | exact b_nar _ | decide +kernel) (fun t ht hW => ⟨_, rfl, (by first | (rw [h12, fitB_64]; rfl) | (rw [h23, (fit_s v (by omega) hwo).mp (Or.inl h38)]; rfl) | (rw [h23, (fit_s v (by omega) hwo).mp (Or.inr h47)]; rfl) | (rw [h23, b_ff (fun q => (fun z => z.elim h38 h47) ((fit_s v (by omega) hwo).mpr q))]; rfl) | (rw [h23, (fit_u v (by omega)).mp h62]; rfl) | (rw [h23, b_ff (fun q => h62 ((fit_u v (by omega)).mpr q))]; rfl)), ht⟩) (fun q h => nomatch h) dF_canBe_70
      · rw [e61, lg_cmp_eq, e59] at h62
        refine lv_iconst (v := nI 1) hx hb dF_canBe_65 (by decide +kernel) ?_
        refine lv_goto (tgt := 70) hx hb dF_canBe_66 (by decide) ?_
        exact W.zret (v := nI 1) hx hb hr (by first | exact b_nar _ | decide +kernel) (fun t ht hW => ⟨_, rfl, (by first | (rw [h12, fitB_64]; rfl) | (rw [h23, (fit_s v (by omega) hwo).mp (Or.inl h38)]; rfl) | (rw [h23, (fit_s v (by omega) hwo).mp (Or.inr h47)]; rfl) | (rw [h23, b_ff (fun q => (fun z => z.elim h38 h47) ((fit_s v (by omega) hwo).mpr q))]; rfl) | (rw [h23, (fit_u v (by omega)).mp h62]; rfl) | (rw [h23, b_ff (fun q => h62 ((fit_u v (by omega)).mpr q))]; rfl)), ht⟩) (fun q h => nomatch h) dF_canBe_70
    · have h23 := b_nf h23
      refine lv_lload_n hx hb dF_canBe_26 rfl (lv_at hl 3 rfl) ?_
      refine lv_iload hx hb dF_canBe_27 (lv_at hl 0 rfl) ?_
      refine lv_iconst (v := nI 1) hx hb dF_canBe_29 (by decide +kernel) ?_
      refine lv_isub hx hb dF_canBe_30 ?_
      refine lv_topi (fun v30 e30 => ?_)
      obtain rfl : v30 = nI (w o - 1) := e30.trans (pk_sub (by omega))
      refine lv_lshr hx hb dF_canBe_31 rfl ?_
      refine lv_topl (fun v31 e31 => ?_)
      refine lv_lstore hx hb dF_canBe_32 hl (by decide) rfl (fun ls hl => ?_)
      have hl : lv_has ls 7 [(5, .long v31), (4, .int (nI (w o))), (0, .ref h), (1, .int (nI o)), (2, .long v)] := hl
      refine lv_lload hx hb dF_canBe_34 (lv_at hl 0 rfl) ?_
      refine lv_lconst (v := lN 0) hx hb dF_canBe_36 (by decide +kernel) ?_
      refine W.lcmp hx hb dF_canBe_37 ?_
      refine lv_topi (fun v37 e37 => ?_)
      refine lv_if_eq (tgt := 50) hx hb dF_canBe_38 (by decide) (fun h38 => ?_) (fun h38 => ?_)
      · rw [e37, lg_cmp_eq, e31] at h38
        refine lv_iconst (v := nI 1) hx hb dF_canBe_50 (by decide +kernel) ?_
        refine lv_goto (tgt := 55) hx hb dF_canBe_51 (by decide) ?_
        exact W.zret (v := nI 1) hx hb hr (by first | exact b_nar _ | decide +kernel) (fun t ht hW => ⟨_, rfl, (by first | (rw [h12, fitB_64]; rfl) | (rw [h23, (fit_s v (by omega) hwo).mp (Or.inl h38)]; rfl) | (rw [h23, (fit_s v (by omega) hwo).mp (Or.inr h47)]; rfl) | (rw [h23, b_ff (fun q => (fun z => z.elim h38 h47) ((fit_s v (by omega) hwo).mpr q))]; rfl) | (rw [h23, (fit_u v (by omega)).mp h62]; rfl) | (rw [h23, b_ff (fun q => h62 ((fit_u v (by omega)).mpr q))]; rfl)), ht⟩) (fun q h => nomatch h) dF_canBe_55
      · rw [e37, lg_cmp_eq, e31] at h38
        refine lv_lload hx hb dF_canBe_41 (lv_at hl 0 rfl) ?_
        refine lv_ldc2 (v := (-1)) hx hb hown (hw _ kw_290) dF_canBe_43 ?_
        refine W.lcmp hx hb dF_canBe_46 ?_
        refine lv_topi (fun v46 e46 => ?_)
        refine lv_if_ne (tgt := 54) hx hb dF_canBe_47 (by decide) (fun h47 => ?_) (fun h47 => ?_)
        · rw [e46, lg_cmp_eq, e31] at h47
          refine lv_iconst (v := nI 0) hx hb dF_canBe_54 (by decide +kernel) ?_
          exact W.zret (v := nI 0) hx hb hr (by first | exact b_nar _ | decide +kernel) (fun t ht hW => ⟨_, rfl, (by first | (rw [h12, fitB_64]; rfl) | (rw [h23, (fit_s v (by omega) hwo).mp (Or.inl h38)]; rfl) | (rw [h23, (fit_s v (by omega) hwo).mp (Or.inr h47)]; rfl) | (rw [h23, b_ff (fun q => (fun z => z.elim h38 h47) ((fit_s v (by omega) hwo).mpr q))]; rfl) | (rw [h23, (fit_u v (by omega)).mp h62]; rfl) | (rw [h23, b_ff (fun q => h62 ((fit_u v (by omega)).mpr q))]; rfl)), ht⟩) (fun q h => nomatch h) dF_canBe_55
        · rw [e46, lg_cmp_eq, e31] at h47
          refine lv_iconst (v := nI 1) hx hb dF_canBe_50 (by decide +kernel) ?_
          refine lv_goto (tgt := 55) hx hb dF_canBe_51 (by decide) ?_
          exact W.zret (v := nI 1) hx hb hr (by first | exact b_nar _ | decide +kernel) (fun t ht hW => ⟨_, rfl, (by first | (rw [h12, fitB_64]; rfl) | (rw [h23, (fit_s v (by omega) hwo).mp (Or.inl h38)]; rfl) | (rw [h23, (fit_s v (by omega) hwo).mp (Or.inr h47)]; rfl) | (rw [h23, b_ff (fun q => (fun z => z.elim h38 h47) ((fit_s v (by omega) hwo).mpr q))]; rfl) | (rw [h23, (fit_u v (by omega)).mp h62]; rfl) | (rw [h23, b_ff (fun q => h62 ((fit_u v (by omega)).mpr q))]; rfl)), ht⟩) (fun q h => nomatch h) dF_canBe_55
  · rw [nI_eq (by omega) (by omega)] at h12
    refine lv_iconst (v := nI 1) hx hb dF_canBe_15 (by decide +kernel) ?_
    exact W.zret (v := nI 1) hx hb hr (by first | exact b_nar _ | decide +kernel) (fun t ht hW => ⟨_, rfl, (by first | (rw [h12, fitB_64]; rfl) | (rw [h23, (fit_s v (by omega) hwo).mp (Or.inl h38)]; rfl) | (rw [h23, (fit_s v (by omega) hwo).mp (Or.inr h47)]; rfl) | (rw [h23, b_ff (fun q => (fun z => z.elim h38 h47) ((fit_s v (by omega) hwo).mpr q))]; rfl) | (rw [h23, (fit_u v (by omega)).mp h62]; rfl) | (rw [h23, b_ff (fun q => h62 ((fit_u v (by omega)).mpr q))]; rfl)), ht⟩) (fun q h => nomatch h) dF_canBe_16

set_option maxHeartbeats 4000000 in
set_option maxRecDepth 100000 in
theorem c_F_canBeAll (l : Launch) (dC : Nat → ClassId) (dI : Nat → Nat → Nat) (cI cZ : ClassId) (h pw ps po pk n : Nat) (wd sg ow co : Nat → Int32) (it w : Nat → Nat) (sb : Nat → Bool) (hF : fR n it w sb wd sg ow co) (cJ : ClassId) (hq : Nat) (nu : Nat → Int64) : Met l yF_canBeAll wF_canBeAll { frames := 1, cells := 0, slots := 0, locals := 26 } (ro_Pc (dC, dI) cls3 [(h, .inr (0, [.ref pw, .ref ps, .ref po, .ref pk, .int (nI n)])), (pw, .inl (cI, 6, .inl wd)), (ps, .inl (cZ, 6, .inl sg)), (po, .inl (cI, 64, .inl ow)), (pk, .inl (cI, 64, .inl co)), (hq, .inl (cJ, 6, .inr (.inl nu)))] [(cI, .int), (cZ, .boolean), (cJ, .long)] [.ref h, .ref hq]) (vp_Si (fun r => r = nI (allb (fun o => decide (w o = 0) || fitB (w o) (sb o) (nu o)) 6).toNat)) 0 0 (fun _ => False) := by
  refine Met.ofW (cc := cF_canBeAll) (maxL := 3) (ret := (some .boolean)) (by decide) rfl ?_
  intro p e s m args below meth c s₁ B hml hv
  obtain ⟨rfl, hP, hK⟩ := hv
  have hx := B.exec
  have hb := B.bytes
  have hr := B.returns
  have hts := atoms_spec (ws := wF_canBeAll) B.pre
  have hw : ∀ w ∈ wA, w.before _ s = true := fun w h => hts w (List.mem_cons_of_mem _ h)
  have hown : s.vm.findClass RF = some m.cls := findClass_of_methodNamed B.named
  have hlocks := B.notSynchronized
  have hl := lv_entry ([.ref h, .ref hq]) (n := 3) (Nat.le_of_ble_eq_true rfl)
  rw [lg_entry_eq]
  generalize (lg_sl ([.ref h, .ref hq]) ++ List.replicate (3 - (lg_sl ([.ref h, .ref hq])).length) Slot.unset).toArray = ls at hl ⊢
  have hl : lv_has ls 3 [(0, .ref h), (1, .ref hq)] := hl
  have hn : n ≤ 64 := hF.1.1
  have hwd := hF.2.1
  have hsg := hF.2.2.1
  have hoc := hF.2.2.2
  have hit := cw_it hF.1
  have hw64 := hF.1.2.1
  refine lv_iconst (v := nI 0) hx hb dF_canBeAll_0 (by decide +kernel) ?_
  refine lv_istore_n hx hb dF_canBeAll_1 rfl hl (by decide) rfl (fun ls hl => ?_)
  have hl : lv_has ls 3 [(2, .int (nI 0)), (0, .ref h), (1, .ref hq)] := hl
  refine (?_ : ∀ (kk : Nat) (i : Nat) (ls : Array Slot), kk = 6 - i → lv_has ls 3 [(2, .int (nI i)), (0, .ref h), (1, .ref hq)] → (i ≤ 6) → (allb (fun o => decide (w o = 0) || fitB (w o) (sb o) (nu o)) i = true) → W p l e _ s m _ below meth c _ _ _ _ _ (F0 m 2 ls [])) _ 0 ls rfl (lv_sub hl [0, 1, 2] rfl) (by omega) rfl
  intro kk
  induction kk using Nat.strongRecOn with
  | ind kk2 ih2 =>
    intro i ls hkk2 hl hi ha
    refine lv_iload_n hx hb dF_canBeAll_2 rfl (lv_at hl 0 rfl) ?_
    refine lv_bipush (v := nI 6) hx hb dF_canBeAll_3 (by decide +kernel) ?_
    refine lv_icmp_ge (tgt := 36) hx hb dF_canBeAll_5 (by decide) (fun h5 => ?_) (fun h5 => ?_)
    · rw [nI_leI (by omega) (by omega)] at h5
      refine lv_iconst (v := nI 1) hx hb dF_canBeAll_36 (by decide +kernel) ?_
      exact W.zret (v := nI 1) hx hb hr (by first | exact b_nar _ | decide +kernel) (fun t ht hW => ⟨_, rfl, (by first | (rw [show i = 6 by omega] at ha; rw [ha]; rfl) | (rw [allb_f _ 6 (k := i) (by omega) (by rw [decide_eq_false h14, (b_nat0 _).mp h25]; rfl)]; rfl)), ht⟩) (fun q h => nomatch h) dF_canBeAll_37
    · rw [nI_leI (by omega) (by omega)] at h5
      refine lv_aload_n hx hb dF_canBeAll_8 rfl (lv_at hl 1 rfl) ?_
      refine va_get (D := (dC, dI)) (ci := 0) (v := .ref pw) (C := RF) (T := TF) (N := 5) hx hb hw inF hown hK hP 0 rfl rfl 0 (by decide) (hw _ kw_39) (fun _ h9 => h9) rfl dF_canBeAll_9 ?_
      refine lv_iload_n hx hb dF_canBeAll_12 rfl (lv_at hl 0 rfl) ?_
      refine va_iald hx hb hK hP 1 0 rfl rfl (vp_in_nI (by omega) (by decide)) dF_canBeAll_13 ?_
      refine lv_topi (fun v13 e13 => ?_)
      rw [nI_clamp (by omega)] at e13
      obtain rfl : v13 = nI (w i) := e13.trans (hwd i (by omega))
      refine lv_if_le (tgt := 30) hx hb dF_canBeAll_14 (by decide) (fun h14 => ?_) (fun h14 => ?_)
      · rw [nI_le0 (by have := hw64 i (by omega); omega)] at h14
        refine lv_iinc (k := 0) (v := nI (i + 1)) hx hb dF_canBeAll_30 hl rfl (cw_inc _) (by decide) rfl (fun ls hl => ?_)
        have hl : lv_has ls 3 [(2, .int (nI (i + 1))), (0, .ref h), (1, .ref hq)] := hl
        refine lv_goto (tgt := 2) hx hb dF_canBeAll_33 (by decide) ?_
        exact ih2 _ (by omega) (i + 1) ls rfl (lv_sub (l' := [(2, .int (nI (i + 1))), (0, .ref h), (1, .ref hq)]) hl [0, 1, 2] rfl) (by omega) (by simp only [allb, ha, Bool.true_and]; first | (rw [decide_eq_true h14, Bool.true_or]) | (rw [b_nf h25, Bool.or_true]))
      · rw [nI_le0 (by have := hw64 i (by omega); omega)] at h14
        refine lv_aload_n hx hb dF_canBeAll_17 rfl (lv_at hl 1 rfl) ?_
        refine lv_iload_n hx hb dF_canBeAll_18 rfl (lv_at hl 0 rfl) ?_
        refine lv_aload_n hx hb dF_canBeAll_19 rfl (lv_at hl 2 rfl) ?_
        refine lv_iload_n hx hb dF_canBeAll_20 rfl (lv_at hl 0 rfl) ?_
        refine va_lald hx hb hK hP 5 2 rfl rfl (vp_in_nI (by omega) (by decide)) dF_canBeAll_21 ?_
        refine lv_topl (fun v21 e21 => ?_)
        rw [nI_clamp (by omega)] at e21
        obtain rfl : v21 = nu i := e21
        refine vp_callSi (W.runV (As := [.int (nI i), .long (nu i)]) (rest := []) ⟨hx, hb, hml, hown, hw⟩ (c_F_canBe l dC dI cI cZ h pw ps po pk n wd sg ow co it w sb hF i (by omega) (by omega) (nu i)) (cwV 2 hw (gV kw_307 kw_287 kw_288 kw_15 kw_289) rfl rfl rfl (by decide +kernel) ⟨Nat.le_of_ble_eq_true rfl, Nat.le_of_ble_eq_true rfl⟩) (ro_preV (q0 := 0) (hK.sub (tys' := [(cI, .int), (cZ, .boolean)]) [0, 1] rfl) (hP.sub (ws' := [(h, .inr (0, [.ref pw, .ref ps, .ref po, .ref pk, .int (nI n)])), (pw, .inl (cI, 6, .inl wd)), (ps, .inl (cZ, 6, .inl sg)), (po, .inl (cI, 64, .inl ow)), (pk, .inl (cI, 64, .inl co))]) [0, 1, 2, 3, 4] rfl) rfl rfl) rfl rfl hl.1 rfl (lv_room (Nat.le_of_ble_eq_true rfl)) dF_canBeAll_22 ⟨Nat.zero_le _, Nat.zero_le _⟩) (fun v22 e22 => ?_)
        obtain rfl : v22 = nI (fitB (w i) (sb i) (nu i)).toNat := e22
        refine lv_if_ne (tgt := 30) hx hb dF_canBeAll_25 (by decide) (fun h25 => ?_) (fun h25 => ?_)
        · refine lv_iinc (k := 0) (v := nI (i + 1)) hx hb dF_canBeAll_30 hl rfl (cw_inc _) (by decide) rfl (fun ls hl => ?_)
          have hl : lv_has ls 3 [(2, .int (nI (i + 1))), (0, .ref h), (1, .ref hq)] := hl
          refine lv_goto (tgt := 2) hx hb dF_canBeAll_33 (by decide) ?_
          exact ih2 _ (by omega) (i + 1) ls rfl (lv_sub (l' := [(2, .int (nI (i + 1))), (0, .ref h), (1, .ref hq)]) hl [0, 1, 2] rfl) (by omega) (by simp only [allb, ha, Bool.true_and]; first | (rw [decide_eq_true h14, Bool.true_or]) | (rw [b_nf h25, Bool.or_true]))
        · refine lv_iconst (v := nI 0) hx hb dF_canBeAll_28 (by decide +kernel) ?_
          exact W.zret (v := nI 0) hx hb hr (by first | exact b_nar _ | decide +kernel) (fun t ht hW => ⟨_, rfl, (by first | (rw [show i = 6 by omega] at ha; rw [ha]; rfl) | (rw [allb_f _ 6 (k := i) (by omega) (by rw [decide_eq_false h14, (b_nat0 _).mp h25]; rfl)]; rfl)), ht⟩) (fun q h => nomatch h) dF_canBeAll_29

set_option maxHeartbeats 4000000 in
set_option maxRecDepth 100000 in
theorem c_F_wordOf (l : Launch) (dC : Nat → ClassId) (dI : Nat → Nat → Nat) (cI cZ : ClassId) (h pw ps po pk n : Nat) (wd sg ow co : Nat → Int32) (it w : Nat → Nat) (sb : Nat → Bool) (hF : fR n it w sb wd sg ow co) (cJ : ClassId) (hq : Nat) (nu : Nat → Int64) : Met l yF_wordOf wF_wordOf { frames := 1, cells := 0, slots := 0, locals := 22 } (ro_Pc (dC, dI) cls3 [(h, .inr (0, [.ref pw, .ref ps, .ref po, .ref pk, .int (nI n)])), (pw, .inl (cI, 6, .inl wd)), (ps, .inl (cZ, 6, .inl sg)), (po, .inl (cI, 64, .inl ow)), (pk, .inl (cI, 64, .inl co)), (hq, .inl (cJ, 6, .inr (.inl nu)))] [(cI, .int), (cZ, .boolean), (cJ, .long)] [.ref h, .ref hq]) (vp_Sl (fun r => r = lN (wrd (ebit it nu) n))) 0 0 (fun _ => False) := by
  refine Met.ofW (cc := cF_wordOf) (maxL := 6) (ret := (some .long)) (by decide) rfl ?_
  intro p e s m args below meth c s₁ B hml hv
  obtain ⟨rfl, hP, hK⟩ := hv
  have hx := B.exec
  have hb := B.bytes
  have hr := B.returns
  have hts := atoms_spec (ws := wF_wordOf) B.pre
  have hw : ∀ w ∈ wA, w.before _ s = true := fun w h => hts w (List.mem_cons_of_mem _ h)
  have hown : s.vm.findClass RF = some m.cls := findClass_of_methodNamed B.named
  have hlocks := B.notSynchronized
  have hl := lv_entry ([.ref h, .ref hq]) (n := 6) (Nat.le_of_ble_eq_true rfl)
  rw [lg_entry_eq]
  generalize (lg_sl ([.ref h, .ref hq]) ++ List.replicate (6 - (lg_sl ([.ref h, .ref hq])).length) Slot.unset).toArray = ls at hl ⊢
  have hl : lv_has ls 6 [(0, .ref h), (1, .ref hq)] := hl
  have hn : n ≤ 64 := hF.1.1
  have hwd := hF.2.1
  have hsg := hF.2.2.1
  have hoc := hF.2.2.2
  have hit := cw_it hF.1
  have hw64 := hF.1.2.1
  refine lv_lconst (v := lN 0) hx hb dF_wordOf_0 (by decide +kernel) ?_
  refine lv_lstore_n hx hb dF_wordOf_1 rfl hl (by decide) rfl (fun ls hl => ?_)
  have hl : lv_has ls 6 [(2, .long (lN 0)), (0, .ref h), (1, .ref hq)] := hl
  refine lv_iconst (v := nI 0) hx hb dF_wordOf_2 (by decide +kernel) ?_
  refine lv_istore hx hb dF_wordOf_3 hl (by decide) rfl (fun ls hl => ?_)
  have hl : lv_has ls 6 [(4, .int (nI 0)), (2, .long (lN 0)), (0, .ref h), (1, .ref hq)] := hl
  refine (?_ : ∀ (kk : Nat) (i : Nat) (ls : Array Slot), kk = n - i → lv_has ls 6 [(4, .int (nI i)), (2, .long (lN (wrd (ebit it nu) i))), (0, .ref h), (1, .ref hq)] → (i ≤ n) → W p l e _ s m _ below meth c _ _ _ _ _ (F0 m 5 ls [])) _ 0 ls rfl (lv_sub hl [0, 1, 2, 3] rfl) (by omega)
  intro kk
  induction kk using Nat.strongRecOn with
  | ind kk5 ih5 =>
    intro i ls hkk5 hl hi
    refine lv_iload hx hb dF_wordOf_5 (lv_at hl 0 rfl) ?_
    refine lv_aload_n hx hb dF_wordOf_7 rfl (lv_at hl 2 rfl) ?_
    refine va_get (D := (dC, dI)) (ci := 0) (v := .int (nI n)) (C := RF) (T := TF) (N := 5) hx hb hw inF hown hK hP 0 rfl rfl 4 (by decide) (hw _ kw_44) (fun _ h9 => h9) rfl dF_wordOf_8 ?_
    refine lv_icmp_ge (tgt := 70) hx hb dF_wordOf_11 (by decide) (fun h11 => ?_) (fun h11 => ?_)
    · rw [nI_leI (by omega) (by omega)] at h11
      refine lv_lload_n hx hb dF_wordOf_70 rfl (lv_at hl 1 rfl) ?_
      exact W.lret (v := lN (wrd (ebit it nu) i)) hx hb hr (fun t ht hW => ⟨_, rfl, (by rw [show i = n by omega]), ht⟩) (fun q h => nomatch h) dF_wordOf_71
    · rw [nI_leI (by omega) (by omega)] at h11
      have hti := hit i (by omega)
      refine lv_aload_n hx hb dF_wordOf_14 rfl (lv_at hl 2 rfl) ?_
      refine va_get (D := (dC, dI)) (ci := 0) (v := .ref po) (C := RF) (T := TF) (N := 5) hx hb hw inF hown hK hP 0 rfl rfl 2 (by decide) (hw _ kw_42) (fun _ h9 => h9) rfl dF_wordOf_15 ?_
      refine lv_iload hx hb dF_wordOf_18 (lv_at hl 0 rfl) ?_
      refine va_iald hx hb hK hP 3 0 rfl rfl (vp_in_nI (by omega) (by decide)) dF_wordOf_20 ?_
      refine lv_topi (fun v20 e20 => ?_)
      rw [nI_clamp (by omega)] at e20
      obtain rfl : v20 = cw_O (it i) := e20.trans (hoc i (by omega)).1
      refine lv_iconst (v := (-1)) hx hb dF_wordOf_21 (by decide +kernel) ?_
      refine lv_icmp_ne (tgt := 35) hx hb dF_wordOf_22 (by decide) (fun h22 => ?_) (fun h22 => ?_)
      · rw [cw_O_m1 hti] at h22
        refine lv_aload_n hx hb dF_wordOf_35 rfl (lv_at hl 3 rfl) ?_
        refine lv_aload_n hx hb dF_wordOf_36 rfl (lv_at hl 2 rfl) ?_
        refine va_get (D := (dC, dI)) (ci := 0) (v := .ref po) (C := RF) (T := TF) (N := 5) hx hb hw inF hown hK hP 0 rfl rfl 2 (by decide) (hw _ kw_42) (fun _ h9 => h9) rfl dF_wordOf_37 ?_
        refine lv_iload hx hb dF_wordOf_40 (lv_at hl 0 rfl) ?_
        refine va_iald hx hb hK hP 3 0 rfl rfl (vp_in_nI (by omega) (by decide)) dF_wordOf_42 ?_
        refine lv_topi (fun v42 e42 => ?_)
        rw [nI_clamp (by omega)] at e42
        obtain rfl : v42 = nI ((it i - 2) / 64) := (e42.trans (hoc i (by omega)).1).trans (cw_O_hi h22)
        refine va_lald hx hb hK hP 5 2 rfl rfl (vp_in_nI (by omega) (by decide)) dF_wordOf_43 ?_
        refine lv_topl (fun v43 e43 => ?_)
        rw [nI_clamp (by omega)] at e43
        obtain rfl : v43 = nu ((it i - 2) / 64) := e43
        refine lv_aload_n hx hb dF_wordOf_44 rfl (lv_at hl 2 rfl) ?_
        refine va_get (D := (dC, dI)) (ci := 0) (v := .ref pk) (C := RF) (T := TF) (N := 5) hx hb hw inF hown hK hP 0 rfl rfl 3 (by decide) (hw _ kw_43) (fun _ h9 => h9) rfl dF_wordOf_45 ?_
        refine lv_iload hx hb dF_wordOf_48 (lv_at hl 0 rfl) ?_
        refine va_iald hx hb hK hP 4 0 rfl rfl (vp_in_nI (by omega) (by decide)) dF_wordOf_50 ?_
        refine lv_topi (fun v50 e50 => ?_)
        rw [nI_clamp (by omega)] at e50
        obtain rfl : v50 = nI ((it i - 2) % 64) := (e50.trans (hoc i (by omega)).2).trans (cw_C_hi h22)
        refine vp_callSi (W.runS (As := [.long (nu ((it i - 2) / 64)), .int (nI ((it i - 2) % 64))]) (rest := []) ⟨hx, hb, hml, hown, hw⟩ (c_F_bitOf l (nu ((it i - 2) / 64)) ((it i - 2) % 64) (by omega)) (cwS 2 hw (gS kw_223 kw_224 kw_15 kw_225) rfl rfl rfl (by decide +kernel) ⟨Nat.le_of_ble_eq_true rfl, Nat.le_of_ble_eq_true rfl⟩) preEq rfl rfl hl.1 rfl (lv_room (Nat.le_of_ble_eq_true rfl)) dF_wordOf_51 ⟨Nat.zero_le _, Nat.zero_le _⟩) (fun v51 e51 => ?_)
        obtain rfl : v51 = nI (ebit it nu i) := e51.trans (ebit_hi h22)
        refine lv_istore hx hb dF_wordOf_54 hl (by decide) rfl (fun ls hl => ?_)
        have hl : lv_has ls 6 [(5, .int (nI (ebit it nu i))), (4, .int (nI i)), (2, .long (lN (wrd (ebit it nu) i))), (0, .ref h), (1, .ref hq)] := hl
        refine lv_lload_n hx hb dF_wordOf_56 rfl (lv_at hl 2 rfl) ?_
        refine lv_iconst (v := nI 1) hx hb dF_wordOf_57 (by decide +kernel) ?_
        refine lv_lshl hx hb dF_wordOf_58 rfl ?_
        refine lv_topl (fun v58 e58 => ?_)
        refine lv_iload hx hb dF_wordOf_59 (lv_at hl 0 rfl) ?_
        refine lv_i2l hx hb dF_wordOf_61 rfl ?_
        refine lv_topl (fun v61 e61 => ?_)
        refine lv_lor hx hb dF_wordOf_62 ?_
        refine lv_topl (fun v62 e62 => ?_)
        obtain rfl : v62 = lN (wrd (ebit it nu) (i + 1)) := e62.trans (by rw [e58, e61]; exact wrd_step _ (by omega) (fun j _ => ebit_lt it nu j))
        refine lv_lstore_n hx hb dF_wordOf_63 rfl hl (by decide) rfl (fun ls hl => ?_)
        have hl : lv_has ls 6 [(2, .long (lN (wrd (ebit it nu) (i + 1)))), (5, .int (nI (ebit it nu i))), (4, .int (nI i)), (0, .ref h), (1, .ref hq)] := hl
        refine lv_iinc (k := 2) (v := nI (i + 1)) hx hb dF_wordOf_64 hl rfl (cw_inc _) (by decide) rfl (fun ls hl => ?_)
        have hl : lv_has ls 6 [(4, .int (nI (i + 1))), (2, .long (lN (wrd (ebit it nu) (i + 1)))), (5, .int (nI (ebit it nu i))), (0, .ref h), (1, .ref hq)] := hl
        refine lv_goto (tgt := 5) hx hb dF_wordOf_67 (by decide) ?_
        exact ih5 _ (by omega) (i + 1) ls rfl (lv_sub (l' := [(4, .int (nI (i + 1))), (2, .long (lN (wrd (ebit it nu) (i + 1)))), (0, .ref h), (1, .ref hq)]) hl [0, 1, 3, 4] rfl) (by omega)
      · rw [cw_O_m1 hti] at h22
        refine lv_aload_n hx hb dF_wordOf_25 rfl (lv_at hl 2 rfl) ?_
        refine va_get (D := (dC, dI)) (ci := 0) (v := .ref pk) (C := RF) (T := TF) (N := 5) hx hb hw inF hown hK hP 0 rfl rfl 3 (by decide) (hw _ kw_43) (fun _ h9 => h9) rfl dF_wordOf_26 ?_
        refine lv_iload hx hb dF_wordOf_29 (lv_at hl 0 rfl) ?_
        refine va_iald hx hb hK hP 4 0 rfl rfl (vp_in_nI (by omega) (by decide)) dF_wordOf_31 ?_
        refine lv_topi (fun v31 e31 => ?_)
        rw [nI_clamp (by omega)] at e31
        obtain rfl : v31 = nI (ebit it nu i) := (e31.trans (hoc i (by omega)).2).trans (ebit_lo h22)
        refine lv_goto (tgt := 54) hx hb dF_wordOf_32 (by decide) ?_
        refine lv_istore hx hb dF_wordOf_54 hl (by decide) rfl (fun ls hl => ?_)
        have hl : lv_has ls 6 [(5, .int (nI (ebit it nu i))), (4, .int (nI i)), (2, .long (lN (wrd (ebit it nu) i))), (0, .ref h), (1, .ref hq)] := hl
        refine lv_lload_n hx hb dF_wordOf_56 rfl (lv_at hl 2 rfl) ?_
        refine lv_iconst (v := nI 1) hx hb dF_wordOf_57 (by decide +kernel) ?_
        refine lv_lshl hx hb dF_wordOf_58 rfl ?_
        refine lv_topl (fun v58 e58 => ?_)
        refine lv_iload hx hb dF_wordOf_59 (lv_at hl 0 rfl) ?_
        refine lv_i2l hx hb dF_wordOf_61 rfl ?_
        refine lv_topl (fun v61 e61 => ?_)
        refine lv_lor hx hb dF_wordOf_62 ?_
        refine lv_topl (fun v62 e62 => ?_)
        obtain rfl : v62 = lN (wrd (ebit it nu) (i + 1)) := e62.trans (by rw [e58, e61]; exact wrd_step _ (by omega) (fun j _ => ebit_lt it nu j))
        refine lv_lstore_n hx hb dF_wordOf_63 rfl hl (by decide) rfl (fun ls hl => ?_)
        have hl : lv_has ls 6 [(2, .long (lN (wrd (ebit it nu) (i + 1)))), (5, .int (nI (ebit it nu i))), (4, .int (nI i)), (0, .ref h), (1, .ref hq)] := hl
        refine lv_iinc (k := 2) (v := nI (i + 1)) hx hb dF_wordOf_64 hl rfl (cw_inc _) (by decide) rfl (fun ls hl => ?_)
        have hl : lv_has ls 6 [(4, .int (nI (i + 1))), (2, .long (lN (wrd (ebit it nu) (i + 1)))), (5, .int (nI (ebit it nu i))), (0, .ref h), (1, .ref hq)] := hl
        refine lv_goto (tgt := 5) hx hb dF_wordOf_67 (by decide) ?_
        exact ih5 _ (by omega) (i + 1) ls rfl (lv_sub (l' := [(4, .int (nI (i + 1))), (2, .long (lN (wrd (ebit it nu) (i + 1)))), (0, .ref h), (1, .ref hq)]) hl [0, 1, 3, 4] rfl) (by omega)

set_option maxHeartbeats 4000000 in
set_option maxRecDepth 100000 in
theorem c_F_numberIn (l : Launch) (dC : Nat → ClassId) (dI : Nat → Nat → Nat) (cI cZ : ClassId) (h pw ps po pk n : Nat) (wd sg ow co : Nat → Int32) (it w : Nat → Nat) (sb : Nat → Bool) (hF : fR n it w sb wd sg ow co) (o : Nat) (ho : o < 6) (hw1 : 0 < w o) (wo : Int64) : Met l yF_numberIn wF_numberIn { frames := 1, cells := 0, slots := 0, locals := 22 } (ro_Pc (dC, dI) cls3 [(h, .inr (0, [.ref pw, .ref ps, .ref po, .ref pk, .int (nI n)])), (pw, .inl (cI, 6, .inl wd)), (ps, .inl (cZ, 6, .inl sg)), (po, .inl (cI, 64, .inl ow)), (pk, .inl (cI, 64, .inl co))] [(cI, .int), (cZ, .boolean)] [.ref h, .int (nI o), .long wo]) (vp_Sl (fun r => dcP it n (w o) (sb o) o wo r)) 0 0 (fun _ => False) := by
  refine Met.ofW (cc := cF_numberIn) (maxL := 7) (ret := (some .long)) (by decide) rfl ?_
  intro p e s m args below meth c s₁ B hml hv
  obtain ⟨rfl, hP, hK⟩ := hv
  have hx := B.exec
  have hb := B.bytes
  have hr := B.returns
  have hts := atoms_spec (ws := wF_numberIn) B.pre
  have hw : ∀ w ∈ wA, w.before _ s = true := fun w h => hts w (List.mem_cons_of_mem _ h)
  have hown : s.vm.findClass RF = some m.cls := findClass_of_methodNamed B.named
  have hlocks := B.notSynchronized
  have hl := lv_entry ([.ref h, .int (nI o), .long wo]) (n := 7) (Nat.le_of_ble_eq_true rfl)
  rw [lg_entry_eq]
  generalize (lg_sl ([.ref h, .int (nI o), .long wo]) ++ List.replicate (7 - (lg_sl ([.ref h, .int (nI o), .long wo])).length) Slot.unset).toArray = ls at hl ⊢
  have hl : lv_has ls 7 [(0, .ref h), (1, .int (nI o)), (2, .long wo)] := hl
  have hn : n ≤ 64 := hF.1.1
  have hwd := hF.2.1
  have hsg := hF.2.2.1
  have hoc := hF.2.2.2
  have hit := cw_it hF.1
  have hw64 := hF.1.2.1
  have hwo := hw64 o ho
  refine lv_lconst (v := lN 0) hx hb dF_numberIn_0 (by decide +kernel) ?_
  refine lv_lstore hx hb dF_numberIn_1 hl (by decide) rfl (fun ls hl => ?_)
  have hl : lv_has ls 7 [(4, .long (lN 0)), (0, .ref h), (1, .int (nI o)), (2, .long wo)] := hl
  refine lv_iconst (v := nI 0) hx hb dF_numberIn_3 (by decide +kernel) ?_
  refine lv_istore hx hb dF_numberIn_4 hl (by decide) rfl (fun ls hl => ?_)
  have hl : lv_has ls 7 [(6, .int (nI 0)), (4, .long (lN 0)), (0, .ref h), (1, .int (nI o)), (2, .long wo)] := hl
  refine (?_ : ∀ (kk : Nat) (i : Nat) (x : Int64) (ls : Array Slot), kk = n - i → lv_has ls 7 [(6, .int (nI i)), (4, .long x), (0, .ref h), (1, .int (nI o)), (2, .long wo)] → (i ≤ n) → (∀ k, k < 64 → bq x k = dsp it n o wo i k) → W p l e _ s m _ below meth c _ _ _ _ _ (F0 m 6 ls [])) _ 0 (lN 0) ls rfl (lv_sub hl [0, 1, 2, 3, 4] rfl) (by omega) (dsp_0 it n o wo)
  intro kk
  induction kk using Nat.strongRecOn with
  | ind kk6 ih6 =>
    intro i x ls hkk6 hl hi hd
    refine lv_iload hx hb dF_numberIn_6 (lv_at hl 0 rfl) ?_
    refine lv_aload_n hx hb dF_numberIn_8 rfl (lv_at hl 2 rfl) ?_
    refine va_get (D := (dC, dI)) (ci := 0) (v := .int (nI n)) (C := RF) (T := TF) (N := 5) hx hb hw inF hown hK hP 0 rfl rfl 4 (by decide) (hw _ kw_44) (fun _ h9 => h9) rfl dF_numberIn_9 ?_
    refine lv_icmp_ge (tgt := 59) hx hb dF_numberIn_12 (by decide) (fun h12 => ?_) (fun h12 => ?_)
    · rw [nI_leI (by omega) (by omega)] at h12
      refine lv_bipush (v := nI 64) hx hb dF_numberIn_59 (by decide +kernel) ?_
      refine lv_aload_n hx hb dF_numberIn_61 rfl (lv_at hl 2 rfl) ?_
      refine va_get (D := (dC, dI)) (ci := 0) (v := .ref pw) (C := RF) (T := TF) (N := 5) hx hb hw inF hown hK hP 0 rfl rfl 0 (by decide) (hw _ kw_39) (fun _ h9 => h9) rfl dF_numberIn_62 ?_
      refine lv_iload_n hx hb dF_numberIn_65 rfl (lv_at hl 3 rfl) ?_
      refine va_iald hx hb hK hP 1 0 rfl rfl (vp_in_nI (by omega) (by decide)) dF_numberIn_66 ?_
      refine lv_topi (fun v66 e66 => ?_)
      rw [nI_clamp (by omega)] at e66
      obtain rfl : v66 = nI (w o) := e66.trans (hwd o (by omega))
      refine lv_isub hx hb dF_numberIn_67 ?_
      refine lv_topi (fun v67 e67 => ?_)
      obtain rfl : v67 = nI (64 - w o) := e67.trans (pk_sub (by omega))
      refine lv_istore hx hb dF_numberIn_68 hl (by decide) rfl (fun ls hl => ?_)
      have hl : lv_has ls 7 [(6, .int (nI (64 - w o))), (4, .long x), (0, .ref h), (1, .int (nI o)), (2, .long wo)] := hl
      refine lv_aload_n hx hb dF_numberIn_70 rfl (lv_at hl 2 rfl) ?_
      refine va_get (D := (dC, dI)) (ci := 0) (v := .ref ps) (C := RF) (T := TF) (N := 5) hx hb hw inF hown hK hP 0 rfl rfl 1 (by decide) (hw _ kw_41) (fun _ h9 => h9) rfl dF_numberIn_71 ?_
      refine lv_iload_n hx hb dF_numberIn_74 rfl (lv_at hl 3 rfl) ?_
      refine va_zald hx hb hK hP 2 1 rfl rfl (vp_in_nI (by omega) (by decide)) dF_numberIn_75 ?_
      refine lv_topi (fun v75 e75 => ?_)
      rw [nI_clamp (by omega)] at e75
      obtain rfl : v75 = nI (sb o).toNat := e75.trans (hsg o (by omega))
      refine lv_if_eq (tgt := 90) hx hb dF_numberIn_76 (by decide) (fun h76 => ?_) (fun h76 => ?_)
      · rw [b_nat0] at h76
        refine lv_lload hx hb dF_numberIn_90 (lv_at hl 1 rfl) ?_
        exact W.lret (v := x) hx hb hr (fun t ht hW => ⟨_, rfl, (by obtain rfl : i = n := (by omega); first | (rw [h76]; exact dcP_u hF.1 ho hw1 hd) | (rw [h76, e86, e83]; exact dcP_s hF.1 ho hw1 hd)), ht⟩) (fun q h => nomatch h) dF_numberIn_92
      · have h76 := b_nf h76
        refine lv_lload hx hb dF_numberIn_79 (lv_at hl 1 rfl) ?_
        refine lv_iload hx hb dF_numberIn_81 (lv_at hl 0 rfl) ?_
        refine lv_lshl hx hb dF_numberIn_83 rfl ?_
        refine lv_topl (fun v83 e83 => ?_)
        refine lv_iload hx hb dF_numberIn_84 (lv_at hl 0 rfl) ?_
        refine lv_lshr hx hb dF_numberIn_86 rfl ?_
        refine lv_topl (fun v86 e86 => ?_)
        refine lv_goto (tgt := 92) hx hb dF_numberIn_87 (by decide) ?_
        exact W.lret (v := v86) hx hb hr (fun t ht hW => ⟨_, rfl, (by obtain rfl : i = n := (by omega); first | (rw [h76]; exact dcP_u hF.1 ho hw1 hd) | (rw [h76, e86, e83]; exact dcP_s hF.1 ho hw1 hd)), ht⟩) (fun q h => nomatch h) dF_numberIn_92
    · rw [nI_leI (by omega) (by omega)] at h12
      have hti := hit i (by omega)
      refine lv_aload_n hx hb dF_numberIn_15 rfl (lv_at hl 2 rfl) ?_
      refine va_get (D := (dC, dI)) (ci := 0) (v := .ref po) (C := RF) (T := TF) (N := 5) hx hb hw inF hown hK hP 0 rfl rfl 2 (by decide) (hw _ kw_42) (fun _ h9 => h9) rfl dF_numberIn_16 ?_
      refine lv_iload hx hb dF_numberIn_19 (lv_at hl 0 rfl) ?_
      refine va_iald hx hb hK hP 3 0 rfl rfl (vp_in_nI (by omega) (by decide)) dF_numberIn_21 ?_
      refine lv_topi (fun v21 e21 => ?_)
      rw [nI_clamp (by omega)] at e21
      obtain rfl : v21 = cw_O (it i) := e21.trans (hoc i (by omega)).1
      refine lv_iload_n hx hb dF_numberIn_22 rfl (lv_at hl 3 rfl) ?_
      refine lv_icmp_ne (tgt := 53) hx hb dF_numberIn_23 (by decide) (fun h23 => ?_) (fun h23 => ?_)
      · rw [cw_O_eq hti ho] at h23
        refine lv_iinc (k := 0) (v := nI (i + 1)) hx hb dF_numberIn_53 hl rfl (cw_inc _) (by decide) rfl (fun ls hl => ?_)
        have hl : lv_has ls 7 [(6, .int (nI (i + 1))), (4, .long x), (0, .ref h), (1, .int (nI o)), (2, .long wo)] := hl
        refine lv_goto (tgt := 6) hx hb dF_numberIn_56 (by decide) ?_
        exact ih6 _ (by omega) (i + 1) x ls rfl (lv_sub (l' := [(6, .int (nI (i + 1))), (4, .long x), (0, .ref h), (1, .int (nI o)), (2, .long wo)]) hl [0, 1, 2, 3, 4] rfl) (by omega) (by first | (rw [e50, e49]; exact dsp_put hF.1 (by omega) ho hd h23) | exact dsp_skip hd h23)
      · rw [cw_O_eq hti ho] at h23
        refine lv_lload hx hb dF_numberIn_26 (lv_at hl 1 rfl) ?_
        refine lv_lload_n hx hb dF_numberIn_28 rfl (lv_at hl 4 rfl) ?_
        refine lv_aload_n hx hb dF_numberIn_29 rfl (lv_at hl 2 rfl) ?_
        refine va_get (D := (dC, dI)) (ci := 0) (v := .int (nI n)) (C := RF) (T := TF) (N := 5) hx hb hw inF hown hK hP 0 rfl rfl 4 (by decide) (hw _ kw_44) (fun _ h9 => h9) rfl dF_numberIn_30 ?_
        refine lv_iconst (v := nI 1) hx hb dF_numberIn_33 (by decide +kernel) ?_
        refine lv_isub hx hb dF_numberIn_34 ?_
        refine lv_topi (fun v34 e34 => ?_)
        obtain rfl : v34 = nI (n - 1) := e34.trans (pk_sub (by omega))
        refine lv_iload hx hb dF_numberIn_35 (lv_at hl 0 rfl) ?_
        refine lv_isub hx hb dF_numberIn_37 ?_
        refine lv_topi (fun v37 e37 => ?_)
        obtain rfl : v37 = nI (n - 1 - i) := e37.trans (pk_sub (by omega))
        refine vp_callSi (W.runS (As := [.long wo, .int (nI (n - 1 - i))]) (rest := [.long x]) ⟨hx, hb, hml, hown, hw⟩ (c_F_bitOf l wo (n - 1 - i) (by omega)) (cwS 2 hw (gS kw_223 kw_224 kw_15 kw_225) rfl rfl rfl (by decide +kernel) ⟨Nat.le_of_ble_eq_true rfl, Nat.le_of_ble_eq_true rfl⟩) preEq rfl rfl hl.1 rfl (lv_room (Nat.le_of_ble_eq_true rfl)) dF_numberIn_38 ⟨Nat.zero_le _, Nat.zero_le _⟩) (fun v38 e38 => ?_)
        obtain rfl : v38 = nI (bq wo (n - 1 - i)) := e38
        refine lv_i2l hx hb dF_numberIn_41 rfl ?_
        refine lv_topl (fun v41 e41 => ?_)
        obtain rfl : v41 = lN (bq wo (n - 1 - i)) := e41.trans (nI_l (by have := bq_lt wo (n - 1 - i); omega))
        refine lv_aload_n hx hb dF_numberIn_42 rfl (lv_at hl 2 rfl) ?_
        refine va_get (D := (dC, dI)) (ci := 0) (v := .ref pk) (C := RF) (T := TF) (N := 5) hx hb hw inF hown hK hP 0 rfl rfl 3 (by decide) (hw _ kw_43) (fun _ h9 => h9) rfl dF_numberIn_43 ?_
        refine lv_iload hx hb dF_numberIn_46 (lv_at hl 0 rfl) ?_
        refine va_iald hx hb hK hP 4 0 rfl rfl (vp_in_nI (by omega) (by decide)) dF_numberIn_48 ?_
        refine lv_topi (fun v48 e48 => ?_)
        rw [nI_clamp (by omega)] at e48
        obtain rfl : v48 = nI ((it i - 2) % 64) := (e48.trans (hoc i (by omega)).2).trans (cw_C_hi h23.1)
        refine lv_lshl hx hb dF_numberIn_49 rfl ?_
        refine lv_topl (fun v49 e49 => ?_)
        refine lv_lor hx hb dF_numberIn_50 ?_
        refine lv_topl (fun v50 e50 => ?_)
        refine lv_lstore hx hb dF_numberIn_51 hl (by decide) rfl (fun ls hl => ?_)
        have hl : lv_has ls 7 [(4, .long v50), (6, .int (nI i)), (0, .ref h), (1, .int (nI o)), (2, .long wo)] := hl
        refine lv_iinc (k := 1) (v := nI (i + 1)) hx hb dF_numberIn_53 hl rfl (cw_inc _) (by decide) rfl (fun ls hl => ?_)
        have hl : lv_has ls 7 [(6, .int (nI (i + 1))), (4, .long v50), (0, .ref h), (1, .int (nI o)), (2, .long wo)] := hl
        refine lv_goto (tgt := 6) hx hb dF_numberIn_56 (by decide) ?_
        exact ih6 _ (by omega) (i + 1) v50 ls rfl (lv_sub (l' := [(6, .int (nI (i + 1))), (4, .long v50), (0, .ref h), (1, .int (nI o)), (2, .long wo)]) hl [0, 1, 2, 3, 4] rfl) (by omega) (by first | (rw [e50, e49]; exact dsp_put hF.1 (by omega) ho hd h23) | exact dsp_skip hd h23)

set_option maxHeartbeats 4000000 in
set_option maxRecDepth 100000 in
theorem c_F_sharesWordWith (l : Launch) (dC : Nat → ClassId) (dI : Nat → Nat → Nat) (cI cZ : ClassId) (h pw ps po pk n : Nat) (wd sg ow co : Nat → Int32) (it w : Nat → Nat) (sb : Nat → Bool) (hF : fR n it w sb wd sg ow co) (h2 pw2 ps2 po2 pk2 n2 : Nat) (wd2 sg2 ow2 co2 : Nat → Int32) (it2 w2 : Nat → Nat) (sb2 : Nat → Bool) (hF2 : fR n2 it2 w2 sb2 wd2 sg2 ow2 co2) : Met l yF_sharesWordWith wF_sharesWordWith { frames := 1, cells := 0, slots := 0, locals := 23 } (ro_Pc (dC, dI) cls3 [(h, .inr (0, [.ref pw, .ref ps, .ref po, .ref pk, .int (nI n)])), (pw, .inl (cI, 6, .inl wd)), (ps, .inl (cZ, 6, .inl sg)), (po, .inl (cI, 64, .inl ow)), (pk, .inl (cI, 64, .inl co)), (h2, .inr (0, [.ref pw2, .ref ps2, .ref po2, .ref pk2, .int (nI n2)])), (pw2, .inl (cI, 6, .inl wd2)), (ps2, .inl (cZ, 6, .inl sg2)), (po2, .inl (cI, 64, .inl ow2)), (pk2, .inl (cI, 64, .inl co2))] [(cI, .int), (cZ, .boolean)] [.ref h, .ref h2]) (vp_Si (fun r => r = nI (allb (shw it n it2 n2) 64).toNat)) 0 0 (fun _ => False) := by
  refine Met.ofW (cc := cF_sharesWordWith) (maxL := 5) (ret := (some .boolean)) (by decide) rfl ?_
  intro p e s m args below meth c s₁ B hml hv
  obtain ⟨rfl, hP, hK⟩ := hv
  have hx := B.exec
  have hb := B.bytes
  have hr := B.returns
  have hts := atoms_spec (ws := wF_sharesWordWith) B.pre
  have hw : ∀ w ∈ wA, w.before _ s = true := fun w h => hts w (List.mem_cons_of_mem _ h)
  have hown : s.vm.findClass RF = some m.cls := findClass_of_methodNamed B.named
  have hlocks := B.notSynchronized
  have hl := lv_entry ([.ref h, .ref h2]) (n := 5) (Nat.le_of_ble_eq_true rfl)
  rw [lg_entry_eq]
  generalize (lg_sl ([.ref h, .ref h2]) ++ List.replicate (5 - (lg_sl ([.ref h, .ref h2])).length) Slot.unset).toArray = ls at hl ⊢
  have hl : lv_has ls 5 [(0, .ref h), (1, .ref h2)] := hl
  refine lv_iconst (v := nI 0) hx hb dF_sharesWordWith_0 (by decide +kernel) ?_
  refine lv_istore_n hx hb dF_sharesWordWith_1 rfl hl (by decide) rfl (fun ls hl => ?_)
  have hl : lv_has ls 5 [(2, .int (nI 0)), (0, .ref h), (1, .ref h2)] := hl
  refine (?_ : ∀ (kk : Nat) (j : Nat) (ls : Array Slot), kk = 64 - j → lv_has ls 5 [(2, .int (nI j)), (0, .ref h), (1, .ref h2)] → (j ≤ 64) → (allb (shw it n it2 n2) j = true) → W p l e _ s m _ below meth c _ _ _ _ _ (F0 m 2 ls [])) _ 0 ls rfl (lv_sub hl [0, 1, 2] rfl) (by omega) rfl
  intro kk
  induction kk using Nat.strongRecOn with
  | ind kk2 ih2 =>
    intro j ls hkk2 hl hj ha
    refine lv_iload_n hx hb dF_sharesWordWith_2 rfl (lv_at hl 0 rfl) ?_
    refine lv_bipush (v := nI 64) hx hb dF_sharesWordWith_3 (by decide +kernel) ?_
    refine lv_icmp_ge (tgt := 74) hx hb dF_sharesWordWith_5 (by decide) (fun h5 => ?_) (fun h5 => ?_)
    · rw [nI_leI (by omega) (by omega)] at h5
      refine lv_iconst (v := nI 1) hx hb dF_sharesWordWith_74 (by decide +kernel) ?_
      exact W.zret (v := nI 1) hx hb hr (by first | exact b_nar _ | decide +kernel) (fun t ht hW => ⟨_, rfl, (by first | (rw [show j = 64 by omega] at ha; rw [ha]; rfl) | (rw [allb_f _ 64 (k := j) (by omega) (by first | exact shw_f (Or.inl ((b_nat0 _).mp h14)) (Or.inl ((b_nat0 _).mp h38)) | exact shw_f (Or.inl ((b_nat0 _).mp h14)) (Or.inr ((b_nat0 _).mp h47)) | exact shw_f (Or.inr ((b_nat0 _).mp h23)) (Or.inl ((b_nat0 _).mp h38)) | exact shw_f (Or.inr ((b_nat0 _).mp h23)) (Or.inr ((b_nat0 _).mp h47)))]; rfl)), ht⟩) (fun q h => nomatch h) dF_sharesWordWith_75
    · rw [nI_leI (by omega) (by omega)] at h5
      refine lv_aload_n hx hb dF_sharesWordWith_8 rfl (lv_at hl 1 rfl) ?_
      refine lv_iload_n hx hb dF_sharesWordWith_9 rfl (lv_at hl 0 rfl) ?_
      refine lv_iconst (v := nI 0) hx hb dF_sharesWordWith_10 (by decide +kernel) ?_
      refine vp_callSi (W.runV (As := [.int (nI j), .int (nI 0)]) (rest := []) ⟨hx, hb, hml, hown, hw⟩ (c_F_allows l dC dI cI cZ h pw ps po pk n wd sg ow co it w sb hF j 0 (by omega) (by omega)) (cwV 2 hw (gV kw_339 kw_341 kw_4 kw_15 kw_342) rfl rfl rfl (by decide +kernel) ⟨Nat.le_of_ble_eq_true rfl, Nat.le_of_ble_eq_true rfl⟩) (ro_preV (q0 := 0) hK (hP.sub (ws' := [(h, .inr (0, [.ref pw, .ref ps, .ref po, .ref pk, .int (nI n)])), (pw, .inl (cI, 6, .inl wd)), (ps, .inl (cZ, 6, .inl sg)), (po, .inl (cI, 64, .inl ow)), (pk, .inl (cI, 64, .inl co))]) [0, 1, 2, 3, 4] rfl) rfl rfl) rfl rfl hl.1 rfl (lv_room (Nat.le_of_ble_eq_true rfl)) dF_sharesWordWith_11 ⟨Nat.zero_le _, Nat.zero_le _⟩) (fun v11 e11 => ?_)
      obtain rfl : v11 = nI (alw it n j 0).toNat := e11
      refine lv_if_eq (tgt := 30) hx hb dF_sharesWordWith_14 (by decide) (fun h14 => ?_) (fun h14 => ?_)
      · refine lv_iconst (v := nI 0) hx hb dF_sharesWordWith_30 (by decide +kernel) ?_
        refine lv_istore_n hx hb dF_sharesWordWith_31 rfl hl (by decide) rfl (fun ls hl => ?_)
        have hl : lv_has ls 5 [(3, .int (nI 0)), (2, .int (nI j)), (0, .ref h), (1, .ref h2)] := hl
        refine lv_aload_n hx hb dF_sharesWordWith_32 rfl (lv_at hl 2 rfl) ?_
        refine lv_iload_n hx hb dF_sharesWordWith_33 rfl (lv_at hl 1 rfl) ?_
        refine lv_iconst (v := nI 1) hx hb dF_sharesWordWith_34 (by decide +kernel) ?_
        refine vp_callSi (W.runV (As := [.int (nI j), .int (nI 1)]) (rest := []) ⟨hx, hb, hml, hown, hw⟩ (c_F_allows l dC dI cI cZ h pw ps po pk n wd sg ow co it w sb hF j 1 (by omega) (by omega)) (cwV 2 hw (gV kw_339 kw_341 kw_4 kw_15 kw_342) rfl rfl rfl (by decide +kernel) ⟨Nat.le_of_ble_eq_true rfl, Nat.le_of_ble_eq_true rfl⟩) (ro_preV (q0 := 0) hK (hP.sub (ws' := [(h, .inr (0, [.ref pw, .ref ps, .ref po, .ref pk, .int (nI n)])), (pw, .inl (cI, 6, .inl wd)), (ps, .inl (cZ, 6, .inl sg)), (po, .inl (cI, 64, .inl ow)), (pk, .inl (cI, 64, .inl co))]) [0, 1, 2, 3, 4] rfl) rfl rfl) rfl rfl hl.1 rfl (lv_room (Nat.le_of_ble_eq_true rfl)) dF_sharesWordWith_35 ⟨Nat.zero_le _, Nat.zero_le _⟩) (fun v35 e35 => ?_)
        obtain rfl : v35 = nI (alw it n j 1).toNat := e35
        refine lv_if_eq (tgt := 54) hx hb dF_sharesWordWith_38 (by decide) (fun h38 => ?_) (fun h38 => ?_)
        · refine lv_iconst (v := nI 0) hx hb dF_sharesWordWith_54 (by decide +kernel) ?_
          refine lv_istore hx hb dF_sharesWordWith_55 hl (by decide) rfl (fun ls hl => ?_)
          have hl : lv_has ls 5 [(4, .int (nI 0)), (3, .int (nI 0)), (2, .int (nI j)), (0, .ref h), (1, .ref h2)] := hl
          refine lv_iload_n hx hb dF_sharesWordWith_57 rfl (lv_at hl 1 rfl) ?_
          refine lv_if_ne (tgt := 68) hx hb dF_sharesWordWith_58 (by decide) (fun h58 => ?_) (fun h58 => ?_)
          · exfalso
            first | exact h58 (by decide +kernel) | exact absurd h58 (by decide +kernel)
          · refine lv_iload hx hb dF_sharesWordWith_61 (lv_at hl 0 rfl) ?_
            refine lv_if_ne (tgt := 68) hx hb dF_sharesWordWith_63 (by decide) (fun h63 => ?_) (fun h63 => ?_)
            · exfalso
              first | exact h63 (by decide +kernel) | exact absurd h63 (by decide +kernel)
            · refine lv_iconst (v := nI 0) hx hb dF_sharesWordWith_66 (by decide +kernel) ?_
              exact W.zret (v := nI 0) hx hb hr (by first | exact b_nar _ | decide +kernel) (fun t ht hW => ⟨_, rfl, (by first | (rw [show j = 64 by omega] at ha; rw [ha]; rfl) | (rw [allb_f _ 64 (k := j) (by omega) (by first | exact shw_f (Or.inl ((b_nat0 _).mp h14)) (Or.inl ((b_nat0 _).mp h38)) | exact shw_f (Or.inl ((b_nat0 _).mp h14)) (Or.inr ((b_nat0 _).mp h47)) | exact shw_f (Or.inr ((b_nat0 _).mp h23)) (Or.inl ((b_nat0 _).mp h38)) | exact shw_f (Or.inr ((b_nat0 _).mp h23)) (Or.inr ((b_nat0 _).mp h47)))]; rfl)), ht⟩) (fun q h => nomatch h) dF_sharesWordWith_67
        · refine lv_aload_n hx hb dF_sharesWordWith_41 rfl (lv_at hl 3 rfl) ?_
          refine lv_iload_n hx hb dF_sharesWordWith_42 rfl (lv_at hl 1 rfl) ?_
          refine lv_iconst (v := nI 1) hx hb dF_sharesWordWith_43 (by decide +kernel) ?_
          refine vp_callSi (W.runV (As := [.int (nI j), .int (nI 1)]) (rest := []) ⟨hx, hb, hml, hown, hw⟩ (c_F_allows l dC dI cI cZ h2 pw2 ps2 po2 pk2 n2 wd2 sg2 ow2 co2 it2 w2 sb2 hF2 j 1 (by omega) (by omega)) (cwV 2 hw (gV kw_339 kw_341 kw_4 kw_15 kw_342) rfl rfl rfl (by decide +kernel) ⟨Nat.le_of_ble_eq_true rfl, Nat.le_of_ble_eq_true rfl⟩) (ro_preV (q0 := 0) hK (hP.sub (ws' := [(h2, .inr (0, [.ref pw2, .ref ps2, .ref po2, .ref pk2, .int (nI n2)])), (pw2, .inl (cI, 6, .inl wd2)), (ps2, .inl (cZ, 6, .inl sg2)), (po2, .inl (cI, 64, .inl ow2)), (pk2, .inl (cI, 64, .inl co2))]) [5, 6, 7, 8, 9] rfl) rfl rfl) rfl rfl hl.1 rfl (lv_room (Nat.le_of_ble_eq_true rfl)) dF_sharesWordWith_44 ⟨Nat.zero_le _, Nat.zero_le _⟩) (fun v44 e44 => ?_)
          obtain rfl : v44 = nI (alw it2 n2 j 1).toNat := e44
          refine lv_if_eq (tgt := 54) hx hb dF_sharesWordWith_47 (by decide) (fun h47 => ?_) (fun h47 => ?_)
          · refine lv_iconst (v := nI 0) hx hb dF_sharesWordWith_54 (by decide +kernel) ?_
            refine lv_istore hx hb dF_sharesWordWith_55 hl (by decide) rfl (fun ls hl => ?_)
            have hl : lv_has ls 5 [(4, .int (nI 0)), (3, .int (nI 0)), (2, .int (nI j)), (0, .ref h), (1, .ref h2)] := hl
            refine lv_iload_n hx hb dF_sharesWordWith_57 rfl (lv_at hl 1 rfl) ?_
            refine lv_if_ne (tgt := 68) hx hb dF_sharesWordWith_58 (by decide) (fun h58 => ?_) (fun h58 => ?_)
            · exfalso
              first | exact h58 (by decide +kernel) | exact absurd h58 (by decide +kernel)
            · refine lv_iload hx hb dF_sharesWordWith_61 (lv_at hl 0 rfl) ?_
              refine lv_if_ne (tgt := 68) hx hb dF_sharesWordWith_63 (by decide) (fun h63 => ?_) (fun h63 => ?_)
              · exfalso
                first | exact h63 (by decide +kernel) | exact absurd h63 (by decide +kernel)
              · refine lv_iconst (v := nI 0) hx hb dF_sharesWordWith_66 (by decide +kernel) ?_
                exact W.zret (v := nI 0) hx hb hr (by first | exact b_nar _ | decide +kernel) (fun t ht hW => ⟨_, rfl, (by first | (rw [show j = 64 by omega] at ha; rw [ha]; rfl) | (rw [allb_f _ 64 (k := j) (by omega) (by first | exact shw_f (Or.inl ((b_nat0 _).mp h14)) (Or.inl ((b_nat0 _).mp h38)) | exact shw_f (Or.inl ((b_nat0 _).mp h14)) (Or.inr ((b_nat0 _).mp h47)) | exact shw_f (Or.inr ((b_nat0 _).mp h23)) (Or.inl ((b_nat0 _).mp h38)) | exact shw_f (Or.inr ((b_nat0 _).mp h23)) (Or.inr ((b_nat0 _).mp h47)))]; rfl)), ht⟩) (fun q h => nomatch h) dF_sharesWordWith_67
          · refine lv_iconst (v := nI 1) hx hb dF_sharesWordWith_50 (by decide +kernel) ?_
            refine lv_goto (tgt := 55) hx hb dF_sharesWordWith_51 (by decide) ?_
            refine lv_istore hx hb dF_sharesWordWith_55 hl (by decide) rfl (fun ls hl => ?_)
            have hl : lv_has ls 5 [(4, .int (nI 1)), (3, .int (nI 0)), (2, .int (nI j)), (0, .ref h), (1, .ref h2)] := hl
            refine lv_iload_n hx hb dF_sharesWordWith_57 rfl (lv_at hl 1 rfl) ?_
            refine lv_if_ne (tgt := 68) hx hb dF_sharesWordWith_58 (by decide) (fun h58 => ?_) (fun h58 => ?_)
            · exfalso
              first | exact h58 (by decide +kernel) | exact absurd h58 (by decide +kernel)
            · refine lv_iload hx hb dF_sharesWordWith_61 (lv_at hl 0 rfl) ?_
              refine lv_if_ne (tgt := 68) hx hb dF_sharesWordWith_63 (by decide) (fun h63 => ?_) (fun h63 => ?_)
              · refine lv_iinc (k := 2) (v := nI (j + 1)) hx hb dF_sharesWordWith_68 hl rfl (cw_inc _) (by decide) rfl (fun ls hl => ?_)
                have hl : lv_has ls 5 [(2, .int (nI (j + 1))), (4, .int (nI 1)), (3, .int (nI 0)), (0, .ref h), (1, .ref h2)] := hl
                refine lv_goto (tgt := 2) hx hb dF_sharesWordWith_71 (by decide) ?_
                exact ih2 _ (by omega) (j + 1) ls rfl (lv_sub (l' := [(2, .int (nI (j + 1))), (0, .ref h), (1, .ref h2)]) hl [0, 3, 4] rfl) (by omega) (by simp only [allb, ha, Bool.true_and]; first | exact shw_0 (b_nf h14) (b_nf h23) | exact shw_1 (b_nf h38) (b_nf h47))
              · exfalso
                first | exact h63 (by decide +kernel) | exact absurd h63 (by decide +kernel)
      · refine lv_aload_n hx hb dF_sharesWordWith_17 rfl (lv_at hl 2 rfl) ?_
        refine lv_iload_n hx hb dF_sharesWordWith_18 rfl (lv_at hl 0 rfl) ?_
        refine lv_iconst (v := nI 0) hx hb dF_sharesWordWith_19 (by decide +kernel) ?_
        refine vp_callSi (W.runV (As := [.int (nI j), .int (nI 0)]) (rest := []) ⟨hx, hb, hml, hown, hw⟩ (c_F_allows l dC dI cI cZ h2 pw2 ps2 po2 pk2 n2 wd2 sg2 ow2 co2 it2 w2 sb2 hF2 j 0 (by omega) (by omega)) (cwV 2 hw (gV kw_339 kw_341 kw_4 kw_15 kw_342) rfl rfl rfl (by decide +kernel) ⟨Nat.le_of_ble_eq_true rfl, Nat.le_of_ble_eq_true rfl⟩) (ro_preV (q0 := 0) hK (hP.sub (ws' := [(h2, .inr (0, [.ref pw2, .ref ps2, .ref po2, .ref pk2, .int (nI n2)])), (pw2, .inl (cI, 6, .inl wd2)), (ps2, .inl (cZ, 6, .inl sg2)), (po2, .inl (cI, 64, .inl ow2)), (pk2, .inl (cI, 64, .inl co2))]) [5, 6, 7, 8, 9] rfl) rfl rfl) rfl rfl hl.1 rfl (lv_room (Nat.le_of_ble_eq_true rfl)) dF_sharesWordWith_20 ⟨Nat.zero_le _, Nat.zero_le _⟩) (fun v20 e20 => ?_)
        obtain rfl : v20 = nI (alw it2 n2 j 0).toNat := e20
        refine lv_if_eq (tgt := 30) hx hb dF_sharesWordWith_23 (by decide) (fun h23 => ?_) (fun h23 => ?_)
        · refine lv_iconst (v := nI 0) hx hb dF_sharesWordWith_30 (by decide +kernel) ?_
          refine lv_istore_n hx hb dF_sharesWordWith_31 rfl hl (by decide) rfl (fun ls hl => ?_)
          have hl : lv_has ls 5 [(3, .int (nI 0)), (2, .int (nI j)), (0, .ref h), (1, .ref h2)] := hl
          refine lv_aload_n hx hb dF_sharesWordWith_32 rfl (lv_at hl 2 rfl) ?_
          refine lv_iload_n hx hb dF_sharesWordWith_33 rfl (lv_at hl 1 rfl) ?_
          refine lv_iconst (v := nI 1) hx hb dF_sharesWordWith_34 (by decide +kernel) ?_
          refine vp_callSi (W.runV (As := [.int (nI j), .int (nI 1)]) (rest := []) ⟨hx, hb, hml, hown, hw⟩ (c_F_allows l dC dI cI cZ h pw ps po pk n wd sg ow co it w sb hF j 1 (by omega) (by omega)) (cwV 2 hw (gV kw_339 kw_341 kw_4 kw_15 kw_342) rfl rfl rfl (by decide +kernel) ⟨Nat.le_of_ble_eq_true rfl, Nat.le_of_ble_eq_true rfl⟩) (ro_preV (q0 := 0) hK (hP.sub (ws' := [(h, .inr (0, [.ref pw, .ref ps, .ref po, .ref pk, .int (nI n)])), (pw, .inl (cI, 6, .inl wd)), (ps, .inl (cZ, 6, .inl sg)), (po, .inl (cI, 64, .inl ow)), (pk, .inl (cI, 64, .inl co))]) [0, 1, 2, 3, 4] rfl) rfl rfl) rfl rfl hl.1 rfl (lv_room (Nat.le_of_ble_eq_true rfl)) dF_sharesWordWith_35 ⟨Nat.zero_le _, Nat.zero_le _⟩) (fun v35 e35 => ?_)
          obtain rfl : v35 = nI (alw it n j 1).toNat := e35
          refine lv_if_eq (tgt := 54) hx hb dF_sharesWordWith_38 (by decide) (fun h38 => ?_) (fun h38 => ?_)
          · refine lv_iconst (v := nI 0) hx hb dF_sharesWordWith_54 (by decide +kernel) ?_
            refine lv_istore hx hb dF_sharesWordWith_55 hl (by decide) rfl (fun ls hl => ?_)
            have hl : lv_has ls 5 [(4, .int (nI 0)), (3, .int (nI 0)), (2, .int (nI j)), (0, .ref h), (1, .ref h2)] := hl
            refine lv_iload_n hx hb dF_sharesWordWith_57 rfl (lv_at hl 1 rfl) ?_
            refine lv_if_ne (tgt := 68) hx hb dF_sharesWordWith_58 (by decide) (fun h58 => ?_) (fun h58 => ?_)
            · exfalso
              first | exact h58 (by decide +kernel) | exact absurd h58 (by decide +kernel)
            · refine lv_iload hx hb dF_sharesWordWith_61 (lv_at hl 0 rfl) ?_
              refine lv_if_ne (tgt := 68) hx hb dF_sharesWordWith_63 (by decide) (fun h63 => ?_) (fun h63 => ?_)
              · exfalso
                first | exact h63 (by decide +kernel) | exact absurd h63 (by decide +kernel)
              · refine lv_iconst (v := nI 0) hx hb dF_sharesWordWith_66 (by decide +kernel) ?_
                exact W.zret (v := nI 0) hx hb hr (by first | exact b_nar _ | decide +kernel) (fun t ht hW => ⟨_, rfl, (by first | (rw [show j = 64 by omega] at ha; rw [ha]; rfl) | (rw [allb_f _ 64 (k := j) (by omega) (by first | exact shw_f (Or.inl ((b_nat0 _).mp h14)) (Or.inl ((b_nat0 _).mp h38)) | exact shw_f (Or.inl ((b_nat0 _).mp h14)) (Or.inr ((b_nat0 _).mp h47)) | exact shw_f (Or.inr ((b_nat0 _).mp h23)) (Or.inl ((b_nat0 _).mp h38)) | exact shw_f (Or.inr ((b_nat0 _).mp h23)) (Or.inr ((b_nat0 _).mp h47)))]; rfl)), ht⟩) (fun q h => nomatch h) dF_sharesWordWith_67
          · refine lv_aload_n hx hb dF_sharesWordWith_41 rfl (lv_at hl 3 rfl) ?_
            refine lv_iload_n hx hb dF_sharesWordWith_42 rfl (lv_at hl 1 rfl) ?_
            refine lv_iconst (v := nI 1) hx hb dF_sharesWordWith_43 (by decide +kernel) ?_
            refine vp_callSi (W.runV (As := [.int (nI j), .int (nI 1)]) (rest := []) ⟨hx, hb, hml, hown, hw⟩ (c_F_allows l dC dI cI cZ h2 pw2 ps2 po2 pk2 n2 wd2 sg2 ow2 co2 it2 w2 sb2 hF2 j 1 (by omega) (by omega)) (cwV 2 hw (gV kw_339 kw_341 kw_4 kw_15 kw_342) rfl rfl rfl (by decide +kernel) ⟨Nat.le_of_ble_eq_true rfl, Nat.le_of_ble_eq_true rfl⟩) (ro_preV (q0 := 0) hK (hP.sub (ws' := [(h2, .inr (0, [.ref pw2, .ref ps2, .ref po2, .ref pk2, .int (nI n2)])), (pw2, .inl (cI, 6, .inl wd2)), (ps2, .inl (cZ, 6, .inl sg2)), (po2, .inl (cI, 64, .inl ow2)), (pk2, .inl (cI, 64, .inl co2))]) [5, 6, 7, 8, 9] rfl) rfl rfl) rfl rfl hl.1 rfl (lv_room (Nat.le_of_ble_eq_true rfl)) dF_sharesWordWith_44 ⟨Nat.zero_le _, Nat.zero_le _⟩) (fun v44 e44 => ?_)
            obtain rfl : v44 = nI (alw it2 n2 j 1).toNat := e44
            refine lv_if_eq (tgt := 54) hx hb dF_sharesWordWith_47 (by decide) (fun h47 => ?_) (fun h47 => ?_)
            · refine lv_iconst (v := nI 0) hx hb dF_sharesWordWith_54 (by decide +kernel) ?_
              refine lv_istore hx hb dF_sharesWordWith_55 hl (by decide) rfl (fun ls hl => ?_)
              have hl : lv_has ls 5 [(4, .int (nI 0)), (3, .int (nI 0)), (2, .int (nI j)), (0, .ref h), (1, .ref h2)] := hl
              refine lv_iload_n hx hb dF_sharesWordWith_57 rfl (lv_at hl 1 rfl) ?_
              refine lv_if_ne (tgt := 68) hx hb dF_sharesWordWith_58 (by decide) (fun h58 => ?_) (fun h58 => ?_)
              · exfalso
                first | exact h58 (by decide +kernel) | exact absurd h58 (by decide +kernel)
              · refine lv_iload hx hb dF_sharesWordWith_61 (lv_at hl 0 rfl) ?_
                refine lv_if_ne (tgt := 68) hx hb dF_sharesWordWith_63 (by decide) (fun h63 => ?_) (fun h63 => ?_)
                · exfalso
                  first | exact h63 (by decide +kernel) | exact absurd h63 (by decide +kernel)
                · refine lv_iconst (v := nI 0) hx hb dF_sharesWordWith_66 (by decide +kernel) ?_
                  exact W.zret (v := nI 0) hx hb hr (by first | exact b_nar _ | decide +kernel) (fun t ht hW => ⟨_, rfl, (by first | (rw [show j = 64 by omega] at ha; rw [ha]; rfl) | (rw [allb_f _ 64 (k := j) (by omega) (by first | exact shw_f (Or.inl ((b_nat0 _).mp h14)) (Or.inl ((b_nat0 _).mp h38)) | exact shw_f (Or.inl ((b_nat0 _).mp h14)) (Or.inr ((b_nat0 _).mp h47)) | exact shw_f (Or.inr ((b_nat0 _).mp h23)) (Or.inl ((b_nat0 _).mp h38)) | exact shw_f (Or.inr ((b_nat0 _).mp h23)) (Or.inr ((b_nat0 _).mp h47)))]; rfl)), ht⟩) (fun q h => nomatch h) dF_sharesWordWith_67
            · refine lv_iconst (v := nI 1) hx hb dF_sharesWordWith_50 (by decide +kernel) ?_
              refine lv_goto (tgt := 55) hx hb dF_sharesWordWith_51 (by decide) ?_
              refine lv_istore hx hb dF_sharesWordWith_55 hl (by decide) rfl (fun ls hl => ?_)
              have hl : lv_has ls 5 [(4, .int (nI 1)), (3, .int (nI 0)), (2, .int (nI j)), (0, .ref h), (1, .ref h2)] := hl
              refine lv_iload_n hx hb dF_sharesWordWith_57 rfl (lv_at hl 1 rfl) ?_
              refine lv_if_ne (tgt := 68) hx hb dF_sharesWordWith_58 (by decide) (fun h58 => ?_) (fun h58 => ?_)
              · exfalso
                first | exact h58 (by decide +kernel) | exact absurd h58 (by decide +kernel)
              · refine lv_iload hx hb dF_sharesWordWith_61 (lv_at hl 0 rfl) ?_
                refine lv_if_ne (tgt := 68) hx hb dF_sharesWordWith_63 (by decide) (fun h63 => ?_) (fun h63 => ?_)
                · refine lv_iinc (k := 2) (v := nI (j + 1)) hx hb dF_sharesWordWith_68 hl rfl (cw_inc _) (by decide) rfl (fun ls hl => ?_)
                  have hl : lv_has ls 5 [(2, .int (nI (j + 1))), (4, .int (nI 1)), (3, .int (nI 0)), (0, .ref h), (1, .ref h2)] := hl
                  refine lv_goto (tgt := 2) hx hb dF_sharesWordWith_71 (by decide) ?_
                  exact ih2 _ (by omega) (j + 1) ls rfl (lv_sub (l' := [(2, .int (nI (j + 1))), (0, .ref h), (1, .ref h2)]) hl [0, 3, 4] rfl) (by omega) (by simp only [allb, ha, Bool.true_and]; first | exact shw_0 (b_nf h14) (b_nf h23) | exact shw_1 (b_nf h38) (b_nf h47))
                · exfalso
                  first | exact h63 (by decide +kernel) | exact absurd h63 (by decide +kernel)
        · refine lv_iconst (v := nI 1) hx hb dF_sharesWordWith_26 (by decide +kernel) ?_
          refine lv_goto (tgt := 31) hx hb dF_sharesWordWith_27 (by decide) ?_
          refine lv_istore_n hx hb dF_sharesWordWith_31 rfl hl (by decide) rfl (fun ls hl => ?_)
          have hl : lv_has ls 5 [(3, .int (nI 1)), (2, .int (nI j)), (0, .ref h), (1, .ref h2)] := hl
          refine lv_aload_n hx hb dF_sharesWordWith_32 rfl (lv_at hl 2 rfl) ?_
          refine lv_iload_n hx hb dF_sharesWordWith_33 rfl (lv_at hl 1 rfl) ?_
          refine lv_iconst (v := nI 1) hx hb dF_sharesWordWith_34 (by decide +kernel) ?_
          refine vp_callSi (W.runV (As := [.int (nI j), .int (nI 1)]) (rest := []) ⟨hx, hb, hml, hown, hw⟩ (c_F_allows l dC dI cI cZ h pw ps po pk n wd sg ow co it w sb hF j 1 (by omega) (by omega)) (cwV 2 hw (gV kw_339 kw_341 kw_4 kw_15 kw_342) rfl rfl rfl (by decide +kernel) ⟨Nat.le_of_ble_eq_true rfl, Nat.le_of_ble_eq_true rfl⟩) (ro_preV (q0 := 0) hK (hP.sub (ws' := [(h, .inr (0, [.ref pw, .ref ps, .ref po, .ref pk, .int (nI n)])), (pw, .inl (cI, 6, .inl wd)), (ps, .inl (cZ, 6, .inl sg)), (po, .inl (cI, 64, .inl ow)), (pk, .inl (cI, 64, .inl co))]) [0, 1, 2, 3, 4] rfl) rfl rfl) rfl rfl hl.1 rfl (lv_room (Nat.le_of_ble_eq_true rfl)) dF_sharesWordWith_35 ⟨Nat.zero_le _, Nat.zero_le _⟩) (fun v35 e35 => ?_)
          obtain rfl : v35 = nI (alw it n j 1).toNat := e35
          refine lv_if_eq (tgt := 54) hx hb dF_sharesWordWith_38 (by decide) (fun h38 => ?_) (fun h38 => ?_)
          · refine lv_iconst (v := nI 0) hx hb dF_sharesWordWith_54 (by decide +kernel) ?_
            refine lv_istore hx hb dF_sharesWordWith_55 hl (by decide) rfl (fun ls hl => ?_)
            have hl : lv_has ls 5 [(4, .int (nI 0)), (3, .int (nI 1)), (2, .int (nI j)), (0, .ref h), (1, .ref h2)] := hl
            refine lv_iload_n hx hb dF_sharesWordWith_57 rfl (lv_at hl 1 rfl) ?_
            refine lv_if_ne (tgt := 68) hx hb dF_sharesWordWith_58 (by decide) (fun h58 => ?_) (fun h58 => ?_)
            · refine lv_iinc (k := 2) (v := nI (j + 1)) hx hb dF_sharesWordWith_68 hl rfl (cw_inc _) (by decide) rfl (fun ls hl => ?_)
              have hl : lv_has ls 5 [(2, .int (nI (j + 1))), (4, .int (nI 0)), (3, .int (nI 1)), (0, .ref h), (1, .ref h2)] := hl
              refine lv_goto (tgt := 2) hx hb dF_sharesWordWith_71 (by decide) ?_
              exact ih2 _ (by omega) (j + 1) ls rfl (lv_sub (l' := [(2, .int (nI (j + 1))), (0, .ref h), (1, .ref h2)]) hl [0, 3, 4] rfl) (by omega) (by simp only [allb, ha, Bool.true_and]; first | exact shw_0 (b_nf h14) (b_nf h23) | exact shw_1 (b_nf h38) (b_nf h47))
            · exfalso
              first | exact h58 (by decide +kernel) | exact absurd h58 (by decide +kernel)
          · refine lv_aload_n hx hb dF_sharesWordWith_41 rfl (lv_at hl 3 rfl) ?_
            refine lv_iload_n hx hb dF_sharesWordWith_42 rfl (lv_at hl 1 rfl) ?_
            refine lv_iconst (v := nI 1) hx hb dF_sharesWordWith_43 (by decide +kernel) ?_
            refine vp_callSi (W.runV (As := [.int (nI j), .int (nI 1)]) (rest := []) ⟨hx, hb, hml, hown, hw⟩ (c_F_allows l dC dI cI cZ h2 pw2 ps2 po2 pk2 n2 wd2 sg2 ow2 co2 it2 w2 sb2 hF2 j 1 (by omega) (by omega)) (cwV 2 hw (gV kw_339 kw_341 kw_4 kw_15 kw_342) rfl rfl rfl (by decide +kernel) ⟨Nat.le_of_ble_eq_true rfl, Nat.le_of_ble_eq_true rfl⟩) (ro_preV (q0 := 0) hK (hP.sub (ws' := [(h2, .inr (0, [.ref pw2, .ref ps2, .ref po2, .ref pk2, .int (nI n2)])), (pw2, .inl (cI, 6, .inl wd2)), (ps2, .inl (cZ, 6, .inl sg2)), (po2, .inl (cI, 64, .inl ow2)), (pk2, .inl (cI, 64, .inl co2))]) [5, 6, 7, 8, 9] rfl) rfl rfl) rfl rfl hl.1 rfl (lv_room (Nat.le_of_ble_eq_true rfl)) dF_sharesWordWith_44 ⟨Nat.zero_le _, Nat.zero_le _⟩) (fun v44 e44 => ?_)
            obtain rfl : v44 = nI (alw it2 n2 j 1).toNat := e44
            refine lv_if_eq (tgt := 54) hx hb dF_sharesWordWith_47 (by decide) (fun h47 => ?_) (fun h47 => ?_)
            · refine lv_iconst (v := nI 0) hx hb dF_sharesWordWith_54 (by decide +kernel) ?_
              refine lv_istore hx hb dF_sharesWordWith_55 hl (by decide) rfl (fun ls hl => ?_)
              have hl : lv_has ls 5 [(4, .int (nI 0)), (3, .int (nI 1)), (2, .int (nI j)), (0, .ref h), (1, .ref h2)] := hl
              refine lv_iload_n hx hb dF_sharesWordWith_57 rfl (lv_at hl 1 rfl) ?_
              refine lv_if_ne (tgt := 68) hx hb dF_sharesWordWith_58 (by decide) (fun h58 => ?_) (fun h58 => ?_)
              · refine lv_iinc (k := 2) (v := nI (j + 1)) hx hb dF_sharesWordWith_68 hl rfl (cw_inc _) (by decide) rfl (fun ls hl => ?_)
                have hl : lv_has ls 5 [(2, .int (nI (j + 1))), (4, .int (nI 0)), (3, .int (nI 1)), (0, .ref h), (1, .ref h2)] := hl
                refine lv_goto (tgt := 2) hx hb dF_sharesWordWith_71 (by decide) ?_
                exact ih2 _ (by omega) (j + 1) ls rfl (lv_sub (l' := [(2, .int (nI (j + 1))), (0, .ref h), (1, .ref h2)]) hl [0, 3, 4] rfl) (by omega) (by simp only [allb, ha, Bool.true_and]; first | exact shw_0 (b_nf h14) (b_nf h23) | exact shw_1 (b_nf h38) (b_nf h47))
              · exfalso
                first | exact h58 (by decide +kernel) | exact absurd h58 (by decide +kernel)
            · refine lv_iconst (v := nI 1) hx hb dF_sharesWordWith_50 (by decide +kernel) ?_
              refine lv_goto (tgt := 55) hx hb dF_sharesWordWith_51 (by decide) ?_
              refine lv_istore hx hb dF_sharesWordWith_55 hl (by decide) rfl (fun ls hl => ?_)
              have hl : lv_has ls 5 [(4, .int (nI 1)), (3, .int (nI 1)), (2, .int (nI j)), (0, .ref h), (1, .ref h2)] := hl
              refine lv_iload_n hx hb dF_sharesWordWith_57 rfl (lv_at hl 1 rfl) ?_
              refine lv_if_ne (tgt := 68) hx hb dF_sharesWordWith_58 (by decide) (fun h58 => ?_) (fun h58 => ?_)
              · refine lv_iinc (k := 2) (v := nI (j + 1)) hx hb dF_sharesWordWith_68 hl rfl (cw_inc _) (by decide) rfl (fun ls hl => ?_)
                have hl : lv_has ls 5 [(2, .int (nI (j + 1))), (4, .int (nI 1)), (3, .int (nI 1)), (0, .ref h), (1, .ref h2)] := hl
                refine lv_goto (tgt := 2) hx hb dF_sharesWordWith_71 (by decide) ?_
                exact ih2 _ (by omega) (j + 1) ls rfl (lv_sub (l' := [(2, .int (nI (j + 1))), (0, .ref h), (1, .ref h2)]) hl [0, 3, 4] rfl) (by omega) (by simp only [allb, ha, Bool.true_and]; first | exact shw_0 (b_nf h14) (b_nf h23) | exact shw_1 (b_nf h38) (b_nf h47))
              · exfalso
                first | exact h58 (by decide +kernel) | exact absurd h58 (by decide +kernel)
