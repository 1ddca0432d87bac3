/-! the reference by numbers: eight forms -/
def mR (ns : Nat → Nat) (its wss : Nat → Nat → Nat) (sbs : Nat → Nat → Bool) (ln wh bi si : Nat → Int32) : Prop :=
  ∀ f, f < 8 → cw_ok (its f) (ns f) (wss f) ∧ ln f = nI (ns f) ∧ (∀ o, o < 6 → bi (6 * f + o) = nI (wss f o) ∧ si (6 * f + o) = nI (sbs f o).toNat) ∧ ∀ j, j < ns f → wh (64 * f + j) = nI (its f j)
def isF (x : Int32) : Bool := decide (0 ≤ x.toInt ∧ x.toInt < 8)
def isO (x : Int32) : Bool := decide (0 ≤ x.toInt ∧ x.toInt < 6)
def isB (x : Int32) : Bool := decide (1 ≤ x.toInt ∧ x.toInt ≤ 64)
def isW (x : Int32) : Bool := decide (0 ≤ x.toInt ∧ x.toInt ≤ 3)
def fi (x : Int32) : Nat := x.toInt.toNat
theorem fi_nI {n : Nat} (h : n < 2 ^ 31) : fi (nI n) = n := by unfold fi; rw [nI_toInt h]; rfl
theorem toI_of {x : Int32} {n : Nat} (hn : n < 2 ^ 31) (h : x.toInt = n) : x = nI n := Int32.toInt_inj.mp (by rw [nI_toInt hn]; exact h)
theorem isF_of {x : Int32} (h : isF x = true) : ∃ f, f < 8 ∧ x = nI f := by
  simp only [isF, decide_eq_true_eq] at h
  exact ⟨x.toInt.toNat, by omega, toI_of (by omega) (by omega)⟩
theorem isO_of {x : Int32} (h : isO x = true) : ∃ f, f < 6 ∧ x = nI f := by
  simp only [isO, decide_eq_true_eq] at h
  exact ⟨x.toInt.toNat, by omega, toI_of (by omega) (by omega)⟩
theorem isB_of {x : Int32} (h : isB x = true) : ∃ f, (1 ≤ f ∧ f ≤ 64) ∧ x = nI f := by
  simp only [isB, decide_eq_true_eq] at h
  exact ⟨x.toInt.toNat, by omega, toI_of (by omega) (by omega)⟩
theorem isW_of {x : Int32} (h : isW x = true) : ∃ f, f < 4 ∧ x = nI f := by
  simp only [isW, decide_eq_true_eq] at h
  exact ⟨x.toInt.toNat, by omega, toI_of (by omega) (by omega)⟩
theorem isF_nI {f : Nat} (h : f < 8) : isF (nI f) = true := by
  have h1 : (nI f).toInt = f := nI_toInt (by omega)
  exact decide_eq_true (by omega)
theorem isO_nI {f : Nat} (h : f < 6) : isO (nI f) = true := by
  have h1 : (nI f).toInt = f := nI_toInt (by omega)
  exact decide_eq_true (by omega)
theorem isB_nI {f : Nat} (h : 1 ≤ f ∧ f ≤ 64) : isB (nI f) = true := by
  have h1 : (nI f).toInt = f := nI_toInt (by omega)
  exact decide_eq_true (by omega)
theorem isW_nI {f : Nat} (h : f < 4) : isW (nI f) = true := by
  have h1 : (nI f).toInt = f := nI_toInt (by omega)
  exact decide_eq_true (by omega)
theorem in_k {a b : Nat} (ha : a < 2 ^ 31) (hb : b < 2 ^ 31) (x : Int32) : (lN a ≤ x.toInt64 ∧ x.toInt64 ≤ lN b) ↔ ((a : Int) ≤ x.toInt ∧ x.toInt ≤ b) := by
  rw [Int64.le_iff_toInt_le, Int64.le_iff_toInt_le, Int32.toInt_toInt64, lN_toInt ha, lN_toInt hb]
theorem isF_in (x : Int32) : nI (decide (lN 0 ≤ x.toInt64 ∧ x.toInt64 ≤ lN 7)).toNat = nI (isF x).toNat := by
  congr 2; unfold isF; apply decide_eq_decide.mpr; rw [in_k (by decide) (by decide)]; omega
theorem isO_in (x : Int32) : nI (decide (lN 0 ≤ x.toInt64 ∧ x.toInt64 ≤ lN 5)).toNat = nI (isO x).toNat := by
  congr 2; unfold isO; apply decide_eq_decide.mpr; rw [in_k (by decide) (by decide)]; omega
theorem isB_in (x : Int32) : nI (decide (lN 1 ≤ x.toInt64 ∧ x.toInt64 ≤ lN 64)).toNat = nI (isB x).toNat := by
  congr 2; unfold isB; apply decide_eq_decide.mpr; rw [in_k (by decide) (by decide)]; omega
theorem isW_in (x : Int32) : nI (decide (lN 0 ≤ x.toInt64 ∧ x.toInt64 ≤ lN 3)).toNat = nI (isW x).toNat := by
  congr 2; unfold isW; apply decide_eq_decide.mpr; rw [in_k (by decide) (by decide)]; omega
theorem in_a {v a b : Int64} (h : v < a) : nI 0 = nI (decide (a ≤ v ∧ v ≤ b)).toNat := by
  rw [decide_eq_false (fun q => Int64.not_le.mpr h q.1)]; rfl
theorem in_b {v a b : Int64} (h : b < v) : nI 0 = nI (decide (a ≤ v ∧ v ≤ b)).toNat := by
  rw [decide_eq_false (fun q => Int64.not_le.mpr h q.2)]; rfl
theorem in_c {v a b : Int64} (h : ¬ v < a) (h2 : ¬ b < v) : nI 1 = nI (decide (a ≤ v ∧ v ≤ b)).toNat := by
  rw [decide_eq_true ⟨Int64.not_lt.mp h, Int64.not_lt.mp h2⟩]; rfl
/-- the operand is there -/
def thr (wss : Nat → Nat → Nat) (x o : Int32) : Bool := isF x && (isO o && decide (0 < wss (fi x) (fi o)))
theorem thr_a {wss : Nat → Nat → Nat} {x o : Int32} (h : isF x = false) : nI 0 = nI (thr wss x o).toNat := by unfold thr; rw [h]; rfl
theorem thr_b {wss : Nat → Nat → Nat} {f : Nat} {o : Int32} (h : isO o = false) : nI 0 = nI (thr wss (nI f) o).toNat := by unfold thr; rw [h]; simp
theorem thr_nI {wss : Nat → Nat → Nat} {f o : Nat} (hf : f < 8) (ho : o < 6) : thr wss (nI f) (nI o) = decide (0 < wss f o) := by
  unfold thr; rw [isF_nI hf, isO_nI ho, fi_nI (by omega), fi_nI (by omega)]; rfl
theorem thr_c {wss : Nat → Nat → Nat} {f o : Nat} (hf : f < 8) (ho : o < 6) (h : wss f o = 0) : nI 0 = nI (thr wss (nI f) (nI o)).toNat := by rw [thr_nI hf ho, h]; rfl
theorem thr_d {wss : Nat → Nat → Nat} {f o : Nat} (hf : f < 8) (ho : o < 6) (h : ¬ wss f o = 0) : nI 1 = nI (thr wss (nI f) (nI o)).toNat := by rw [thr_nI hf ho, decide_eq_true (by omega)]; rfl
theorem thr_of {wss : Nat → Nat → Nat} {x y : Int32} (h : thr wss x y = true) : ∃ f o, f < 8 ∧ o < 6 ∧ 0 < wss f o ∧ x = nI f ∧ y = nI o := by
  simp only [thr, Bool.and_eq_true, decide_eq_true_eq] at h
  obtain ⟨h1, h2, h3⟩ := h
  obtain ⟨f, hf, rfl⟩ := isF_of h1
  obtain ⟨o, ho, rfl⟩ := isO_of h2
  rw [fi_nI (by omega), fi_nI (by omega)] at h3
  exact ⟨f, o, hf, ho, h3, rfl, rfl⟩
/-- where the item x is, the first of them, or -1 -/
def plR (it : Nat → Nat) (n x : Nat) (r : Int32) : Prop := (∃ j, j < n ∧ it j = x ∧ r = nI j) ∨ ((∀ j, j < n → it j ≠ x) ∧ r = -1)
theorem plR_ge {it : Nat → Nat} {n x : Nat} {r : Int32} (hn : n ≤ 64) (h : plR it n x r) : 0 ≤ r ↔ cw_has it x n = true := by
  rw [cw_has_iff]
  rcases h with ⟨j, h1, h2, rfl⟩ | ⟨h1, rfl⟩
  · exact ⟨fun _ => ⟨j, h1, h2⟩, fun _ => nI_pos' (by omega)⟩
  · exact ⟨fun q => absurd q (by decide), fun ⟨j, a, b⟩ => absurd b (h1 j a)⟩
theorem plR_lt {it : Nat → Nat} {n x : Nat} {r : Int32} (hn : n ≤ 64) (h : plR it n x r) : r < 0 ↔ ¬ cw_has it x n = true := by
  rw [← plR_ge hn h, Int32.not_le]
theorem alwT_a {it : Nat → Nat} {n j b : Nat} (h : ¬ j < n) (h2 : b = 0) : alw it n j b = true := by
  unfold alw; rw [if_pos (by omega), h2]; rfl
theorem alwF_b {it : Nat → Nat} {n j b : Nat} (h : ¬ j < n) (h2 : ¬ b = 0) : alw it n j b = false := by
  unfold alw; rw [if_pos (by omega), beq_eq_false_iff_ne.mpr h2]
theorem alwT_c {it : Nat → Nat} {n j b : Nat} (h : j < n) (h2 : ¬ it (n - 1 - j) < 2) : alw it n j b = true := by
  unfold alw; rw [if_neg (by omega), decide_eq_true (by omega)]; rfl
theorem alwT_d {it : Nat → Nat} {n j b : Nat} (h : j < n) (h3 : it (n - 1 - j) = b) : alw it n j b = true := by
  unfold alw; rw [if_neg (by omega), h3, beq_self_eq_true, Bool.or_true]
theorem alwF_e {it : Nat → Nat} {n j b : Nat} (h : j < n) (h2 : it (n - 1 - j) < 2) (h3 : ¬ it (n - 1 - j) = b) : alw it n j b = false := by
  unfold alw; rw [if_neg (by omega), decide_eq_false (by omega), beq_eq_false_iff_ne.mpr h3]; rfl
theorem cw_ext {P : Nat → Prop} {a k : Nat} (h : ∀ q, a ≤ q → q < k → P q) (hk : P k) : ∀ q, a ≤ q → q < k + 1 → P q := by
  intro q h1 h2
  by_cases e : q = k
  · rw [e]; exact hk
  · exact h q h1 (by omega)
set_option maxHeartbeats 4000000 in
set_option maxRecDepth 100000 in
theorem c_M_thrown (l : Launch) (dC : Nat → ClassId) (dI : Nat → Nat → Nat) (cI cZ cJ : ClassId) (hm ml mw mb ms mn : Nat) (er : Int32) (ln wh bi si : Nat → Int32) (nu : Nat → Int64) (ns : Nat → Nat) (its wss : Nat → Nat → Nat) (sbs : Nat → Nat → Bool) (hM : mR ns its wss sbs ln wh bi si) : Met l yM_thrown wM_thrown { frames := 0, cells := 0, slots := 0, locals := 0 } (ro_Pc (dC, dI) cls3 [(hm, .inr (2, [.int er, .ref ml, .ref mw, .ref mb, .ref ms, .ref mn])), (ml, .inl (cI, 8, .inl ln)), (mw, .inl (cI, 512, .inl wh)), (mb, .inl (cI, 48, .inl bi)), (ms, .inl (cZ, 48, .inl si)), (mn, .inl (cJ, 6, .inr (.inl nu)))] [(cI, .int), (cZ, .boolean), (cJ, .long)] [.ref hm]) (vp_Si (fun r => r = er)) 0 0 (fun _ => False) := by
  refine Met.ofW (cc := cM_thrown) (maxL := 1) (ret := (some .int)) (by decide) rfl ?_
  intro p e s m args below meth c s₁ B hml hv
  obtain ⟨rfl, hP, hK⟩ := hv
  have hx := B.exec
  have hb := B.bytes
  have hr := B.returns
  have hts := atoms_spec (ws := wM_thrown) B.pre
  have hw : ∀ w ∈ wA, w.before _ s = true := fun w h => hts w (List.mem_cons_of_mem _ h)
  have hown : s.vm.findClass RM = some m.cls := findClass_of_methodNamed B.named
  have hlocks := B.notSynchronized
  have hl := lv_entry ([.ref hm]) (n := 1) (Nat.le_of_ble_eq_true rfl)
  rw [lg_entry_eq]
  generalize (lg_sl ([.ref hm]) ++ List.replicate (1 - (lg_sl ([.ref hm])).length) Slot.unset).toArray = ls at hl ⊢
  have hl : lv_has ls 1 [(0, .ref hm)] := hl
  refine lv_aload_n hx hb dM_thrown_0 rfl (lv_at hl 0 rfl) ?_
  refine va_get (D := (dC, dI)) (ci := 2) (v := .int er) (C := RM) (T := TM) (N := 6) hx hb hw inM hown hK hP 0 rfl rfl 0 (by decide) (hw _ kw_386) (fun _ h9 => h9) rfl dM_thrown_1 ?_
  exact W.iret (v := er) hx hb hr (fun t ht hW => ⟨_, rfl, (rfl), ht⟩) (fun q h => nomatch h) dM_thrown_4

set_option maxHeartbeats 4000000 in
set_option maxRecDepth 100000 in
theorem c_M_in (l : Launch) (v a b : Int64) : Met l yM_in wM_in { frames := 0, cells := 0, slots := 0, locals := 0 } (fun av9 _ => av9 = ([.long v, .long a, .long b] : List Value).toArray) (vp_Si (fun r => r = nI (decide (a ≤ v ∧ v ≤ b)).toNat)) 0 0 (fun _ => False) := by
  refine Met.ofW (cc := cM_in) (maxL := 6) (ret := (some .boolean)) (by decide) rfl ?_
  intro p e s m args below meth c s₁ B hml hv
  obtain rfl := hv
  have hx := B.exec
  have hb := B.bytes
  have hr := B.returns
  have hts := atoms_spec (ws := wM_in) B.pre
  have hw : ∀ w ∈ wA, w.before _ s = true := fun w h => hts w (List.mem_cons_of_mem _ h)
  have hown : s.vm.findClass RM = some m.cls := findClass_of_methodNamed B.named
  have hlocks := B.notSynchronized
  have hl := lv_entry ([.long v, .long a, .long b]) (n := 6) (Nat.le_of_ble_eq_true rfl)
  rw [lg_entry_eq]
  generalize (lg_sl ([.long v, .long a, .long b]) ++ List.replicate (6 - (lg_sl ([.long v, .long a, .long b])).length) Slot.unset).toArray = ls at hl ⊢
  have hl : lv_has ls 6 [(0, .long v), (2, .long a), (4, .long b)] := hl
  refine lv_lload_n hx hb dM_in_0 rfl (lv_at hl 0 rfl) ?_
  refine lv_lload_n hx hb dM_in_1 rfl (lv_at hl 1 rfl) ?_
  refine W.lcmp hx hb dM_in_2 ?_
  refine lv_topi (fun v2 e2 => ?_)
  refine lv_if_lt (tgt := 17) hx hb dM_in_3 (by decide) (fun h3 => ?_) (fun h3 => ?_)
  · rw [e2, lg_cmp_lt] at h3
    refine lv_iconst (v := nI 0) hx hb dM_in_17 (by decide +kernel) ?_
    exact W.zret (v := nI 0) hx hb hr (by first | exact b_nar _ | decide +kernel) (fun t ht hW => ⟨_, rfl, (by first | exact in_a h3 | exact in_b h10 | exact in_c h3 h10), ht⟩) (fun q h => nomatch h) dM_in_18
  · rw [e2, lg_cmp_lt] at h3
    refine lv_lload_n hx hb dM_in_6 rfl (lv_at hl 0 rfl) ?_
    refine lv_lload hx hb dM_in_7 (lv_at hl 2 rfl) ?_
    refine W.lcmp hx hb dM_in_9 ?_
    refine lv_topi (fun v9 e9 => ?_)
    refine lv_if_gt (tgt := 17) hx hb dM_in_10 (by decide) (fun h10 => ?_) (fun h10 => ?_)
    · rw [e9, lg_cmp_gt] at h10
      refine lv_iconst (v := nI 0) hx hb dM_in_17 (by decide +kernel) ?_
      exact W.zret (v := nI 0) hx hb hr (by first | exact b_nar _ | decide +kernel) (fun t ht hW => ⟨_, rfl, (by first | exact in_a h3 | exact in_b h10 | exact in_c h3 h10), ht⟩) (fun q h => nomatch h) dM_in_18
    · rw [e9, lg_cmp_gt] at h10
      refine lv_iconst (v := nI 1) hx hb dM_in_13 (by decide +kernel) ?_
      refine lv_goto (tgt := 18) hx hb dM_in_14 (by decide) ?_
      exact W.zret (v := nI 1) hx hb hr (by first | exact b_nar _ | decide +kernel) (fun t ht hW => ⟨_, rfl, (by first | exact in_a h3 | exact in_b h10 | exact in_c h3 h10), ht⟩) (fun q h => nomatch h) dM_in_18

set_option maxHeartbeats 4000000 in
set_option maxRecDepth 100000 in
theorem c_M_isForm (l : Launch) (x : Int32) : Met l yM_isForm wM_isForm { frames := 1, cells := 0, slots := 0, locals := 25 } (fun av9 _ => av9 = ([.int x] : List Value).toArray) (vp_Si (fun r => r = nI (isF x).toNat)) 0 0 (fun _ => False) := by
  refine Met.ofW (cc := cM_isForm) (maxL := 1) (ret := (some .boolean)) (by decide) rfl ?_
  intro p e s m args below meth c s₁ B hml hv
  obtain rfl := hv
  have hx := B.exec
  have hb := B.bytes
  have hr := B.returns
  have hts := atoms_spec (ws := wM_isForm) B.pre
  have hw : ∀ w ∈ wA, w.before _ s = true := fun w h => hts w (List.mem_cons_of_mem _ h)
  have hown : s.vm.findClass RM = some m.cls := findClass_of_methodNamed B.named
  have hlocks := B.notSynchronized
  have hl := lv_entry ([.int x]) (n := 1) (Nat.le_of_ble_eq_true rfl)
  rw [lg_entry_eq]
  generalize (lg_sl ([.int x]) ++ List.replicate (1 - (lg_sl ([.int x])).length) Slot.unset).toArray = ls at hl ⊢
  have hl : lv_has ls 1 [(0, .int x)] := hl
  refine lv_iload_n hx hb dM_isForm_0 rfl (lv_at hl 0 rfl) ?_
  refine lv_i2l hx hb dM_isForm_1 rfl ?_
  refine lv_topl (fun v1 e1 => ?_)
  refine lv_lconst (v := lN 0) hx hb dM_isForm_2 (by decide +kernel) ?_
  refine lv_ldc2 (v := lN 7) hx hb hown (hw _ kw_416) dM_isForm_3 ?_
  refine vp_callSi (W.runS (As := [.long v1, .long (lN 0), .long (lN 7)]) (rest := []) ⟨hx, hb, hml, hown, hw⟩ (c_M_in l v1 (lN 0) (lN 7)) (cwS 3 hw (gS kw_417 kw_418 kw_16 kw_419) rfl rfl rfl (by decide +kernel) ⟨Nat.le_of_ble_eq_true rfl, Nat.le_of_ble_eq_true rfl⟩) preEq rfl rfl hl.1 rfl (lv_room (Nat.le_of_ble_eq_true rfl)) dM_isForm_6 ⟨Nat.zero_le _, Nat.zero_le _⟩) (fun v6 e6 => ?_)
  obtain rfl : v6 = nI (isF x).toNat := e6.trans (by rw [e1]; exact isF_in x)
  exact W.zret (v := nI (isF x).toNat) hx hb hr (by first | exact b_nar _ | decide +kernel) (fun t ht hW => ⟨_, rfl, (rfl), ht⟩) (fun q h => nomatch h) dM_isForm_9

set_option maxHeartbeats 4000000 in
set_option maxRecDepth 100000 in
theorem c_M_isOperand (l : Launch) (x : Int32) : Met l yM_isOperand wM_isOperand { frames := 1, cells := 0, slots := 0, locals := 25 } (fun av9 _ => av9 = ([.int x] : List Value).toArray) (vp_Si (fun r => r = nI (isO x).toNat)) 0 0 (fun _ => False) := by
  refine Met.ofW (cc := cM_isOperand) (maxL := 1) (ret := (some .boolean)) (by decide) rfl ?_
  intro p e s m args below meth c s₁ B hml hv
  obtain rfl := hv
  have hx := B.exec
  have hb := B.bytes
  have hr := B.returns
  have hts := atoms_spec (ws := wM_isOperand) B.pre
  have hw : ∀ w ∈ wA, w.before _ s = true := fun w h => hts w (List.mem_cons_of_mem _ h)
  have hown : s.vm.findClass RM = some m.cls := findClass_of_methodNamed B.named
  have hlocks := B.notSynchronized
  have hl := lv_entry ([.int x]) (n := 1) (Nat.le_of_ble_eq_true rfl)
  rw [lg_entry_eq]
  generalize (lg_sl ([.int x]) ++ List.replicate (1 - (lg_sl ([.int x])).length) Slot.unset).toArray = ls at hl ⊢
  have hl : lv_has ls 1 [(0, .int x)] := hl
  refine lv_iload_n hx hb dM_isOperand_0 rfl (lv_at hl 0 rfl) ?_
  refine lv_i2l hx hb dM_isOperand_1 rfl ?_
  refine lv_topl (fun v1 e1 => ?_)
  refine lv_lconst (v := lN 0) hx hb dM_isOperand_2 (by decide +kernel) ?_
  refine lv_ldc2 (v := lN 5) hx hb hown (hw _ kw_431) dM_isOperand_3 ?_
  refine vp_callSi (W.runS (As := [.long v1, .long (lN 0), .long (lN 5)]) (rest := []) ⟨hx, hb, hml, hown, hw⟩ (c_M_in l v1 (lN 0) (lN 5)) (cwS 3 hw (gS kw_417 kw_418 kw_16 kw_419) rfl rfl rfl (by decide +kernel) ⟨Nat.le_of_ble_eq_true rfl, Nat.le_of_ble_eq_true rfl⟩) preEq rfl rfl hl.1 rfl (lv_room (Nat.le_of_ble_eq_true rfl)) dM_isOperand_6 ⟨Nat.zero_le _, Nat.zero_le _⟩) (fun v6 e6 => ?_)
  obtain rfl : v6 = nI (isO x).toNat := e6.trans (by rw [e1]; exact isO_in x)
  exact W.zret (v := nI (isO x).toNat) hx hb hr (by first | exact b_nar _ | decide +kernel) (fun t ht hW => ⟨_, rfl, (rfl), ht⟩) (fun q h => nomatch h) dM_isOperand_9

set_option maxHeartbeats 4000000 in
set_option maxRecDepth 100000 in
theorem c_M_bit (l : Launch) (v : Int64) (k : Nat) (hk : k < 64) : Met l yM_bit wM_bit { frames := 0, cells := 0, slots := 0, locals := 0 } (fun av9 _ => av9 = ([.long v, .int (nI k)] : List Value).toArray) (vp_Si (fun r => r = nI (bq v k))) 0 0 (fun _ => False) := by
  refine Met.ofW (cc := cM_bit) (maxL := 3) (ret := (some .int)) (by decide) rfl ?_
  intro p e s m args below meth c s₁ B hml hv
  obtain rfl := hv
  have hx := B.exec
  have hb := B.bytes
  have hr := B.returns
  have hts := atoms_spec (ws := wM_bit) B.pre
  have hw : ∀ w ∈ wA, w.before _ s = true := fun w h => hts w (List.mem_cons_of_mem _ h)
  have hown : s.vm.findClass RM = some m.cls := findClass_of_methodNamed B.named
  have hlocks := B.notSynchronized
  have hl := lv_entry ([.long v, .int (nI k)]) (n := 3) (Nat.le_of_ble_eq_true rfl)
  rw [lg_entry_eq]
  generalize (lg_sl ([.long v, .int (nI k)]) ++ List.replicate (3 - (lg_sl ([.long v, .int (nI k)])).length) Slot.unset).toArray = ls at hl ⊢
  have hl : lv_has ls 3 [(0, .long v), (2, .int (nI k))] := hl
  refine lv_lload_n hx hb dM_bit_0 rfl (lv_at hl 0 rfl) ?_
  refine lv_iload_n hx hb dM_bit_1 rfl (lv_at hl 1 rfl) ?_
  refine lv_lshr hx hb dM_bit_2 rfl ?_
  refine lv_topl (fun v2 e2 => ?_)
  refine lv_l2i hx hb dM_bit_3 rfl ?_
  refine lv_topi (fun v3 e3 => ?_)
  refine lv_iconst (v := nI 1) hx hb dM_bit_4 (by decide +kernel) ?_
  refine lv_iand hx hb dM_bit_5 ?_
  refine lv_topi (fun v5 e5 => ?_)
  exact W.iret (v := v5) hx hb hr (fun t ht hW => ⟨_, rfl, (by rw [e5, e3, e2]; exact bq_s v hk), ht⟩) (fun q h => nomatch h) dM_bit_6

set_option maxHeartbeats 4000000 in
set_option maxRecDepth 100000 in
theorem c_M_isThere (l : Launch) (dC : Nat → ClassId) (dI : Nat → Nat → Nat) (cI cZ cJ : ClassId) (hm ml mw mb ms mn : Nat) (er : Int32) (ln wh bi si : Nat → Int32) (nu : Nat → Int64) (ns : Nat → Nat) (its wss : Nat → Nat → Nat) (sbs : Nat → Nat → Bool) (hM : mR ns its wss sbs ln wh bi si) (x y : Int32) : Met l yM_isThere wM_isThere { frames := 2, cells := 0, slots := 0, locals := 45 } (ro_Pc (dC, dI) cls3 [(hm, .inr (2, [.int er, .ref ml, .ref mw, .ref mb, .ref ms, .ref mn])), (ml, .inl (cI, 8, .inl ln)), (mw, .inl (cI, 512, .inl wh)), (mb, .inl (cI, 48, .inl bi)), (ms, .inl (cZ, 48, .inl si)), (mn, .inl (cJ, 6, .inr (.inl nu)))] [(cI, .int), (cZ, .boolean), (cJ, .long)] [.ref hm, .int x, .int y]) (vp_Si (fun r => r = nI (thr wss x y).toNat)) 0 0 (fun _ => False) := by
  refine Met.ofW (cc := cM_isThere) (maxL := 3) (ret := (some .boolean)) (by decide) rfl ?_
  intro p e s m args below meth c s₁ B hml hv
  obtain ⟨rfl, hP, hK⟩ := hv
  have hx := B.exec
  have hb := B.bytes
  have hr := B.returns
  have hts := atoms_spec (ws := wM_isThere) B.pre
  have hw : ∀ w ∈ wA, w.before _ s = true := fun w h => hts w (List.mem_cons_of_mem _ h)
  have hown : s.vm.findClass RM = some m.cls := findClass_of_methodNamed B.named
  have hlocks := B.notSynchronized
  have hl := lv_entry ([.ref hm, .int x, .int y]) (n := 3) (Nat.le_of_ble_eq_true rfl)
  rw [lg_entry_eq]
  generalize (lg_sl ([.ref hm, .int x, .int y]) ++ List.replicate (3 - (lg_sl ([.ref hm, .int x, .int y])).length) Slot.unset).toArray = ls at hl ⊢
  have hl : lv_has ls 3 [(0, .ref hm), (1, .int x), (2, .int y)] := hl
  refine lv_iload_n hx hb dM_isThere_0 rfl (lv_at hl 1 rfl) ?_
  refine vp_callSi (W.runS (As := [.int x]) (rest := []) ⟨hx, hb, hml, hown, hw⟩ (c_M_isForm l x) (cwS 1 hw (gS kw_413 kw_414 kw_16 kw_415) rfl rfl rfl (by decide +kernel) ⟨Nat.le_of_ble_eq_true rfl, Nat.le_of_ble_eq_true rfl⟩) preEq rfl rfl hl.1 rfl (lv_room (Nat.le_of_ble_eq_true rfl)) dM_isThere_1 ⟨Nat.zero_le _, Nat.zero_le _⟩) (fun v1 e1 => ?_)
  obtain rfl : v1 = nI (isF x).toNat := e1
  refine lv_if_eq (tgt := 32) hx hb dM_isThere_4 (by decide) (fun h4 => ?_) (fun h4 => ?_)
  · rw [b_nat0] at h4
    refine lv_iconst (v := nI 0) hx hb dM_isThere_32 (by decide +kernel) ?_
    exact W.zret (v := nI 0) hx hb hr (by first | exact b_nar _ | decide +kernel) (fun t ht hW => ⟨_, rfl, (by first | exact thr_a h4 | exact thr_b h11 | exact thr_c hf ho h25 | exact thr_d hf ho h25), ht⟩) (fun q h => nomatch h) dM_isThere_33
  · obtain ⟨f, hf, rfl⟩ := isF_of (b_nf h4)
    refine lv_iload_n hx hb dM_isThere_7 rfl (lv_at hl 2 rfl) ?_
    refine vp_callSi (W.runS (As := [.int y]) (rest := []) ⟨hx, hb, hml, hown, hw⟩ (c_M_isOperand l y) (cwS 1 hw (gS kw_428 kw_429 kw_16 kw_430) rfl rfl rfl (by decide +kernel) ⟨Nat.le_of_ble_eq_true rfl, Nat.le_of_ble_eq_true rfl⟩) preEq rfl rfl hl.1 rfl (lv_room (Nat.le_of_ble_eq_true rfl)) dM_isThere_8 ⟨Nat.zero_le _, Nat.zero_le _⟩) (fun v8 e8 => ?_)
    obtain rfl : v8 = nI (isO y).toNat := e8
    refine lv_if_eq (tgt := 32) hx hb dM_isThere_11 (by decide) (fun h11 => ?_) (fun h11 => ?_)
    · rw [b_nat0] at h11
      refine lv_iconst (v := nI 0) hx hb dM_isThere_32 (by decide +kernel) ?_
      exact W.zret (v := nI 0) hx hb hr (by first | exact b_nar _ | decide +kernel) (fun t ht hW => ⟨_, rfl, (by first | exact thr_a h4 | exact thr_b h11 | exact thr_c hf ho h25 | exact thr_d hf ho h25), ht⟩) (fun q h => nomatch h) dM_isThere_33
    · obtain ⟨o, ho, rfl⟩ := isO_of (b_nf h11)
      have hwo := (hM f hf).1.2.1 o ho
      refine lv_aload_n hx hb dM_isThere_14 rfl (lv_at hl 0 rfl) ?_
      refine va_get (D := (dC, dI)) (ci := 2) (v := .ref mb) (C := RM) (T := TM) (N := 6) hx hb hw inM hown hK hP 0 rfl rfl 3 (by decide) (hw _ kw_389) (fun _ h9 => h9) rfl dM_isThere_15 ?_
      refine lv_bipush (v := nI 6) hx hb dM_isThere_18 (by decide +kernel) ?_
      refine lv_iload_n hx hb dM_isThere_20 rfl (lv_at hl 1 rfl) ?_
      refine lv_imul hx hb dM_isThere_21 ?_
      refine lv_topi (fun v21 e21 => ?_)
      obtain rfl : v21 = nI (6 * f) := e21.trans (pk_mul _ _)
      refine lv_iload_n hx hb dM_isThere_22 rfl (lv_at hl 2 rfl) ?_
      refine lv_iadd hx hb dM_isThere_23 ?_
      refine lv_topi (fun v23 e23 => ?_)
      obtain rfl : v23 = nI (6 * f + o) := e23.trans (nI_add _ _)
      refine va_iald hx hb hK hP 3 0 rfl rfl (vp_in_nI (by omega) (by decide)) dM_isThere_24 ?_
      refine lv_topi (fun v24 e24 => ?_)
      rw [nI_clamp (by omega)] at e24
      obtain rfl : v24 = nI (wss f o) := e24.trans ((hM f hf).2.2.1 o (by omega)).1
      refine lv_if_le (tgt := 32) hx hb dM_isThere_25 (by decide) (fun h25 => ?_) (fun h25 => ?_)
      · rw [nI_le0 (by omega)] at h25
        refine lv_iconst (v := nI 0) hx hb dM_isThere_32 (by decide +kernel) ?_
        exact W.zret (v := nI 0) hx hb hr (by first | exact b_nar _ | decide +kernel) (fun t ht hW => ⟨_, rfl, (by first | exact thr_a h4 | exact thr_b h11 | exact thr_c hf ho h25 | exact thr_d hf ho h25), ht⟩) (fun q h => nomatch h) dM_isThere_33
      · rw [nI_le0 (by omega)] at h25
        refine lv_iconst (v := nI 1) hx hb dM_isThere_28 (by decide +kernel) ?_
        refine lv_goto (tgt := 33) hx hb dM_isThere_29 (by decide) ?_
        exact W.zret (v := nI 1) hx hb hr (by first | exact b_nar _ | decide +kernel) (fun t ht hW => ⟨_, rfl, (by first | exact thr_a h4 | exact thr_b h11 | exact thr_c hf ho h25 | exact thr_d hf ho h25), ht⟩) (fun q h => nomatch h) dM_isThere_33

set_option maxHeartbeats 4000000 in
set_option maxRecDepth 100000 in
theorem c_M_many (l : Launch) (dC : Nat → ClassId) (dI : Nat → Nat → Nat) (cI cZ cJ : ClassId) (hm ml mw mb ms mn : Nat) (er : Int32) (ln wh bi si : Nat → Int32) (nu : Nat → Int64) (ns : Nat → Nat) (its wss : Nat → Nat → Nat) (sbs : Nat → Nat → Bool) (hM : mR ns its wss sbs ln wh bi si) (f o : Nat) (hf : f < 8) (ho : o < 6) : Met l yM_many wM_many { frames := 0, cells := 0, slots := 0, locals := 0 } (ro_Pc (dC, dI) cls3 [(hm, .inr (2, [.int er, .ref ml, .ref mw, .ref mb, .ref ms, .ref mn])), (ml, .inl (cI, 8, .inl ln)), (mw, .inl (cI, 512, .inl wh)), (mb, .inl (cI, 48, .inl bi)), (ms, .inl (cZ, 48, .inl si)), (mn, .inl (cJ, 6, .inr (.inl nu)))] [(cI, .int), (cZ, .boolean), (cJ, .long)] [.ref hm, .int (nI f), .int (nI o)]) (vp_Si (fun r => r = nI (wss f o))) 0 0 (fun _ => False) := by
  refine Met.ofW (cc := cM_many) (maxL := 3) (ret := (some .int)) (by decide) rfl ?_
  intro p e s m args below meth c s₁ B hml hv
  obtain ⟨rfl, hP, hK⟩ := hv
  have hx := B.exec
  have hb := B.bytes
  have hr := B.returns
  have hts := atoms_spec (ws := wM_many) B.pre
  have hw : ∀ w ∈ wA, w.before _ s = true := fun w h => hts w (List.mem_cons_of_mem _ h)
  have hown : s.vm.findClass RM = some m.cls := findClass_of_methodNamed B.named
  have hlocks := B.notSynchronized
  have hl := lv_entry ([.ref hm, .int (nI f), .int (nI o)]) (n := 3) (Nat.le_of_ble_eq_true rfl)
  rw [lg_entry_eq]
  generalize (lg_sl ([.ref hm, .int (nI f), .int (nI o)]) ++ List.replicate (3 - (lg_sl ([.ref hm, .int (nI f), .int (nI o)])).length) Slot.unset).toArray = ls at hl ⊢
  have hl : lv_has ls 3 [(0, .ref hm), (1, .int (nI f)), (2, .int (nI o))] := hl
  refine lv_aload_n hx hb dM_many_0 rfl (lv_at hl 0 rfl) ?_
  refine va_get (D := (dC, dI)) (ci := 2) (v := .ref mb) (C := RM) (T := TM) (N := 6) hx hb hw inM hown hK hP 0 rfl rfl 3 (by decide) (hw _ kw_389) (fun _ h9 => h9) rfl dM_many_1 ?_
  refine lv_bipush (v := nI 6) hx hb dM_many_4 (by decide +kernel) ?_
  refine lv_iload_n hx hb dM_many_6 rfl (lv_at hl 1 rfl) ?_
  refine lv_imul hx hb dM_many_7 ?_
  refine lv_topi (fun v7 e7 => ?_)
  obtain rfl : v7 = nI (6 * f) := e7.trans (pk_mul _ _)
  refine lv_iload_n hx hb dM_many_8 rfl (lv_at hl 2 rfl) ?_
  refine lv_iadd hx hb dM_many_9 ?_
  refine lv_topi (fun v9 e9 => ?_)
  obtain rfl : v9 = nI (6 * f + o) := e9.trans (nI_add _ _)
  refine va_iald hx hb hK hP 3 0 rfl rfl (vp_in_nI (by omega) (by decide)) dM_many_10 ?_
  refine lv_topi (fun v10 e10 => ?_)
  rw [nI_clamp (by omega)] at e10
  obtain rfl : v10 = nI (wss f o) := e10.trans ((hM f hf).2.2.1 o (by omega)).1
  exact W.iret (v := nI (wss f o)) hx hb hr (fun t ht hW => ⟨_, rfl, (rfl), ht⟩) (fun q h => nomatch h) dM_many_11

set_option maxHeartbeats 4000000 in
set_option maxRecDepth 100000 in
theorem c_M_place (l : Launch) (dC : Nat → ClassId) (dI : Nat → Nat → Nat) (cI cZ cJ : ClassId) (hm ml mw mb ms mn : Nat) (er : Int32) (ln wh bi si : Nat → Int32) (nu : Nat → Int64) (ns : Nat → Nat) (its wss : Nat → Nat → Nat) (sbs : Nat → Nat → Bool) (hM : mR ns its wss sbs ln wh bi si) (f o k : Nat) (hf : f < 8) (ho : o < 6) (hk : k < 64) : Met l yM_place wM_place { frames := 0, cells := 0, slots := 0, locals := 0 } (ro_Pc (dC, dI) cls3 [(hm, .inr (2, [.int er, .ref ml, .ref mw, .ref mb, .ref ms, .ref mn])), (ml, .inl (cI, 8, .inl ln)), (mw, .inl (cI, 512, .inl wh)), (mb, .inl (cI, 48, .inl bi)), (ms, .inl (cZ, 48, .inl si)), (mn, .inl (cJ, 6, .inr (.inl nu)))] [(cI, .int), (cZ, .boolean), (cJ, .long)] [.ref hm, .int (nI f), .int (nI o), .int (nI k)]) (vp_Si (fun r => plR (its f) (ns f) (2 + 64 * o + k) r)) 0 0 (fun _ => False) := by
  refine Met.ofW (cc := cM_place) (maxL := 5) (ret := (some .int)) (by decide) rfl ?_
  intro p e s m args below meth c s₁ B hml hv
  obtain ⟨rfl, hP, hK⟩ := hv
  have hx := B.exec
  have hb := B.bytes
  have hr := B.returns
  have hts := atoms_spec (ws := wM_place) B.pre
  have hw : ∀ w ∈ wA, w.before _ s = true := fun w h => hts w (List.mem_cons_of_mem _ h)
  have hown : s.vm.findClass RM = some m.cls := findClass_of_methodNamed B.named
  have hlocks := B.notSynchronized
  have hl := lv_entry ([.ref hm, .int (nI f), .int (nI o), .int (nI k)]) (n := 5) (Nat.le_of_ble_eq_true rfl)
  rw [lg_entry_eq]
  generalize (lg_sl ([.ref hm, .int (nI f), .int (nI o), .int (nI k)]) ++ List.replicate (5 - (lg_sl ([.ref hm, .int (nI f), .int (nI o), .int (nI k)])).length) Slot.unset).toArray = ls at hl ⊢
  have hl : lv_has ls 5 [(0, .ref hm), (1, .int (nI f)), (2, .int (nI o)), (3, .int (nI k))] := hl
  have hok := (hM f hf).1
  have hn := hok.1
  have hw64 := hok.2.1
  have hit := cw_it hok
  refine lv_iconst (v := nI 0) hx hb dM_place_0 (by decide +kernel) ?_
  refine lv_istore hx hb dM_place_1 hl (by decide) rfl (fun ls hl => ?_)
  have hl : lv_has ls 5 [(4, .int (nI 0)), (0, .ref hm), (1, .int (nI f)), (2, .int (nI o)), (3, .int (nI k))] := hl
  refine (?_ : ∀ (kk : Nat) (j : Nat) (ls : Array Slot), kk = ns f - j → lv_has ls 5 [(4, .int (nI j)), (0, .ref hm), (1, .int (nI f)), (2, .int (nI o)), (3, .int (nI k))] → (j ≤ ns f) → (∀ i, i < j → its f i ≠ 2 + 64 * o + k) → W p l e _ s m _ below meth c _ _ _ _ _ (F0 m 3 ls [])) _ 0 ls rfl (lv_sub hl [0, 1, 2, 3, 4] rfl) (by omega) (fun i hi => by omega)
  intro kk
  induction kk using Nat.strongRecOn with
  | ind kk3 ih3 =>
    intro j ls hkk3 hl hj hq
    refine lv_iload hx hb dM_place_3 (lv_at hl 0 rfl) ?_
    refine lv_aload_n hx hb dM_place_5 rfl (lv_at hl 1 rfl) ?_
    refine va_get (D := (dC, dI)) (ci := 2) (v := .ref ml) (C := RM) (T := TM) (N := 6) hx hb hw inM hown hK hP 0 rfl rfl 1 (by decide) (hw _ kw_387) (fun _ h9 => h9) rfl dM_place_6 ?_
    refine lv_iload_n hx hb dM_place_9 rfl (lv_at hl 2 rfl) ?_
    refine va_iald hx hb hK hP 1 0 rfl rfl (vp_in_nI (by omega) (by decide)) dM_place_10 ?_
    refine lv_topi (fun v10 e10 => ?_)
    rw [nI_clamp (by omega)] at e10
    obtain rfl : v10 = nI (ns f) := e10.trans (hM f hf).2.1
    refine lv_icmp_ge (tgt := 46) hx hb dM_place_11 (by decide) (fun h11 => ?_) (fun h11 => ?_)
    · rw [nI_leI (by omega) (by omega)] at h11
      refine lv_iconst (v := (-1)) hx hb dM_place_46 (by decide +kernel) ?_
      exact W.iret (v := (-1)) hx hb hr (fun t ht hW => ⟨_, rfl, (by first | exact Or.inl ⟨j, by omega, h34, rfl⟩ | exact Or.inr ⟨fun i hi => hq i (by omega), rfl⟩), ht⟩) (fun q h => nomatch h) dM_place_47
    · rw [nI_leI (by omega) (by omega)] at h11
      refine lv_aload_n hx hb dM_place_14 rfl (lv_at hl 1 rfl) ?_
      refine va_get (D := (dC, dI)) (ci := 2) (v := .ref mw) (C := RM) (T := TM) (N := 6) hx hb hw inM hown hK hP 0 rfl rfl 2 (by decide) (hw _ kw_388) (fun _ h9 => h9) rfl dM_place_15 ?_
      refine lv_bipush (v := nI 64) hx hb dM_place_18 (by decide +kernel) ?_
      refine lv_iload_n hx hb dM_place_20 rfl (lv_at hl 2 rfl) ?_
      refine lv_imul hx hb dM_place_21 ?_
      refine lv_topi (fun v21 e21 => ?_)
      obtain rfl : v21 = nI (64 * f) := e21.trans (pk_mul _ _)
      refine lv_iload hx hb dM_place_22 (lv_at hl 0 rfl) ?_
      refine lv_iadd hx hb dM_place_24 ?_
      refine lv_topi (fun v24 e24 => ?_)
      obtain rfl : v24 = nI (64 * f + j) := e24.trans (nI_add _ _)
      refine va_iald hx hb hK hP 2 0 rfl rfl (vp_in_nI (by omega) (by decide)) dM_place_25 ?_
      refine lv_topi (fun v25 e25 => ?_)
      rw [nI_clamp (by omega)] at e25
      obtain rfl : v25 = nI (its f j) := e25.trans ((hM f hf).2.2.2 j (by omega))
      refine lv_iconst (v := nI 2) hx hb dM_place_26 (by decide +kernel) ?_
      refine lv_bipush (v := nI 64) hx hb dM_place_27 (by decide +kernel) ?_
      refine lv_iload_n hx hb dM_place_29 rfl (lv_at hl 3 rfl) ?_
      refine lv_imul hx hb dM_place_30 ?_
      refine lv_topi (fun v30 e30 => ?_)
      obtain rfl : v30 = nI (64 * o) := e30.trans (pk_mul _ _)
      refine lv_iadd hx hb dM_place_31 ?_
      refine lv_topi (fun v31 e31 => ?_)
      obtain rfl : v31 = nI (2 + 64 * o) := e31.trans (nI_add _ _)
      refine lv_iload_n hx hb dM_place_32 rfl (lv_at hl 4 rfl) ?_
      refine lv_iadd hx hb dM_place_33 ?_
      refine lv_topi (fun v33 e33 => ?_)
      obtain rfl : v33 = nI (2 + 64 * o + k) := e33.trans (nI_add _ _)
      refine lv_icmp_ne (tgt := 40) hx hb dM_place_34 (by decide) (fun h34 => ?_) (fun h34 => ?_)
      · have hij := hit j (by omega)
        rw [nI_eq (by omega) (by omega)] at h34
        refine lv_iinc (k := 0) (v := nI (j + 1)) hx hb dM_place_40 hl rfl (cw_inc _) (by decide) rfl (fun ls hl => ?_)
        have hl : lv_has ls 5 [(4, .int (nI (j + 1))), (0, .ref hm), (1, .int (nI f)), (2, .int (nI o)), (3, .int (nI k))] := hl
        refine lv_goto (tgt := 3) hx hb dM_place_43 (by decide) ?_
        exact ih3 _ (by omega) (j + 1) ls rfl (lv_sub (l' := [(4, .int (nI (j + 1))), (0, .ref hm), (1, .int (nI f)), (2, .int (nI o)), (3, .int (nI k))]) hl [0, 1, 2, 3, 4] rfl) (by omega) (lt_s hq h34)
      · have hij := hit j (by omega)
        rw [nI_eq (by omega) (by omega)] at h34
        refine lv_iload hx hb dM_place_37 (lv_at hl 0 rfl) ?_
        exact W.iret (v := nI j) hx hb hr (fun t ht hW => ⟨_, rfl, (by first | exact Or.inl ⟨j, by omega, h34, rfl⟩ | exact Or.inr ⟨fun i hi => hq i (by omega), rfl⟩), ht⟩) (fun q h => nomatch h) dM_place_39

set_option maxHeartbeats 4000000 in
set_option maxRecDepth 100000 in
theorem c_M_at (l : Launch) (dC : Nat → ClassId) (dI : Nat → Nat → Nat) (cI cZ cJ : ClassId) (hm ml mw mb ms mn : Nat) (er : Int32) (ln wh bi si : Nat → Int32) (nu : Nat → Int64) (ns : Nat → Nat) (its wss : Nat → Nat → Nat) (sbs : Nat → Nat → Bool) (hM : mR ns its wss sbs ln wh bi si) (f j : Nat) (hf : f < 8) (hj : j < ns f) : Met l yM_at wM_at { frames := 0, cells := 0, slots := 0, locals := 0 } (ro_Pc (dC, dI) cls3 [(hm, .inr (2, [.int er, .ref ml, .ref mw, .ref mb, .ref ms, .ref mn])), (ml, .inl (cI, 8, .inl ln)), (mw, .inl (cI, 512, .inl wh)), (mb, .inl (cI, 48, .inl bi)), (ms, .inl (cZ, 48, .inl si)), (mn, .inl (cJ, 6, .inr (.inl nu)))] [(cI, .int), (cZ, .boolean), (cJ, .long)] [.ref hm, .int (nI f), .int (nI j)]) (vp_Si (fun r => r = nI (its f (ns f - 1 - j)))) 0 0 (fun _ => False) := by
  refine Met.ofW (cc := cM_at) (maxL := 3) (ret := (some .int)) (by decide) rfl ?_
  intro p e s m args below meth c s₁ B hml hv
  obtain ⟨rfl, hP, hK⟩ := hv
  have hx := B.exec
  have hb := B.bytes
  have hr := B.returns
  have hts := atoms_spec (ws := wM_at) B.pre
  have hw : ∀ w ∈ wA, w.before _ s = true := fun w h => hts w (List.mem_cons_of_mem _ h)
  have hown : s.vm.findClass RM = some m.cls := findClass_of_methodNamed B.named
  have hlocks := B.notSynchronized
  have hl := lv_entry ([.ref hm, .int (nI f), .int (nI j)]) (n := 3) (Nat.le_of_ble_eq_true rfl)
  rw [lg_entry_eq]
  generalize (lg_sl ([.ref hm, .int (nI f), .int (nI j)]) ++ List.replicate (3 - (lg_sl ([.ref hm, .int (nI f), .int (nI j)])).length) Slot.unset).toArray = ls at hl ⊢
  have hl : lv_has ls 3 [(0, .ref hm), (1, .int (nI f)), (2, .int (nI j))] := hl
  have hok := (hM f hf).1
  have hn := hok.1
  have hw64 := hok.2.1
  have hit := cw_it hok
  refine lv_aload_n hx hb dM_at_0 rfl (lv_at hl 0 rfl) ?_
  refine va_get (D := (dC, dI)) (ci := 2) (v := .ref mw) (C := RM) (T := TM) (N := 6) hx hb hw inM hown hK hP 0 rfl rfl 2 (by decide) (hw _ kw_388) (fun _ h9 => h9) rfl dM_at_1 ?_
  refine lv_bipush (v := nI 64) hx hb dM_at_4 (by decide +kernel) ?_
  refine lv_iload_n hx hb dM_at_6 rfl (lv_at hl 1 rfl) ?_
  refine lv_imul hx hb dM_at_7 ?_
  refine lv_topi (fun v7 e7 => ?_)
  obtain rfl : v7 = nI (64 * f) := e7.trans (pk_mul _ _)
  refine lv_aload_n hx hb dM_at_8 rfl (lv_at hl 0 rfl) ?_
  refine va_get (D := (dC, dI)) (ci := 2) (v := .ref ml) (C := RM) (T := TM) (N := 6) hx hb hw inM hown hK hP 0 rfl rfl 1 (by decide) (hw _ kw_387) (fun _ h9 => h9) rfl dM_at_9 ?_
  refine lv_iload_n hx hb dM_at_12 rfl (lv_at hl 1 rfl) ?_
  refine va_iald hx hb hK hP 1 0 rfl rfl (vp_in_nI (by omega) (by decide)) dM_at_13 ?_
  refine lv_topi (fun v13 e13 => ?_)
  rw [nI_clamp (by omega)] at e13
  obtain rfl : v13 = nI (ns f) := e13.trans (hM f hf).2.1
  refine lv_iadd hx hb dM_at_14 ?_
  refine lv_topi (fun v14 e14 => ?_)
  obtain rfl : v14 = nI (64 * f + ns f) := e14.trans (nI_add _ _)
  refine lv_iconst (v := nI 1) hx hb dM_at_15 (by decide +kernel) ?_
  refine lv_isub hx hb dM_at_16 ?_
  refine lv_topi (fun v16 e16 => ?_)
  obtain rfl : v16 = nI (64 * f + ns f - 1) := e16.trans (pk_sub (by omega))
  refine lv_iload_n hx hb dM_at_17 rfl (lv_at hl 2 rfl) ?_
  refine lv_isub hx hb dM_at_18 ?_
  refine lv_topi (fun v18 e18 => ?_)
  obtain rfl : v18 = nI (64 * f + ns f - 1 - j) := e18.trans (pk_sub (by omega))
  refine va_iald hx hb hK hP 2 0 rfl rfl (vp_in_nI (by omega) (by decide)) dM_at_19 ?_
  refine lv_topi (fun v19 e19 => ?_)
  rw [nI_clamp (by omega)] at e19
  obtain rfl : v19 = nI (its f (ns f - 1 - j)) := (e19.trans (congrArg wh (show 64 * f + ns f - 1 - j = 64 * f + (ns f - 1 - j) by omega))).trans ((hM f hf).2.2.2 (ns f - 1 - j) (by omega))
  exact W.iret (v := nI (its f (ns f - 1 - j))) hx hb hr (fun t ht hW => ⟨_, rfl, (rfl), ht⟩) (fun q h => nomatch h) dM_at_20

set_option maxHeartbeats 4000000 in
set_option maxRecDepth 100000 in
theorem c_M_left (l : Launch) (dC : Nat → ClassId) (dI : Nat → Nat → Nat) (cI cZ cJ : ClassId) (hm ml mw mb ms mn : Nat) (er : Int32) (ln wh bi si : Nat → Int32) (nu : Nat → Int64) (ns : Nat → Nat) (its wss : Nat → Nat → Nat) (sbs : Nat → Nat → Bool) (hM : mR ns its wss sbs ln wh bi si) (f : Nat) (hf : f < 8) : Met l yM_left wM_left { frames := 1, cells := 0, slots := 0, locals := 24 } (ro_Pc (dC, dI) cls3 [(hm, .inr (2, [.int er, .ref ml, .ref mw, .ref mb, .ref ms, .ref mn])), (ml, .inl (cI, 8, .inl ln)), (mw, .inl (cI, 512, .inl wh)), (mb, .inl (cI, 48, .inl bi)), (ms, .inl (cZ, 48, .inl si)), (mn, .inl (cJ, 6, .inr (.inl nu)))] [(cI, .int), (cZ, .boolean), (cJ, .long)] [.ref hm, .int (nI f)]) (vp_Si (fun r => r = nI (cw_lft (its f) (ns f) (wss f) 6))) 0 0 (fun _ => False) := by
  refine Met.ofW (cc := cM_left) (maxL := 5) (ret := (some .int)) (by decide) rfl ?_
  intro p e s m args below meth c s₁ B hml hv
  obtain ⟨rfl, hP, hK⟩ := hv
  have hx := B.exec
  have hb := B.bytes
  have hr := B.returns
  have hts := atoms_spec (ws := wM_left) B.pre
  have hw : ∀ w ∈ wA, w.before _ s = true := fun w h => hts w (List.mem_cons_of_mem _ h)
  have hown : s.vm.findClass RM = some m.cls := findClass_of_methodNamed B.named
  have hlocks := B.notSynchronized
  have hl := lv_entry ([.ref hm, .int (nI f)]) (n := 5) (Nat.le_of_ble_eq_true rfl)
  rw [lg_entry_eq]
  generalize (lg_sl ([.ref hm, .int (nI f)]) ++ List.replicate (5 - (lg_sl ([.ref hm, .int (nI f)])).length) Slot.unset).toArray = ls at hl ⊢
  have hl : lv_has ls 5 [(0, .ref hm), (1, .int (nI f))] := hl
  have hok := (hM f hf).1
  have hn := hok.1
  have hw64 := hok.2.1
  have hit := cw_it hok
  refine lv_iconst (v := nI 0) hx hb dM_left_0 (by decide +kernel) ?_
  refine lv_istore_n hx hb dM_left_1 rfl hl (by decide) rfl (fun ls hl => ?_)
  have hl : lv_has ls 5 [(2, .int (nI 0)), (0, .ref hm), (1, .int (nI f))] := hl
  refine lv_iconst (v := nI 0) hx hb dM_left_2 (by decide +kernel) ?_
  refine lv_istore_n hx hb dM_left_3 rfl hl (by decide) rfl (fun ls hl => ?_)
  have hl : lv_has ls 5 [(3, .int (nI 0)), (2, .int (nI 0)), (0, .ref hm), (1, .int (nI f))] := hl
  refine (?_ : ∀ (kk : Nat) (o : Nat) (ls : Array Slot), kk = 6 - o → lv_has ls 5 [(3, .int (nI o)), (2, .int (nI (cw_lft (its f) (ns f) (wss f) o))), (0, .ref hm), (1, .int (nI f))] → (o ≤ 6) → W p l e _ s m _ below meth c _ _ _ _ _ (F0 m 4 ls [])) _ 0 ls rfl (lv_sub hl [0, 1, 2, 3] rfl) (by omega)
  intro kk
  induction kk using Nat.strongRecOn with
  | ind kk4 ih4 =>
    intro o ls hkk4 hl ho
    refine lv_iload_n hx hb dM_left_4 rfl (lv_at hl 0 rfl) ?_
    refine lv_bipush (v := nI 6) hx hb dM_left_5 (by decide +kernel) ?_
    refine lv_icmp_ge (tgt := 50) hx hb dM_left_7 (by decide) (fun h7 => ?_) (fun h7 => ?_)
    · rw [nI_leI (by omega) (by omega)] at h7
      refine lv_iload_n hx hb dM_left_50 rfl (lv_at hl 1 rfl) ?_
      exact W.iret (v := nI (cw_lft (its f) (ns f) (wss f) o)) hx hb hr (fun t ht hW => ⟨_, rfl, (by rw [show o = 6 by omega]), ht⟩) (fun q h => nomatch h) dM_left_51
    · rw [nI_leI (by omega) (by omega)] at h7
      have hwo := hw64 o (by omega)
      refine lv_iconst (v := nI 0) hx hb dM_left_10 (by decide +kernel) ?_
      refine lv_istore hx hb dM_left_11 hl (by decide) rfl (fun ls hl => ?_)
      have hl : lv_has ls 5 [(4, .int (nI 0)), (3, .int (nI o)), (2, .int (nI (cw_lft (its f) (ns f) (wss f) o))), (0, .ref hm), (1, .int (nI f))] := hl
      refine (?_ : ∀ (kk : Nat) (k : Nat) (ls : Array Slot), kk = wss f o - k → lv_has ls 5 [(4, .int (nI k)), (3, .int (nI o)), (2, .int (nI (cw_lft (its f) (ns f) (wss f) o + cw_lft1 (its f) (ns f) o k))), (0, .ref hm), (1, .int (nI f))] → (k ≤ wss f o) → W p l e _ s m _ below meth c _ _ _ _ _ (F0 m 13 ls [])) _ 0 ls rfl (lv_sub hl [0, 1, 2, 3, 4] rfl) (by omega)
      intro kk
      induction kk using Nat.strongRecOn with
      | ind kk13 ih13 =>
        intro k ls hkk13 hl hk
        refine lv_iload hx hb dM_left_13 (lv_at hl 0 rfl) ?_
        refine lv_aload_n hx hb dM_left_15 rfl (lv_at hl 3 rfl) ?_
        refine lv_iload_n hx hb dM_left_16 rfl (lv_at hl 4 rfl) ?_
        refine lv_iload_n hx hb dM_left_17 rfl (lv_at hl 1 rfl) ?_
        refine vp_callSi (W.runV (As := [.int (nI f), .int (nI o)]) (rest := [.int (nI k)]) ⟨hx, hb, hml, hown, hw⟩ (c_M_many l dC dI cI cZ cJ hm ml mw mb ms mn er ln wh bi si nu ns its wss sbs hM f o hf (by omega)) (cwV 2 hw (gV kw_433 kw_435 kw_6 kw_16 kw_436) rfl rfl rfl (by decide +kernel) ⟨Nat.le_of_ble_eq_true rfl, Nat.le_of_ble_eq_true rfl⟩) (ro_preV (q0 := 0) hK hP rfl rfl) rfl rfl hl.1 rfl (lv_room (Nat.le_of_ble_eq_true rfl)) dM_left_18 ⟨Nat.zero_le _, Nat.zero_le _⟩) (fun v18 e18 => ?_)
        obtain rfl : v18 = nI (wss f o) := e18
        refine lv_icmp_ge (tgt := 44) hx hb dM_left_21 (by decide) (fun h21 => ?_) (fun h21 => ?_)
        · rw [nI_leI (by omega) (by omega)] at h21
          refine lv_iinc (k := 1) (v := nI (o + 1)) hx hb dM_left_44 hl rfl (cw_inc _) (by decide) rfl (fun ls hl => ?_)
          have hl : lv_has ls 5 [(3, .int (nI (o + 1))), (4, .int (nI k)), (2, .int (nI (cw_lft (its f) (ns f) (wss f) o + cw_lft1 (its f) (ns f) o k))), (0, .ref hm), (1, .int (nI f))] := hl
          refine lv_goto (tgt := 4) hx hb dM_left_47 (by decide) ?_
          exact ih4 _ (by omega) (o + 1) ls rfl (cw_lvx (lv_sub (l' := [(3, .int (nI (o + 1))), (2, .int (nI (cw_lft (its f) (ns f) (wss f) o + cw_lft1 (its f) (ns f) o k))), (0, .ref hm), (1, .int (nI f))]) hl [0, 2, 3, 4] rfl) (by rw [show k = wss f o by omega]; rfl)) (by omega)
        · rw [nI_leI (by omega) (by omega)] at h21
          refine lv_aload_n hx hb dM_left_24 rfl (lv_at hl 3 rfl) ?_
          refine lv_iload_n hx hb dM_left_25 rfl (lv_at hl 4 rfl) ?_
          refine lv_iload_n hx hb dM_left_26 rfl (lv_at hl 1 rfl) ?_
          refine lv_iload hx hb dM_left_27 (lv_at hl 0 rfl) ?_
          refine vp_callSi (W.runV (As := [.int (nI f), .int (nI o), .int (nI k)]) (rest := []) ⟨hx, hb, hml, hown, hw⟩ (c_M_place l dC dI cI cZ cJ hm ml mw mb ms mn er ln wh bi si nu ns its wss sbs hM f o k hf (by omega) (by omega)) (cwV 3 hw (gV kw_452 kw_454 kw_8 kw_16 kw_455) rfl rfl rfl (by decide +kernel) ⟨Nat.le_of_ble_eq_true rfl, Nat.le_of_ble_eq_true rfl⟩) (ro_preV (q0 := 0) hK hP rfl rfl) rfl rfl hl.1 rfl (lv_room (Nat.le_of_ble_eq_true rfl)) dM_left_29 ⟨Nat.zero_le _, Nat.zero_le _⟩) (fun v29 e29 => ?_)
          refine lv_if_ge (tgt := 38) hx hb dM_left_32 (by decide) (fun h32 => ?_) (fun h32 => ?_)
          · refine lv_iinc (k := 0) (v := nI (k + 1)) hx hb dM_left_38 hl rfl (cw_inc _) (by decide) rfl (fun ls hl => ?_)
            have hl : lv_has ls 5 [(4, .int (nI (k + 1))), (3, .int (nI o)), (2, .int (nI (cw_lft (its f) (ns f) (wss f) o + cw_lft1 (its f) (ns f) o k))), (0, .ref hm), (1, .int (nI f))] := hl
            refine lv_goto (tgt := 13) hx hb dM_left_41 (by decide) ?_
            exact ih13 _ (by omega) (k + 1) ls rfl (cw_lvx (lv_sub (l' := [(4, .int (nI (k + 1))), (3, .int (nI o)), (2, .int (nI (cw_lft (its f) (ns f) (wss f) o + cw_lft1 (its f) (ns f) o k))), (0, .ref hm), (1, .int (nI f))]) hl [0, 1, 2, 3, 4] rfl) (by simp only [cw_lft1]; first | (rw [if_pos ((plR_ge hn e29).mp h32)]; rfl) | (rw [if_neg (fun q => h32 ((plR_ge hn e29).mpr q))]; rfl))) (by omega)
          · refine lv_iinc (k := 2) (v := nI ((cw_lft (its f) (ns f) (wss f) o + cw_lft1 (its f) (ns f) o k) + 1)) hx hb dM_left_35 hl rfl (cw_inc _) (by decide) rfl (fun ls hl => ?_)
            have hl : lv_has ls 5 [(2, .int (nI ((cw_lft (its f) (ns f) (wss f) o + cw_lft1 (its f) (ns f) o k) + 1))), (4, .int (nI k)), (3, .int (nI o)), (0, .ref hm), (1, .int (nI f))] := hl
            refine lv_iinc (k := 1) (v := nI (k + 1)) hx hb dM_left_38 hl rfl (cw_inc _) (by decide) rfl (fun ls hl => ?_)
            have hl : lv_has ls 5 [(4, .int (nI (k + 1))), (2, .int (nI ((cw_lft (its f) (ns f) (wss f) o + cw_lft1 (its f) (ns f) o k) + 1))), (3, .int (nI o)), (0, .ref hm), (1, .int (nI f))] := hl
            refine lv_goto (tgt := 13) hx hb dM_left_41 (by decide) ?_
            exact ih13 _ (by omega) (k + 1) ls rfl (cw_lvx (lv_sub (l' := [(4, .int (nI (k + 1))), (3, .int (nI o)), (2, .int (nI ((cw_lft (its f) (ns f) (wss f) o + cw_lft1 (its f) (ns f) o k) + 1))), (0, .ref hm), (1, .int (nI f))]) hl [0, 2, 1, 3, 4] rfl) (by simp only [cw_lft1]; first | (rw [if_pos ((plR_ge hn e29).mp h32)]; rfl) | (rw [if_neg (fun q => h32 ((plR_ge hn e29).mpr q))]; rfl))) (by omega)

set_option maxHeartbeats 4000000 in
set_option maxRecDepth 100000 in
theorem c_M_holds (l : Launch) (dC : Nat → ClassId) (dI : Nat → Nat → Nat) (cI cZ cJ : ClassId) (hm ml mw mb ms mn : Nat) (er : Int32) (ln wh bi si : Nat → Int32) (nu : Nat → Int64) (ns : Nat → Nat) (its wss : Nat → Nat → Nat) (sbs : Nat → Nat → Bool) (hM : mR ns its wss sbs ln wh bi si) (f o : Nat) (v : Int64) (hf : f < 8) (ho : o < 6) (hw1 : 0 < wss f o) : Met l yM_holds wM_holds { frames := 1, cells := 0, slots := 0, locals := 22 } (ro_Pc (dC, dI) cls3 [(hm, .inr (2, [.int er, .ref ml, .ref mw, .ref mb, .ref ms, .ref mn])), (ml, .inl (cI, 8, .inl ln)), (mw, .inl (cI, 512, .inl wh)), (mb, .inl (cI, 48, .inl bi)), (ms, .inl (cZ, 48, .inl si)), (mn, .inl (cJ, 6, .inr (.inl nu)))] [(cI, .int), (cZ, .boolean), (cJ, .long)] [.ref hm, .int (nI f), .int (nI o), .long v]) (vp_Si (fun r => r = nI (fitB (wss f o) (sbs f o) v).toNat)) 0 0 (fun _ => False) := by
  refine Met.ofW (cc := cM_holds) (maxL := 9) (ret := (some .boolean)) (by decide) rfl ?_
  intro p e s m args below meth c s₁ B hml hv
  obtain ⟨rfl, hP, hK⟩ := hv
  have hx := B.exec
  have hb := B.bytes
  have hr := B.returns
  have hts := atoms_spec (ws := wM_holds) B.pre
  have hw : ∀ w ∈ wA, w.before _ s = true := fun w h => hts w (List.mem_cons_of_mem _ h)
  have hown : s.vm.findClass RM = some m.cls := findClass_of_methodNamed B.named
  have hlocks := B.notSynchronized
  have hl := lv_entry ([.ref hm, .int (nI f), .int (nI o), .long v]) (n := 9) (Nat.le_of_ble_eq_true rfl)
  rw [lg_entry_eq]
  generalize (lg_sl ([.ref hm, .int (nI f), .int (nI o), .long v]) ++ List.replicate (9 - (lg_sl ([.ref hm, .int (nI f), .int (nI o), .long v])).length) Slot.unset).toArray = ls at hl ⊢
  have hl : lv_has ls 9 [(0, .ref hm), (1, .int (nI f)), (2, .int (nI o)), (3, .long v)] := hl
  have hok := (hM f hf).1
  have hn := hok.1
  have hw64 := hok.2.1
  have hit := cw_it hok
  have hwo := hw64 o ho
  have hb2 := bq_lt v (wss f o - 1)
  refine lv_aload_n hx hb dM_holds_0 rfl (lv_at hl 0 rfl) ?_
  refine lv_iload_n hx hb dM_holds_1 rfl (lv_at hl 1 rfl) ?_
  refine lv_iload_n hx hb dM_holds_2 rfl (lv_at hl 2 rfl) ?_
  refine vp_callSi (W.runV (As := [.int (nI f), .int (nI o)]) (rest := []) ⟨hx, hb, hml, hown, hw⟩ (c_M_many l dC dI cI cZ cJ hm ml mw mb ms mn er ln wh bi si nu ns its wss sbs hM f o hf ho) (cwV 2 hw (gV kw_433 kw_435 kw_6 kw_16 kw_436) rfl rfl rfl (by decide +kernel) ⟨Nat.le_of_ble_eq_true rfl, Nat.le_of_ble_eq_true rfl⟩) (ro_preV (q0 := 0) hK hP rfl rfl) rfl rfl hl.1 rfl (lv_room (Nat.le_of_ble_eq_true rfl)) dM_holds_3 ⟨Nat.zero_le _, Nat.zero_le _⟩) (fun v3 e3 => ?_)
  obtain rfl : v3 = nI (wss f o) := e3
  refine lv_istore hx hb dM_holds_6 hl (by decide) rfl (fun ls hl => ?_)
  have hl : lv_has ls 9 [(5, .int (nI (wss f o))), (0, .ref hm), (1, .int (nI f)), (2, .int (nI o)), (3, .long v)] := hl
  refine lv_iload hx hb dM_holds_8 (lv_at hl 0 rfl) ?_
  refine lv_bipush (v := nI 64) hx hb dM_holds_10 (by decide +kernel) ?_
  refine lv_icmp_ne (tgt := 17) hx hb dM_holds_12 (by decide) (fun h12 => ?_) (fun h12 => ?_)
  · rw [nI_eq (by omega) (by omega)] at h12
    refine lv_aload_n hx hb dM_holds_17 rfl (lv_at hl 1 rfl) ?_
    refine va_get (D := (dC, dI)) (ci := 2) (v := .ref ms) (C := RM) (T := TM) (N := 6) hx hb hw inM hown hK hP 0 rfl rfl 4 (by decide) (hw _ kw_390) (fun _ h9 => h9) rfl dM_holds_18 ?_
    refine lv_bipush (v := nI 6) hx hb dM_holds_21 (by decide +kernel) ?_
    refine lv_iload_n hx hb dM_holds_23 rfl (lv_at hl 2 rfl) ?_
    refine lv_imul hx hb dM_holds_24 ?_
    refine lv_topi (fun v24 e24 => ?_)
    obtain rfl : v24 = nI (6 * f) := e24.trans (pk_mul _ _)
    refine lv_iload_n hx hb dM_holds_25 rfl (lv_at hl 3 rfl) ?_
    refine lv_iadd hx hb dM_holds_26 ?_
    refine lv_topi (fun v26 e26 => ?_)
    obtain rfl : v26 = nI (6 * f + o) := e26.trans (nI_add _ _)
    refine va_zald hx hb hK hP 4 1 rfl rfl (vp_in_nI (by omega) (by decide)) dM_holds_27 ?_
    refine lv_topi (fun v27 e27 => ?_)
    rw [nI_clamp (by omega)] at e27
    obtain rfl : v27 = nI (sbs f o).toNat := e27.trans ((hM f hf).2.2.1 o (by omega)).2
    refine lv_istore hx hb dM_holds_28 hl (by decide) rfl (fun ls hl => ?_)
    have hl : lv_has ls 9 [(6, .int (nI (sbs f o).toNat)), (5, .int (nI (wss f o))), (0, .ref hm), (1, .int (nI f)), (2, .int (nI o)), (3, .long v)] := hl
    refine lv_iload hx hb dM_holds_30 (lv_at hl 0 rfl) ?_
    refine lv_if_eq (tgt := 46) hx hb dM_holds_32 (by decide) (fun h32 => ?_) (fun h32 => ?_)
    · rw [b_nat0] at h32
      refine lv_iconst (v := nI 0) hx hb dM_holds_46 (by decide +kernel) ?_
      refine lv_istore hx hb dM_holds_47 hl (by decide) rfl (fun ls hl => ?_)
      have hl : lv_has ls 9 [(7, .int (nI 0)), (6, .int (nI (sbs f o).toNat)), (5, .int (nI (wss f o))), (0, .ref hm), (1, .int (nI f)), (2, .int (nI o)), (3, .long v)] := hl
      refine lv_iload hx hb dM_holds_49 (lv_at hl 2 rfl) ?_
      refine lv_istore hx hb dM_holds_51 hl (by decide) rfl (fun ls hl => ?_)
      have hl : lv_has ls 9 [(8, .int (nI (wss f o))), (7, .int (nI 0)), (6, .int (nI (sbs f o).toNat)), (5, .int (nI (wss f o))), (0, .ref hm), (1, .int (nI f)), (2, .int (nI o)), (3, .long v)] := hl
      refine (?_ : ∀ (kk : Nat) (k : Nat) (ls : Array Slot), kk = 64 - k → lv_has ls 9 [(8, .int (nI k)), (7, .int (nI 0)), (6, .int (nI (sbs f o).toNat)), (5, .int (nI (wss f o))), (0, .ref hm), (1, .int (nI f)), (2, .int (nI o)), (3, .long v)] → (k ≤ 64) → (wss f o ≤ k) → (∀ q, wss f o ≤ q → q < k → bq v q = if sbs f o = true then bq v (wss f o - 1) else 0) → W p l e _ s m _ below meth c _ _ _ _ _ (F0 m 53 ls [])) _ (wss f o) ls rfl (lv_sub hl [0, 1, 2, 3, 4, 5, 6, 7] rfl) (by omega) (by omega) (fun q _ _ => by omega)
      intro kk
      induction kk using Nat.strongRecOn with
      | ind kk53 ih53 =>
        intro k ls hkk53 hl hk hk0 hq
        refine lv_iload hx hb dM_holds_53 (lv_at hl 0 rfl) ?_
        refine lv_bipush (v := nI 64) hx hb dM_holds_55 (by decide +kernel) ?_
        refine lv_icmp_ge (tgt := 79) hx hb dM_holds_57 (by decide) (fun h57 => ?_) (fun h57 => ?_)
        · rw [nI_leI (by omega) (by omega)] at h57
          refine lv_iconst (v := nI 1) hx hb dM_holds_79 (by decide +kernel) ?_
          exact W.zret (v := nI 1) hx hb hr (by first | exact b_nar _ | decide +kernel) (fun t ht hW => ⟨_, rfl, (by first | (rw [h12, fitB_64]; rfl) | (rw [(fitB_iff _ _ _).mpr (fun q h1 h2 => hq q h1 (by omega))]; rfl) | (rw [b_ff (b := fitB (wss f o) (sbs f o) v) (fun q => h68 (by have := (fitB_iff _ _ _).mp q k (by omega) (by omega); rw [h32] at this; exact this))]; rfl)), ht⟩) (fun q h => nomatch h) dM_holds_80
        · rw [nI_leI (by omega) (by omega)] at h57
          have hb1 := bq_lt v k
          refine lv_lload_n hx hb dM_holds_60 rfl (lv_at hl 7 rfl) ?_
          refine lv_iload hx hb dM_holds_61 (lv_at hl 0 rfl) ?_
          refine vp_callSi (W.runS (As := [.long v, .int (nI k)]) (rest := []) ⟨hx, hb, hml, hown, hw⟩ (c_M_bit l v k (by omega)) (cwS 2 hw (gS kw_441 kw_442 kw_16 kw_443) rfl rfl rfl (by decide +kernel) ⟨Nat.le_of_ble_eq_true rfl, Nat.le_of_ble_eq_true rfl⟩) preEq rfl rfl hl.1 rfl (lv_room (Nat.le_of_ble_eq_true rfl)) dM_holds_63 ⟨Nat.zero_le _, Nat.zero_le _⟩) (fun v63 e63 => ?_)
          obtain rfl : v63 = nI (bq v k) := e63
          refine lv_iload hx hb dM_holds_66 (lv_at hl 1 rfl) ?_
          refine lv_icmp_eq (tgt := 73) hx hb dM_holds_68 (by decide) (fun h68 => ?_) (fun h68 => ?_)
          · rw [nI_eq (by omega) (by omega)] at h68
            refine lv_iinc (k := 0) (v := nI (k + 1)) hx hb dM_holds_73 hl rfl (cw_inc _) (by decide) rfl (fun ls hl => ?_)
            have hl : lv_has ls 9 [(8, .int (nI (k + 1))), (7, .int (nI 0)), (6, .int (nI (sbs f o).toNat)), (5, .int (nI (wss f o))), (0, .ref hm), (1, .int (nI f)), (2, .int (nI o)), (3, .long v)] := hl
            refine lv_goto (tgt := 53) hx hb dM_holds_76 (by decide) ?_
            exact ih53 _ (by omega) (k + 1) ls rfl (lv_sub (l' := [(8, .int (nI (k + 1))), (7, .int (nI 0)), (6, .int (nI (sbs f o).toNat)), (5, .int (nI (wss f o))), (0, .ref hm), (1, .int (nI f)), (2, .int (nI o)), (3, .long v)]) hl [0, 1, 2, 3, 4, 5, 6, 7] rfl) (by omega) (by omega) (cw_ext hq (by rw [h32]; exact h68))
          · rw [nI_eq (by omega) (by omega)] at h68
            refine lv_iconst (v := nI 0) hx hb dM_holds_71 (by decide +kernel) ?_
            exact W.zret (v := nI 0) hx hb hr (by first | exact b_nar _ | decide +kernel) (fun t ht hW => ⟨_, rfl, (by first | (rw [h12, fitB_64]; rfl) | (rw [(fitB_iff _ _ _).mpr (fun q h1 h2 => hq q h1 (by omega))]; rfl) | (rw [b_ff (b := fitB (wss f o) (sbs f o) v) (fun q => h68 (by have := (fitB_iff _ _ _).mp q k (by omega) (by omega); rw [h32] at this; exact this))]; rfl)), ht⟩) (fun q h => nomatch h) dM_holds_72
    · have h32 := b_nf h32
      refine lv_lload_n hx hb dM_holds_35 rfl (lv_at hl 5 rfl) ?_
      refine lv_iload hx hb dM_holds_36 (lv_at hl 1 rfl) ?_
      refine lv_iconst (v := nI 1) hx hb dM_holds_38 (by decide +kernel) ?_
      refine lv_isub hx hb dM_holds_39 ?_
      refine lv_topi (fun v39 e39 => ?_)
      obtain rfl : v39 = nI (wss f o - 1) := e39.trans (pk_sub (by omega))
      refine vp_callSi (W.runS (As := [.long v, .int (nI (wss f o - 1))]) (rest := []) ⟨hx, hb, hml, hown, hw⟩ (c_M_bit l v (wss f o - 1) (by omega)) (cwS 2 hw (gS kw_441 kw_442 kw_16 kw_443) rfl rfl rfl (by decide +kernel) ⟨Nat.le_of_ble_eq_true rfl, Nat.le_of_ble_eq_true rfl⟩) preEq rfl rfl hl.1 rfl (lv_room (Nat.le_of_ble_eq_true rfl)) dM_holds_40 ⟨Nat.zero_le _, Nat.zero_le _⟩) (fun v40 e40 => ?_)
      obtain rfl : v40 = nI (bq v (wss f o - 1)) := e40
      refine lv_goto (tgt := 47) hx hb dM_holds_43 (by decide) ?_
      refine lv_istore hx hb dM_holds_47 hl (by decide) rfl (fun ls hl => ?_)
      have hl : lv_has ls 9 [(7, .int (nI (bq v (wss f o - 1)))), (6, .int (nI (sbs f o).toNat)), (5, .int (nI (wss f o))), (0, .ref hm), (1, .int (nI f)), (2, .int (nI o)), (3, .long v)] := hl
      refine lv_iload hx hb dM_holds_49 (lv_at hl 2 rfl) ?_
      refine lv_istore hx hb dM_holds_51 hl (by decide) rfl (fun ls hl => ?_)
      have hl : lv_has ls 9 [(8, .int (nI (wss f o))), (7, .int (nI (bq v (wss f o - 1)))), (6, .int (nI (sbs f o).toNat)), (5, .int (nI (wss f o))), (0, .ref hm), (1, .int (nI f)), (2, .int (nI o)), (3, .long v)] := hl
      refine (?_ : ∀ (kk : Nat) (k : Nat) (ls : Array Slot), kk = 64 - k → lv_has ls 9 [(8, .int (nI k)), (7, .int (nI (bq v (wss f o - 1)))), (6, .int (nI (sbs f o).toNat)), (5, .int (nI (wss f o))), (0, .ref hm), (1, .int (nI f)), (2, .int (nI o)), (3, .long v)] → (k ≤ 64) → (wss f o ≤ k) → (∀ q, wss f o ≤ q → q < k → bq v q = if sbs f o = true then bq v (wss f o - 1) else 0) → W p l e _ s m _ below meth c _ _ _ _ _ (F0 m 53 ls [])) _ (wss f o) ls rfl (lv_sub hl [0, 1, 2, 3, 4, 5, 6, 7] rfl) (by omega) (by omega) (fun q _ _ => by omega)
      intro kk
      induction kk using Nat.strongRecOn with
      | ind kk53 ih53 =>
        intro k ls hkk53 hl hk hk0 hq
        refine lv_iload hx hb dM_holds_53 (lv_at hl 0 rfl) ?_
        refine lv_bipush (v := nI 64) hx hb dM_holds_55 (by decide +kernel) ?_
        refine lv_icmp_ge (tgt := 79) hx hb dM_holds_57 (by decide) (fun h57 => ?_) (fun h57 => ?_)
        · rw [nI_leI (by omega) (by omega)] at h57
          refine lv_iconst (v := nI 1) hx hb dM_holds_79 (by decide +kernel) ?_
          exact W.zret (v := nI 1) hx hb hr (by first | exact b_nar _ | decide +kernel) (fun t ht hW => ⟨_, rfl, (by first | (rw [h12, fitB_64]; rfl) | (rw [(fitB_iff _ _ _).mpr (fun q h1 h2 => hq q h1 (by omega))]; rfl) | (rw [b_ff (b := fitB (wss f o) (sbs f o) v) (fun q => h68 (by have := (fitB_iff _ _ _).mp q k (by omega) (by omega); rw [h32] at this; exact this))]; rfl)), ht⟩) (fun q h => nomatch h) dM_holds_80
        · rw [nI_leI (by omega) (by omega)] at h57
          have hb1 := bq_lt v k
          refine lv_lload_n hx hb dM_holds_60 rfl (lv_at hl 7 rfl) ?_
          refine lv_iload hx hb dM_holds_61 (lv_at hl 0 rfl) ?_
          refine vp_callSi (W.runS (As := [.long v, .int (nI k)]) (rest := []) ⟨hx, hb, hml, hown, hw⟩ (c_M_bit l v k (by omega)) (cwS 2 hw (gS kw_441 kw_442 kw_16 kw_443) rfl rfl rfl (by decide +kernel) ⟨Nat.le_of_ble_eq_true rfl, Nat.le_of_ble_eq_true rfl⟩) preEq rfl rfl hl.1 rfl (lv_room (Nat.le_of_ble_eq_true rfl)) dM_holds_63 ⟨Nat.zero_le _, Nat.zero_le _⟩) (fun v63 e63 => ?_)
          obtain rfl : v63 = nI (bq v k) := e63
          refine lv_iload hx hb dM_holds_66 (lv_at hl 1 rfl) ?_
          refine lv_icmp_eq (tgt := 73) hx hb dM_holds_68 (by decide) (fun h68 => ?_) (fun h68 => ?_)
          · rw [nI_eq (by omega) (by omega)] at h68
            refine lv_iinc (k := 0) (v := nI (k + 1)) hx hb dM_holds_73 hl rfl (cw_inc _) (by decide) rfl (fun ls hl => ?_)
            have hl : lv_has ls 9 [(8, .int (nI (k + 1))), (7, .int (nI (bq v (wss f o - 1)))), (6, .int (nI (sbs f o).toNat)), (5, .int (nI (wss f o))), (0, .ref hm), (1, .int (nI f)), (2, .int (nI o)), (3, .long v)] := hl
            refine lv_goto (tgt := 53) hx hb dM_holds_76 (by decide) ?_
            exact ih53 _ (by omega) (k + 1) ls rfl (lv_sub (l' := [(8, .int (nI (k + 1))), (7, .int (nI (bq v (wss f o - 1)))), (6, .int (nI (sbs f o).toNat)), (5, .int (nI (wss f o))), (0, .ref hm), (1, .int (nI f)), (2, .int (nI o)), (3, .long v)]) hl [0, 1, 2, 3, 4, 5, 6, 7] rfl) (by omega) (by omega) (cw_ext hq (by rw [h32]; exact h68))
          · rw [nI_eq (by omega) (by omega)] at h68
            refine lv_iconst (v := nI 0) hx hb dM_holds_71 (by decide +kernel) ?_
            exact W.zret (v := nI 0) hx hb hr (by first | exact b_nar _ | decide +kernel) (fun t ht hW => ⟨_, rfl, (by first | (rw [h12, fitB_64]; rfl) | (rw [(fitB_iff _ _ _).mpr (fun q h1 h2 => hq q h1 (by omega))]; rfl) | (rw [b_ff (b := fitB (wss f o) (sbs f o) v) (fun q => h68 (by have := (fitB_iff _ _ _).mp q k (by omega) (by omega); rw [h32] at this; exact this))]; rfl)), ht⟩) (fun q h => nomatch h) dM_holds_72
  · rw [nI_eq (by omega) (by omega)] at h12
    refine lv_iconst (v := nI 1) hx hb dM_holds_15 (by decide +kernel) ?_
    exact W.zret (v := nI 1) hx hb hr (by first | exact b_nar _ | decide +kernel) (fun t ht hW => ⟨_, rfl, (by first | (rw [h12, fitB_64]; rfl) | (rw [(fitB_iff _ _ _).mpr (fun q h1 h2 => hq q h1 (by omega))]; rfl) | (rw [b_ff (b := fitB (wss f o) (sbs f o) v) (fun q => h68 (by have := (fitB_iff _ _ _).mp q k (by omega) (by omega); rw [h32] at this; exact this))]; rfl)), ht⟩) (fun q h => nomatch h) dM_holds_16

set_option maxHeartbeats 4000000 in
set_option maxRecDepth 100000 in
theorem c_M_isOf (l : Launch) (dC : Nat → ClassId) (dI : Nat → Nat → Nat) (cI cZ cJ : ClassId) (hm ml mw mb ms mn : Nat) (er : Int32) (ln wh bi si : Nat → Int32) (nu : Nat → Int64) (ns : Nat → Nat) (its wss : Nat → Nat → Nat) (sbs : Nat → Nat → Bool) (hM : mR ns its wss sbs ln wh bi si) (f : Nat) (wo : Int64) (hf : f < 8) : Met l yM_isOf wM_isOf { frames := 1, cells := 0, slots := 0, locals := 22 } (ro_Pc (dC, dI) cls3 [(hm, .inr (2, [.int er, .ref ml, .ref mw, .ref mb, .ref ms, .ref mn])), (ml, .inl (cI, 8, .inl ln)), (mw, .inl (cI, 512, .inl wh)), (mb, .inl (cI, 48, .inl bi)), (ms, .inl (cZ, 48, .inl si)), (mn, .inl (cJ, 6, .inr (.inl nu)))] [(cI, .int), (cZ, .boolean), (cJ, .long)] [.ref hm, .int (nI f), .long wo]) (vp_Si (fun r => r = nI (allb (fun j => alw (its f) (ns f) j (bq wo j)) 64).toNat)) 0 0 (fun _ => False) := by
  refine Met.ofW (cc := cM_isOf) (maxL := 5) (ret := (some .boolean)) (by decide) rfl ?_
  intro p e s m args below meth c s₁ B hml hv
  obtain ⟨rfl, hP, hK⟩ := hv
  have hx := B.exec
  have hb := B.bytes
  have hr := B.returns
  have hts := atoms_spec (ws := wM_isOf) B.pre
  have hw : ∀ w ∈ wA, w.before _ s = true := fun w h => hts w (List.mem_cons_of_mem _ h)
  have hown : s.vm.findClass RM = some m.cls := findClass_of_methodNamed B.named
  have hlocks := B.notSynchronized
  have hl := lv_entry ([.ref hm, .int (nI f), .long wo]) (n := 5) (Nat.le_of_ble_eq_true rfl)
  rw [lg_entry_eq]
  generalize (lg_sl ([.ref hm, .int (nI f), .long wo]) ++ List.replicate (5 - (lg_sl ([.ref hm, .int (nI f), .long wo])).length) Slot.unset).toArray = ls at hl ⊢
  have hl : lv_has ls 5 [(0, .ref hm), (1, .int (nI f)), (2, .long wo)] := hl
  have hok := (hM f hf).1
  have hn := hok.1
  have hw64 := hok.2.1
  have hit := cw_it hok
  refine lv_iconst (v := nI 0) hx hb dM_isOf_0 (by decide +kernel) ?_
  refine lv_istore hx hb dM_isOf_1 hl (by decide) rfl (fun ls hl => ?_)
  have hl : lv_has ls 5 [(4, .int (nI 0)), (0, .ref hm), (1, .int (nI f)), (2, .long wo)] := hl
  refine (?_ : ∀ (kk : Nat) (j : Nat) (ls : Array Slot), kk = 64 - j → lv_has ls 5 [(4, .int (nI j)), (0, .ref hm), (1, .int (nI f)), (2, .long wo)] → (j ≤ 64) → (allb (fun j => alw (its f) (ns f) j (bq wo j)) j = true) → W p l e _ s m _ below meth c _ _ _ _ _ (F0 m 3 ls [])) _ 0 ls rfl (lv_sub hl [0, 1, 2, 3] rfl) (by omega) rfl
  intro kk
  induction kk using Nat.strongRecOn with
  | ind kk3 ih3 =>
    intro j ls hkk3 hl hj ha
    refine lv_iload hx hb dM_isOf_3 (lv_at hl 0 rfl) ?_
    refine lv_bipush (v := nI 64) hx hb dM_isOf_5 (by decide +kernel) ?_
    refine lv_icmp_ge (tgt := 68) hx hb dM_isOf_7 (by decide) (fun h7 => ?_) (fun h7 => ?_)
    · rw [nI_leI (by omega) (by omega)] at h7
      refine lv_iconst (v := nI 1) hx hb dM_isOf_68 (by decide +kernel) ?_
      exact W.zret (v := nI 1) hx hb hr (by first | exact b_nar _ | decide +kernel) (fun t ht hW => ⟨_, rfl, (by first | (rw [show j = 64 by omega] at ha; rw [ha]; rfl) | (rw [allb_f (fun j => alw (its f) (ns f) j (bq wo j)) 64 (k := j) (by omega) (alwF_b h18 h27)]; rfl) | (rw [allb_f (fun j => alw (its f) (ns f) j (bq wo j)) 64 (k := j) (by omega) (alwF_e h18 (by omega) h57)]; rfl)), ht⟩) (fun q h => nomatch h) dM_isOf_69
    · rw [nI_leI (by omega) (by omega)] at h7
      have hb1 := bq_lt wo j
      refine lv_iload hx hb dM_isOf_10 (lv_at hl 0 rfl) ?_
      refine lv_aload_n hx hb dM_isOf_12 rfl (lv_at hl 1 rfl) ?_
      refine va_get (D := (dC, dI)) (ci := 2) (v := .ref ml) (C := RM) (T := TM) (N := 6) hx hb hw inM hown hK hP 0 rfl rfl 1 (by decide) (hw _ kw_387) (fun _ h9 => h9) rfl dM_isOf_13 ?_
      refine lv_iload_n hx hb dM_isOf_16 rfl (lv_at hl 2 rfl) ?_
      refine va_iald hx hb hK hP 1 0 rfl rfl (vp_in_nI (by omega) (by decide)) dM_isOf_17 ?_
      refine lv_topi (fun v17 e17 => ?_)
      rw [nI_clamp (by omega)] at e17
      obtain rfl : v17 = nI (ns f) := e17.trans (hM f hf).2.1
      refine lv_icmp_lt (tgt := 33) hx hb dM_isOf_18 (by decide) (fun h18 => ?_) (fun h18 => ?_)
      · rw [nI_ltI (by omega) (by omega)] at h18
        have hij := hit (ns f - 1 - j) (by omega)
        refine lv_aload_n hx hb dM_isOf_33 rfl (lv_at hl 1 rfl) ?_
        refine lv_iload_n hx hb dM_isOf_34 rfl (lv_at hl 2 rfl) ?_
        refine lv_iload hx hb dM_isOf_35 (lv_at hl 0 rfl) ?_
        refine vp_callSi (W.runV (As := [.int (nI f), .int (nI j)]) (rest := []) ⟨hx, hb, hml, hown, hw⟩ (c_M_at l dC dI cI cZ cJ hm ml mw mb ms mn er ln wh bi si nu ns its wss sbs hM f j hf h18) (cwV 2 hw (gV kw_480 kw_482 kw_11 kw_16 kw_483) rfl rfl rfl (by decide +kernel) ⟨Nat.le_of_ble_eq_true rfl, Nat.le_of_ble_eq_true rfl⟩) (ro_preV (q0 := 0) hK hP rfl rfl) rfl rfl hl.1 rfl (lv_room (Nat.le_of_ble_eq_true rfl)) dM_isOf_37 ⟨Nat.zero_le _, Nat.zero_le _⟩) (fun v37 e37 => ?_)
        obtain rfl : v37 = nI (its f (ns f - 1 - j)) := e37
        refine lv_iconst (v := nI 2) hx hb dM_isOf_40 (by decide +kernel) ?_
        refine lv_icmp_ge (tgt := 62) hx hb dM_isOf_41 (by decide) (fun h41 => ?_) (fun h41 => ?_)
        · rw [nI_leI (by omega) (by omega)] at h41
          refine lv_iinc (k := 0) (v := nI (j + 1)) hx hb dM_isOf_62 hl rfl (cw_inc _) (by decide) rfl (fun ls hl => ?_)
          have hl : lv_has ls 5 [(4, .int (nI (j + 1))), (0, .ref hm), (1, .int (nI f)), (2, .long wo)] := hl
          refine lv_goto (tgt := 3) hx hb dM_isOf_65 (by decide) ?_
          exact ih3 _ (by omega) (j + 1) ls rfl (lv_sub (l' := [(4, .int (nI (j + 1))), (0, .ref hm), (1, .int (nI f)), (2, .long wo)]) hl [0, 1, 2, 3] rfl) (by omega) (by simp only [allb, ha, Bool.true_and]; first | exact alwT_a h18 h27 | exact alwT_d h18 h57 | exact alwT_c h18 (by omega))
        · rw [nI_leI (by omega) (by omega)] at h41
          refine lv_aload_n hx hb dM_isOf_44 rfl (lv_at hl 1 rfl) ?_
          refine lv_iload_n hx hb dM_isOf_45 rfl (lv_at hl 2 rfl) ?_
          refine lv_iload hx hb dM_isOf_46 (lv_at hl 0 rfl) ?_
          refine vp_callSi (W.runV (As := [.int (nI f), .int (nI j)]) (rest := []) ⟨hx, hb, hml, hown, hw⟩ (c_M_at l dC dI cI cZ cJ hm ml mw mb ms mn er ln wh bi si nu ns its wss sbs hM f j hf h18) (cwV 2 hw (gV kw_480 kw_482 kw_11 kw_16 kw_483) rfl rfl rfl (by decide +kernel) ⟨Nat.le_of_ble_eq_true rfl, Nat.le_of_ble_eq_true rfl⟩) (ro_preV (q0 := 0) hK hP rfl rfl) rfl rfl hl.1 rfl (lv_room (Nat.le_of_ble_eq_true rfl)) dM_isOf_48 ⟨Nat.zero_le _, Nat.zero_le _⟩) (fun v48 e48 => ?_)
          obtain rfl : v48 = nI (its f (ns f - 1 - j)) := e48
          refine lv_lload_n hx hb dM_isOf_51 rfl (lv_at hl 3 rfl) ?_
          refine lv_iload hx hb dM_isOf_52 (lv_at hl 0 rfl) ?_
          refine vp_callSi (W.runS (As := [.long wo, .int (nI j)]) (rest := [.int (nI (its f (ns f - 1 - j)))]) ⟨hx, hb, hml, hown, hw⟩ (c_M_bit l wo j (by omega)) (cwS 2 hw (gS kw_441 kw_442 kw_16 kw_443) rfl rfl rfl (by decide +kernel) ⟨Nat.le_of_ble_eq_true rfl, Nat.le_of_ble_eq_true rfl⟩) preEq rfl rfl hl.1 rfl (lv_room (Nat.le_of_ble_eq_true rfl)) dM_isOf_54 ⟨Nat.zero_le _, Nat.zero_le _⟩) (fun v54 e54 => ?_)
          obtain rfl : v54 = nI (bq wo j) := e54
          refine lv_icmp_eq (tgt := 62) hx hb dM_isOf_57 (by decide) (fun h57 => ?_) (fun h57 => ?_)
          · rw [nI_eq (by omega) (by omega)] at h57
            refine lv_iinc (k := 0) (v := nI (j + 1)) hx hb dM_isOf_62 hl rfl (cw_inc _) (by decide) rfl (fun ls hl => ?_)
            have hl : lv_has ls 5 [(4, .int (nI (j + 1))), (0, .ref hm), (1, .int (nI f)), (2, .long wo)] := hl
            refine lv_goto (tgt := 3) hx hb dM_isOf_65 (by decide) ?_
            exact ih3 _ (by omega) (j + 1) ls rfl (lv_sub (l' := [(4, .int (nI (j + 1))), (0, .ref hm), (1, .int (nI f)), (2, .long wo)]) hl [0, 1, 2, 3] rfl) (by omega) (by simp only [allb, ha, Bool.true_and]; first | exact alwT_a h18 h27 | exact alwT_d h18 h57 | exact alwT_c h18 (by omega))
          · rw [nI_eq (by omega) (by omega)] at h57
            refine lv_iconst (v := nI 0) hx hb dM_isOf_60 (by decide +kernel) ?_
            exact W.zret (v := nI 0) hx hb hr (by first | exact b_nar _ | decide +kernel) (fun t ht hW => ⟨_, rfl, (by first | (rw [show j = 64 by omega] at ha; rw [ha]; rfl) | (rw [allb_f (fun j => alw (its f) (ns f) j (bq wo j)) 64 (k := j) (by omega) (alwF_b h18 h27)]; rfl) | (rw [allb_f (fun j => alw (its f) (ns f) j (bq wo j)) 64 (k := j) (by omega) (alwF_e h18 (by omega) h57)]; rfl)), ht⟩) (fun q h => nomatch h) dM_isOf_61
      · rw [nI_ltI (by omega) (by omega)] at h18
        refine lv_lload_n hx hb dM_isOf_21 rfl (lv_at hl 3 rfl) ?_
        refine lv_iload hx hb dM_isOf_22 (lv_at hl 0 rfl) ?_
        refine vp_callSi (W.runS (As := [.long wo, .int (nI j)]) (rest := []) ⟨hx, hb, hml, hown, hw⟩ (c_M_bit l wo j (by omega)) (cwS 2 hw (gS kw_441 kw_442 kw_16 kw_443) rfl rfl rfl (by decide +kernel) ⟨Nat.le_of_ble_eq_true rfl, Nat.le_of_ble_eq_true rfl⟩) preEq rfl rfl hl.1 rfl (lv_room (Nat.le_of_ble_eq_true rfl)) dM_isOf_24 ⟨Nat.zero_le _, Nat.zero_le _⟩) (fun v24 e24 => ?_)
        obtain rfl : v24 = nI (bq wo j) := e24
        refine lv_if_eq (tgt := 62) hx hb dM_isOf_27 (by decide) (fun h27 => ?_) (fun h27 => ?_)
        · rw [nI_eq0 (by omega)] at h27
          refine lv_iinc (k := 0) (v := nI (j + 1)) hx hb dM_isOf_62 hl rfl (cw_inc _) (by decide) rfl (fun ls hl => ?_)
          have hl : lv_has ls 5 [(4, .int (nI (j + 1))), (0, .ref hm), (1, .int (nI f)), (2, .long wo)] := hl
          refine lv_goto (tgt := 3) hx hb dM_isOf_65 (by decide) ?_
          exact ih3 _ (by omega) (j + 1) ls rfl (lv_sub (l' := [(4, .int (nI (j + 1))), (0, .ref hm), (1, .int (nI f)), (2, .long wo)]) hl [0, 1, 2, 3] rfl) (by omega) (by simp only [allb, ha, Bool.true_and]; first | exact alwT_a h18 h27 | exact alwT_d h18 h57 | exact alwT_c h18 (by omega))
        · rw [nI_eq0 (by omega)] at h27
          refine lv_goto (tgt := 60) hx hb dM_isOf_30 (by decide) ?_
          refine lv_iconst (v := nI 0) hx hb dM_isOf_60 (by decide +kernel) ?_
          exact W.zret (v := nI 0) hx hb hr (by first | exact b_nar _ | decide +kernel) (fun t ht hW => ⟨_, rfl, (by first | (rw [show j = 64 by omega] at ha; rw [ha]; rfl) | (rw [allb_f (fun j => alw (its f) (ns f) j (bq wo j)) 64 (k := j) (by omega) (alwF_b h18 h27)]; rfl) | (rw [allb_f (fun j => alw (its f) (ns f) j (bq wo j)) 64 (k := j) (by omega) (alwF_e h18 (by omega) h57)]; rfl)), ht⟩) (fun q h => nomatch h) dM_isOf_61
