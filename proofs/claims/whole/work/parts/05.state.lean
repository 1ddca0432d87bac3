/-! the class's Form by numbers -/
def fR (n : Nat) (it w : Nat → Nat) (sb : Nat → Bool) (wd sg ow co : Nat → Int32) : Prop :=
  cw_ok it n w ∧ (∀ o, o < 6 → wd o = nI (w o)) ∧ (∀ o, o < 6 → sg o = nI (sb o).toNat) ∧ ∀ j, j < n → ow j = cw_O (it j) ∧ co j = cw_C (it j)
theorem cw_it {it : Nat → Nat} {n : Nat} {w : Nat → Nat} (h : cw_ok it n w) : ∀ j, j < n → it j < 386 := by
  obtain ⟨h1, h2, h3, -⟩ := h
  intro j hj
  rcases h3 j hj with h | ⟨o, k, ho, hk, e⟩
  · omega
  · have := h2 o ho
    omega
theorem cw_O_m1 {x : Nat} (h : x < 386) : cw_O x = (-1) ↔ x < 2 := by
  unfold cw_O
  by_cases hx : x < 2
  · simp [hx]
  · rw [if_neg hx]
    constructor
    · intro e
      have h1 := congrArg Int32.toInt e
      rw [nI_toInt (by omega)] at h1
      have h2 : ((-1 : Int32)).toInt = -1 := by decide
      omega
    · intro e; exact absurd e hx
theorem cw_O_hi {x : Nat} (h : ¬ x < 2) : cw_O x = nI ((x - 2) / 64) := by unfold cw_O; rw [if_neg h]
theorem cw_C_hi {x : Nat} (h : ¬ x < 2) : cw_C x = nI ((x - 2) % 64) := by unfold cw_C; rw [if_neg h]
theorem cw_C_lo {x : Nat} (h : x < 2) : cw_C x = nI x := by unfold cw_C; rw [if_pos h]
theorem cw_O_eq {x o : Nat} (h : x < 386) (ho : o < 6) : cw_O x = nI o ↔ ¬ x < 2 ∧ (x - 2) / 64 = o := by
  by_cases hx : x < 2
  · have h1 : cw_O x = -1 := (cw_O_m1 h).mpr hx
    rw [h1]
    constructor
    · intro e
      have h2 := congrArg Int32.toInt e
      rw [nI_toInt (by omega)] at h2
      have h3 : ((-1 : Int32)).toInt = -1 := by decide
      omega
    · intro e; exact absurd hx e.1
  · rw [cw_O_hi hx, nI_eq (by omega) (by omega)]
    simp [hx]
def hop (w : Nat → Nat) (x : Int32) : Bool := decide (0 ≤ x.toInt ∧ x.toInt < 6) && decide (0 < w x.toInt.toNat)
theorem hop_neg {w : Nat → Nat} {x : Int32} (h : x < 0) : nI 0 = nI (hop w x).toNat := by
  have h1 : x.toInt < 0 := by simpa using Int32.lt_iff_toInt_lt.mp h
  have : hop w x = false := by simp only [hop, show ¬ (0 ≤ x.toInt ∧ x.toInt < 6) by omega, decide_false, Bool.false_and]
  rw [this]; rfl
theorem hop_big {w : Nat → Nat} {x : Int32} (h : nI 6 ≤ x) : nI 0 = nI (hop w x).toNat := by
  have h1 : (6 : Int) ≤ x.toInt := by simpa [nI_toInt] using Int32.le_iff_toInt_le.mp h
  have : hop w x = false := by simp only [hop, show ¬ (0 ≤ x.toInt ∧ x.toInt < 6) by omega, decide_false, Bool.false_and]
  rw [this]; rfl
theorem hop_nI (w : Nat → Nat) {o : Nat} (h : o < 6) : hop w (nI o) = decide (0 < w o) := by
  have h1 : (nI o).toInt = (o : Int) := nI_toInt (by omega)
  have h2 : (0 ≤ (nI o).toInt ∧ (nI o).toInt < 6) := by omega
  have h3 : (nI o).toInt.toNat = o := by omega
  unfold hop
  rw [decide_eq_true h2, h3, Bool.true_and]
theorem hop_iff (w : Nat → Nat) (x : Int32) : hop w x = true ↔ ∃ o, o < 6 ∧ x = nI o ∧ 0 < w o := by
  constructor
  · intro h
    simp only [hop, Bool.and_eq_true, decide_eq_true_eq] at h
    obtain ⟨⟨h1, h2⟩, h3⟩ := h
    refine ⟨x.toInt.toNat, by omega, ?_, h3⟩
    apply Int32.toInt_inj.mp
    rw [nI_toInt (by omega)]
    omega
  · rintro ⟨o, ho, rfl, hw⟩
    rw [hop_nI w ho]; simpa using hw
theorem nI_le0 {k : Nat} (h : k < 2 ^ 31) : nI k ≤ 0 ↔ k = 0 := by
  have := nI_leI (a := k) (b := 0) h (by decide)
  rw [nI_0] at this
  rw [this]; omega
theorem nI_eq0 {k : Nat} (h : k < 2 ^ 31) : nI k = 0 ↔ k = 0 := by
  have := nI_eq (a := k) (b := 0) h (by decide)
  rw [nI_0] at this
  exact this
theorem nI_lt0 {k : Nat} (h : k < 2 ^ 31) : ¬ nI k < 0 := nI_pos h
theorem b_nat0 (b : Bool) : nI b.toNat = 0 ↔ b = false := by cases b <;> decide +kernel
theorem b_nar (b : Bool) : narrow .boolean (.int (nI b.toNat)) = .int (nI b.toNat) := by cases b <;> decide +kernel
theorem nI_cases {k : Nat} (h : k < 2 ^ 31) : (nI k = 0 ∧ k = 0) ∨ (¬ nI k = 0 ∧ 0 < k) := by
  by_cases e : k = 0
  · exact Or.inl ⟨(nI_eq0 h).mpr e, e⟩
  · exact Or.inr ⟨fun q => e ((nI_eq0 h).mp q), by omega⟩
theorem b_nf {b : Bool} (h : ¬ nI b.toNat = 0) : b = true := by
  cases b with
  | true => rfl
  | false => exact absurd ((b_nat0 false).mpr rfl) h
/-- whether the bit b may stand at place j, counted from the lowest -/
def alw (it : Nat → Nat) (n j b : Nat) : Bool := if n ≤ j then b == 0 else (decide (2 ≤ it (n - 1 - j)) || it (n - 1 - j) == b)
theorem alw_a {it : Nat → Nat} {n j b : Nat} (h : ¬ j < n) (h2 : b = 0) : nI 1 = nI (alw it n j b).toNat := by
  unfold alw; rw [if_pos (by omega), h2]; rfl
theorem alw_b {it : Nat → Nat} {n j b : Nat} (h : ¬ j < n) (h2 : ¬ b = 0) : nI 0 = nI (alw it n j b).toNat := by
  unfold alw; rw [if_pos (by omega), beq_eq_false_iff_ne.mpr h2]; rfl
theorem alw_c {it : Nat → Nat} {n j b : Nat} (h : j < n) (h2 : ¬ it (n - 1 - j) < 2) : nI 1 = nI (alw it n j b).toNat := by
  unfold alw; rw [if_neg (by omega), decide_eq_true (by omega)]; rfl
theorem alw_d {it : Nat → Nat} {n j b : Nat} (h : j < n) (h2 : it (n - 1 - j) < 2) (h3 : it (n - 1 - j) = b) : nI 1 = nI (alw it n j b).toNat := by
  unfold alw; rw [if_neg (by omega), h3, beq_self_eq_true, Bool.or_true]; rfl
theorem alw_e {it : Nat → Nat} {n j b : Nat} (h : j < n) (h2 : it (n - 1 - j) < 2) (h3 : ¬ it (n - 1 - j) = b) : nI 0 = nI (alw it n j b).toNat := by
  unfold alw; rw [if_neg (by omega), decide_eq_false (by omega), beq_eq_false_iff_ne.mpr h3]; rfl
