theorem wb_tb (n : Nat) : (lN n).toBitVec = BitVec.ofNat 64 n := rfl
theorem wb_inj {a b : Int64} (h : a.toBitVec = b.toBitVec) : a = b := Int64.toBitVec_inj.mp h
theorem wb_tn {n : Nat} (h : n < 2 ^ 64) : (lN n).toBitVec.toNat = n := by rw [wb_tb, BitVec.toNat_ofNat, Nat.mod_eq_of_lt h]
theorem wb_of (x : Int64) : ∃ n, n < 2 ^ 64 ∧ x = lN n := ⟨x.toBitVec.toNat, x.toBitVec.isLt, wb_inj (by rw [wb_tb]; simp)⟩
theorem wb_of32 (x : Int32) : ∃ n, n < 2 ^ 32 ∧ x = nI n := ⟨x.toBitVec.toNat, x.toBitVec.isLt, Int32.toBitVec_inj.mp (by show _ = BitVec.ofNat 32 _; simp)⟩
theorem wb_c : ∀ k, k < 64 → ((nI k).toInt64 &&& 63) = lN k := by decide +kernel
theorem wb_cu : ∀ k, k < 64 → ((nI k).toInt64.toUInt64 &&& Int64.toUInt64 63) = UInt64.ofNat k := by decide +kernel
theorem wb_sm : ∀ k, k < 64 → (BitVec.ofNat 64 k).smod 64 = BitVec.ofNat 64 k := by decide +kernel
theorem wb_pw {a b : Nat} (h : a ≤ b) : 2 ^ b = 2 ^ a * 2 ^ (b - a) := by rw [← Nat.pow_add]; congr 1; omega
theorem wb_lt2 {a b : Nat} (h : a < b) : 2 ^ a < 2 ^ b := Nat.pow_lt_pow_right (by decide) h
theorem wb_mod (n : Nat) : lN n = lN (n % 2 ^ 64) := wb_inj (by rw [wb_tb, wb_tb]; apply BitVec.eq_of_toNat_eq; rw [BitVec.toNat_ofNat, BitVec.toNat_ofNat, Nat.mod_mod])
theorem wb_shr {n k : Nat} (hn : n < 2 ^ 64) (hk : k < 64) : ((lN n).toUInt64 >>> ((nI k).toInt64.toUInt64 &&& Int64.toUInt64 63)).toInt64 = lN (n / 2 ^ k) := by
  rw [wb_cu k hk]
  apply wb_inj
  apply BitVec.eq_of_toNat_eq
  show ((lN n).toUInt64 >>> UInt64.ofNat k).toNat = (BitVec.ofNat 64 _).toNat
  have h1 : (UInt64.ofNat k).toNat = k := by
    show (BitVec.ofNat 64 k).toNat = k
    rw [BitVec.toNat_ofNat, Nat.mod_eq_of_lt (by omega)]
  have h2 : (lN n).toUInt64.toNat = n := wb_tn hn
  rw [UInt64.toNat_shiftRight, h1, h2, Nat.mod_eq_of_lt hk, Nat.shiftRight_eq_div_pow, BitVec.toNat_ofNat, Nat.mod_eq_of_lt (Nat.lt_of_le_of_lt (Nat.div_le_self _ _) hn)]
theorem wb_shl (n : Nat) {k : Nat} (hk : k < 64) : lN n <<< ((nI k).toInt64 &&& 63) = lN (n * 2 ^ k) := by
  rw [wb_c k hk]
  apply wb_inj
  rw [Int64.toBitVec_shiftLeft, wb_tb, wb_tb, wb_tb, wb_sm k hk]
  apply BitVec.eq_of_toNat_eq
  rw [BitVec.shiftLeft_eq', BitVec.toNat_shiftLeft, BitVec.toNat_ofNat, BitVec.toNat_ofNat, BitVec.toNat_ofNat, Nat.mod_eq_of_lt (show k < 2 ^ 64 by omega), Nat.shiftLeft_eq, Nat.mul_mod, Nat.mod_mod, ← Nat.mul_mod]
theorem wb_and {a b : Nat} (ha : a < 2 ^ 64) (hb : b < 2 ^ 64) : lN a &&& lN b = lN (a &&& b) := by
  apply wb_inj
  rw [Int64.toBitVec_and, wb_tb, wb_tb, wb_tb]
  apply BitVec.eq_of_toNat_eq
  rw [BitVec.toNat_and, BitVec.toNat_ofNat, BitVec.toNat_ofNat, BitVec.toNat_ofNat, Nat.mod_eq_of_lt ha, Nat.mod_eq_of_lt hb, Nat.mod_eq_of_lt (Nat.and_lt_two_pow _ hb)]
theorem wb_or {a b : Nat} (ha : a < 2 ^ 64) (hb : b < 2 ^ 64) : lN a ||| lN b = lN (a ||| b) := by
  apply wb_inj
  rw [Int64.toBitVec_or, wb_tb, wb_tb, wb_tb]
  apply BitVec.eq_of_toNat_eq
  rw [BitVec.toNat_or, BitVec.toNat_ofNat, BitVec.toNat_ofNat, BitVec.toNat_ofNat, Nat.mod_eq_of_lt ha, Nat.mod_eq_of_lt hb, Nat.mod_eq_of_lt (Nat.or_lt_two_pow ha hb)]
theorem wb_mask {n k : Nat} (hn : n < 2 ^ 64) (hk : k < 64) : lN n &&& lN (2 ^ k - 1) = lN (n % 2 ^ k) := by
  rw [wb_and hn (by have := wb_lt2 hk; omega), Nat.and_two_pow_sub_one_eq_mod]
theorem wb_a1 {n : Nat} (hn : n < 2 ^ 64) : lN n &&& 1 = lN (n % 2) := wb_mask (k := 1) hn (by decide)
theorem wb_bit {n k : Nat} (hn : n < 2 ^ 64) (hk : k < 64) : ((lN n).toUInt64 >>> ((nI k).toInt64.toUInt64 &&& Int64.toUInt64 63)).toInt64 &&& 1 = lN (n / 2 ^ k % 2) := by
  rw [wb_shr hn hk, wb_a1 (Nat.lt_of_le_of_lt (Nat.div_le_self _ _) hn)]
theorem wb_xor {q k : Nat} (hk : k < 63) (h : 2 ^ k ≤ q) (h2 : q < 2 ^ (k + 1)) : lN q ^^^ lN (2 ^ k) = lN (q - 2 ^ k) := by
  obtain ⟨r, rfl⟩ : ∃ r, q = 2 ^ k + r := ⟨q - 2 ^ k, by omega⟩
  have hr : r < 2 ^ k := by rw [Nat.pow_succ] at h2; omega
  have hx : (2 ^ k + r) ^^^ 2 ^ k = r := by
    apply Nat.eq_of_testBit_eq
    intro i
    rw [Nat.testBit_xor, Nat.testBit_two_pow]
    rcases Nat.lt_trichotomy i k with h | h | h
    · rw [Nat.testBit_two_pow_add_gt h]
      simp [show ¬ k = i by omega]
    · subst h
      rw [Nat.testBit_two_pow_add_eq]
      simp
    · have a1 : 2 ^ (k + 1) ≤ 2 ^ i := Nat.pow_le_pow_right (by decide) h
      rw [Nat.testBit_lt_two_pow (show 2 ^ k + r < 2 ^ i by omega), Nat.testBit_lt_two_pow (show r < 2 ^ i by omega)]
      simp [show ¬ k = i by omega]
  have b1 := wb_lt2 (show k + 1 < 64 by omega)
  have b2 := wb_lt2 (show k < 64 by omega)
  apply wb_inj
  rw [Int64.toBitVec_xor, wb_tb, wb_tb, wb_tb]
  apply BitVec.eq_of_toNat_eq
  rw [BitVec.toNat_xor, BitVec.toNat_ofNat, BitVec.toNat_ofNat, BitVec.toNat_ofNat, Nat.mod_eq_of_lt (by omega : 2 ^ k + r < 2 ^ 64), Nat.mod_eq_of_lt b2, hx, Nat.add_sub_cancel_left, Nat.mod_eq_of_lt (by omega)]
/-! ===== lN: masks, 'or' of parts that don't overlap is a sum ===== -/
theorem u_tn {n : Nat} (h : n < 2 ^ 64) : (UInt64.ofNat n).toNat = n := Nat.mod_eq_of_lt h
theorem g_and {a b c : Nat} (ha : a < 2 ^ 64) (hb : b < 2 ^ 64) (hc : a &&& b = c) : lN a &&& lN b = lN c := by
  subst hc
  have h : UInt64.ofNat a &&& UInt64.ofNat b = UInt64.ofNat (a &&& b) := UInt64.toNat_inj.mp (by rw [UInt64.toNat_and, u_tn ha, u_tn hb, u_tn (Nat.and_lt_two_pow a hb)])
  have h2 := congrArg UInt64.toInt64 h
  exact h2
theorem g_and1 {a : Nat} (ha : a < 2 ^ 64) : lN a &&& 1 = lN (a % 2) := g_and (b := 1) ha (by decide) (Nat.and_two_pow_sub_one_eq_mod a 1)
theorem g_mask {a s p : Nat} (hp : 2 ^ s = p) (hs : s < 64) (ha : a < 2 ^ 64) : lN a &&& lN (p - 1) = lN (a % p) := by
  subst hp
  have := Nat.pow_lt_pow_right (show 1 < 2 by decide) hs
  exact g_and ha (by omega) (Nat.and_two_pow_sub_one_eq_mod a s)
theorem g_or {k p a b : Nat} (hp : 2 ^ k = p) (ha : a < p) (h : b * p + a < 2 ^ 64) : lN (b * p) ||| lN a = lN (b * p + a) := by
  subst hp
  have h1 : b * 2 ^ k ||| a = b * 2 ^ k + a := by rw [← Nat.shiftLeft_eq, Nat.shiftLeft_add_eq_or_of_lt ha]
  have h3 : UInt64.ofNat (b * 2 ^ k) ||| UInt64.ofNat a = UInt64.ofNat (b * 2 ^ k + a) := UInt64.toNat_inj.mp (by rw [UInt64.toNat_or, u_tn (by omega), u_tn (by omega), u_tn h, h1])
  have h2 := congrArg UInt64.toInt64 h3
  exact h2
theorem g_or' {k p a b : Nat} (hp : 2 ^ k = p) (ha : a < p) (h : a + b * p < 2 ^ 64) : lN a ||| lN (b * p) = lN (a + b * p) := by
  rw [Int64.or_comm, g_or hp ha (by omega), Nat.add_comm]
theorem g_ushr {a k p : Nat} {y : UInt64} (hy : y = UInt64.ofNat k) (hk : k < 64) (hp : 2 ^ k = p) (ha : a < 2 ^ 64) : ((lN a).toUInt64 >>> y).toInt64 = lN (a / p) := by
  subst hy hp
  have h : UInt64.ofNat a >>> UInt64.ofNat k = UInt64.ofNat (a / 2 ^ k) := UInt64.toNat_inj.mp (by rw [UInt64.toNat_shiftRight, u_tn ha, u_tn (by omega), u_tn (Nat.lt_of_le_of_lt (Nat.div_le_self _ _) ha), Nat.mod_eq_of_lt hk, Nat.shiftRight_eq_div_pow])
  have h2 := congrArg UInt64.toInt64 h
  exact h2
theorem g_shl {a k p : Nat} {y : Int64} (hy : y.toBitVec.smod 64 = BitVec.ofNat 64 k) (hk : k < 64) (hp : 2 ^ k = p) (ha : a < 2 ^ 64) : lN a <<< y = lN (a * p) := by
  subst hp
  apply Int64.toBitVec_inj.mp
  rw [Int64.toBitVec_shiftLeft, hy]
  apply BitVec.eq_of_toNat_eq
  have hb : (lN a).toBitVec.toNat = a := Nat.mod_eq_of_lt ha
  have hk' : (BitVec.ofNat 64 k).toNat = k := Nat.mod_eq_of_lt (by omega)
  have h : ((lN a).toBitVec <<< BitVec.ofNat 64 k).toNat = (a * 2 ^ k) % 2 ^ 64 := by simp only [BitVec.shiftLeft_eq', BitVec.toNat_shiftLeft, hb, hk', Nat.shiftLeft_eq]
  exact h
/-! the state by numbers: a form has n items (0, 1: a fixed bit; 2 + 64 * o + k: bit k of operand o), widths w and signs; both class and reference hold it -/
def cw_O (x : Nat) : Int32 := if x < 2 then (-1) else nI ((x - 2) / 64)
def cw_C (x : Nat) : Int32 := if x < 2 then nI x else nI ((x - 2) % 64)
def cw_fix (it : Nat → Nat) : Nat → Nat
  | 0 => 0
  | i + 1 => cw_fix it i + if it i < 2 then 1 else 0
def cw_ops (w : Nat → Nat) : Nat → Nat
  | 0 => 0
  | i + 1 => cw_ops w i + if 0 < w i then 1 else 0
def cw_sum (w : Nat → Nat) : Nat → Nat
  | 0 => 0
  | i + 1 => cw_sum w i + w i
def cw_has (it : Nat → Nat) (x : Nat) : Nat → Bool
  | 0 => false
  | n + 1 => cw_has it x n || (it n == x)
def cw_lft1 (it : Nat → Nat) (n o : Nat) : Nat → Nat
  | 0 => 0
  | k + 1 => cw_lft1 it n o k + if cw_has it (2 + 64 * o + k) n = true then 0 else 1
def cw_lft (it : Nat → Nat) (n : Nat) (w : Nat → Nat) : Nat → Nat
  | 0 => 0
  | o + 1 => cw_lft it n w o + cw_lft1 it n o (w o)
/-- the items are bits of operands that are there, none twice -/
def cw_ok (it : Nat → Nat) (n : Nat) (w : Nat → Nat) : Prop :=
  n ≤ 64 ∧ (∀ o, o < 6 → w o ≤ 64) ∧ (∀ j, j < n → it j < 2 ∨ ∃ o k, o < 6 ∧ k < w o ∧ it j = 2 + 64 * o + k) ∧ ∀ i j, i < n → j < n → 2 ≤ it i → it i = it j → i = j
theorem cw_has_iff (it : Nat → Nat) (x n : Nat) : cw_has it x n = true ↔ ∃ j, j < n ∧ it j = x := by
  induction n with
  | zero => simp [cw_has]
  | succ n ih =>
    simp only [cw_has, Bool.or_eq_true, ih, beq_iff_eq]
    constructor
    · rintro (⟨j, h1, h2⟩ | h)
      · exact ⟨j, by omega, h2⟩
      · exact ⟨n, by omega, h⟩
    · rintro ⟨j, h1, h2⟩
      by_cases hj : j = n
      · subst hj; exact Or.inr h2
      · exact Or.inl ⟨j, by omega, h2⟩
theorem cw_fix_le (it : Nat → Nat) (n : Nat) : cw_fix it n ≤ n := by
  induction n with
  | zero => exact Nat.le_refl _
  | succ n ih => simp only [cw_fix]; split <;> omega
theorem cw_ops_le (w : Nat → Nat) (n : Nat) : cw_ops w n ≤ n := by
  induction n with
  | zero => exact Nat.le_refl _
  | succ n ih => simp only [cw_ops]; split <;> omega
theorem cw_sum_le (w : Nat → Nat) (n : Nat) (h : ∀ o, o < n → w o ≤ 64) : cw_sum w n ≤ 64 * n := by
  induction n with
  | zero => simp [cw_sum]
  | succ n ih =>
    have h1 := ih (fun o ho => h o (by omega))
    have h2 := h n (by omega)
    simp only [cw_sum]; omega
/-- one item more: which bits of an operand are not there -/
theorem cw_lft1_fix (it : Nat → Nat) (n o K : Nat) (h : it n < 2) : cw_lft1 it (n + 1) o K = cw_lft1 it n o K := by
  induction K with
  | zero => rfl
  | succ k ih =>
    have e : cw_has it (2 + 64 * o + k) (n + 1) = cw_has it (2 + 64 * o + k) n := by
      have : (it n == 2 + 64 * o + k) = false := by simp; omega
      simp only [cw_has, this, Bool.or_false]
    simp only [cw_lft1, ih, e]
theorem cw_lft1_new (it : Nat → Nat) (n o K o' k' : Nat) (hk' : k' < 64) (hx : it n = 2 + 64 * o' + k') (hno : cw_has it (it n) n = false) (hK : K ≤ 64) :
    cw_lft1 it (n + 1) o K + (if o = o' ∧ k' < K then 1 else 0) = cw_lft1 it n o K := by
  induction K with
  | zero => simp [cw_lft1]
  | succ k ih =>
    have ih := ih (by omega)
    by_cases hc : o = o' ∧ k = k'
    · obtain ⟨rfl, rfl⟩ := hc
      have e1 : cw_has it (2 + 64 * o + k) n = false := by rw [← hx]; exact hno
      have e2 : cw_has it (2 + 64 * o + k) (n + 1) = true := by simp [cw_has, hx]
      simp only [cw_lft1, e1, e2] at ih ⊢
      simp at ih ⊢
      omega
    · have e : cw_has it (2 + 64 * o + k) (n + 1) = cw_has it (2 + 64 * o + k) n := by
        have : (it n == 2 + 64 * o + k) = false := by
          simp only [beq_eq_false_iff_ne, ne_eq, hx]
          intro h
          exact hc ⟨by omega, by omega⟩
        simp only [cw_has, this, Bool.or_false]
      simp only [cw_lft1, e]
      have h3 : (if o = o' ∧ k' < k + 1 then 1 else 0) = (if o = o' ∧ k' < k then 1 else 0) := by
        by_cases h1 : o = o'
        · have : k ≠ k' := fun h => hc ⟨h1, h⟩
          by_cases h2 : k' < k
          · simp [h1, h2, show k' < k + 1 by omega]
          · simp [h1, h2, show ¬ k' < k + 1 by omega]
        · simp [h1]
      rw [h3]
      omega
theorem cw_lft_fix (it : Nat → Nat) (n : Nat) (w : Nat → Nat) (O : Nat) (h : it n < 2) : cw_lft it (n + 1) w O = cw_lft it n w O := by
  induction O with
  | zero => rfl
  | succ o ih => simp only [cw_lft, ih, cw_lft1_fix it n o _ h]
theorem cw_lft_new (it : Nat → Nat) (n : Nat) (w : Nat → Nat) (O o' k' : Nat) (hk' : k' < w o') (hw : ∀ o, o < 6 → w o ≤ 64) (ho' : o' < 6) (hO : O ≤ 6) (hx : it n = 2 + 64 * o' + k') (hno : cw_has it (it n) n = false) :
    cw_lft it (n + 1) w O + (if o' < O then 1 else 0) = cw_lft it n w O := by
  have h64 := hw o' ho'
  induction O with
  | zero => simp [cw_lft]
  | succ o ih =>
    have ih := ih (by omega)
    have h1 := cw_lft1_new it n o (w o) o' k' (by omega) hx hno (hw o (by omega))
    simp only [cw_lft]
    by_cases hc : o = o'
    · subst hc
      rw [if_pos ⟨rfl, hk'⟩] at h1
      rw [if_neg (by omega)] at ih
      rw [if_pos (by omega)]
      omega
    · rw [if_neg (fun h => hc h.1)] at h1
      have : (if o' < o + 1 then 1 else 0) = (if o' < o then 1 else 0) := by
        by_cases h2 : o' < o
        · simp [h2, show o' < o + 1 by omega]
        · simp [h2, show ¬ o' < o + 1 by omega]
      rw [this]
      omega
theorem cw_lft1_0 (it : Nat → Nat) (o K : Nat) : cw_lft1 it 0 o K = K := by
  induction K with
  | zero => rfl
  | succ k ih => simp [cw_lft1, cw_has, ih]
theorem cw_lft_0 (it : Nat → Nat) (w : Nat → Nat) (O : Nat) : cw_lft it 0 w O = cw_sum w O := by
  induction O with
  | zero => rfl
  | succ o ih => simp [cw_lft, cw_sum, ih, cw_lft1_0]
/-- the class's count of bits that are wanting is the reference's -/
theorem cw_missing (it : Nat → Nat) (w : Nat → Nat) : ∀ n, cw_ok it n w → cw_lft it n w 6 + (n - cw_fix it n) = cw_sum w 6 := by
  intro n
  induction n with
  | zero => intro _; simp [cw_fix, cw_lft_0]
  | succ n ih =>
    rintro ⟨h1, h2, h3, h4⟩
    have ih := ih ⟨by omega, h2, fun j hj => h3 j (by omega), fun i j hi hj => h4 i j (by omega) (by omega)⟩
    have hle := cw_fix_le it n
    rcases h3 n (by omega) with hf | ⟨o, k, ho, hk, hx⟩
    · rw [cw_lft_fix it n w 6 hf]
      simp only [cw_fix, if_pos hf]
      omega
    · have hno : cw_has it (it n) n = false := by
        cases hh : cw_has it (it n) n with
        | false => rfl
        | true =>
          obtain ⟨j, hj, e⟩ := (cw_has_iff it (it n) n).mp hh
          have := h4 j n (by omega) (by omega) (by omega) e
          omega
      have hn := cw_lft_new it n w 6 o k hk h2 ho (Nat.le_refl _) hx hno
      rw [if_pos ho] at hn
      simp only [cw_fix, if_neg (show ¬ it n < 2 by omega)]
      omega
/-! bits of a long, by numbers -/
def bq (v : Int64) (k : Nat) : Nat := v.toBitVec.toNat / 2 ^ k % 2
theorem bq_lt (v : Int64) (k : Nat) : bq v k < 2 := Nat.mod_lt _ (by decide)
theorem bq_lsb (v : Int64) (k : Nat) : bq v k = (v.toBitVec.getLsbD k).toNat := by
  show v.toBitVec.toNat / 2 ^ k % 2 = (v.toBitVec.toNat.testBit k).toNat
  rw [Nat.toNat_testBit]
theorem bq_1 (v : Int64) (k : Nat) : bq v k = 1 ↔ v.toBitVec.getLsbD k = true := by
  rw [bq_lsb]; cases v.toBitVec.getLsbD k <;> simp
theorem bq_0 (v : Int64) (k : Nat) : bq v k = 0 ↔ v.toBitVec.getLsbD k = false := by
  rw [bq_lsb]; cases v.toBitVec.getLsbD k <;> simp
theorem bq_ext {v w : Int64} (h : ∀ k, k < 64 → bq v k = bq w k) : v = w := by
  apply Int64.toBitVec_inj.mp
  apply BitVec.eq_of_getLsbD_eq
  intro k hk
  have h1 := h k hk
  rw [bq_lsb, bq_lsb] at h1
  cases a : v.toBitVec.getLsbD k <;> cases b : w.toBitVec.getLsbD k <;> simp [a, b] at h1 <;> rfl
/-- the class's bitOf -/
theorem bq_u (v : Int64) {k : Nat} (hk : k < 64) : ((v.toUInt64 >>> ((nI k).toInt64.toUInt64 &&& Int64.toUInt64 63)).toInt64 &&& lN 1).toInt32 = nI (bq v k) := by
  obtain ⟨n, hn, rfl⟩ := wb_of v
  have h1 : lN 1 = (1 : Int64) := by decide +kernel
  rw [h1, wb_bit hn hk, lN_i, bq, wb_tn hn]
theorem bq_and1 (x : Int32) : x &&& nI 1 = nI (x.toBitVec.getLsbD 0).toNat := by
  rw [pk_and x 1 (by decide +kernel)]
  congr 1
  show x.toBitVec.toNat % 2 ^ 1 = (x.toBitVec.toNat.testBit 0).toNat
  rw [Nat.toNat_testBit]
  simp
/-- the reference's bit -/
theorem bq_s (v : Int64) {k : Nat} (hk : k < 64) : (v >>> ((nI k).toInt64 &&& 63)).toInt32 &&& nI 1 = nI (bq v k) := by
  rw [bq_and1, bq_lsb, wb_c k hk]
  congr 2
  show ((v >>> lN k).toBitVec.signExtend 32).getLsbD 0 = _
  rw [BitVec.getLsbD_signExtend, Int64.toBitVec_shiftRight, wb_tb, wb_sm k hk]
  simp only [BitVec.sshiftRight']
  rw [BitVec.getLsbD_sshiftRight]
  have h2 : (BitVec.ofNat 64 k).toNat = k := by rw [BitVec.toNat_ofNat]; omega
  simp [h2, hk]
def allb (P : Nat → Bool) : Nat → Bool
  | 0 => true
  | n + 1 => allb P n && P n
theorem allb_iff (P : Nat → Bool) (n : Nat) : allb P n = true ↔ ∀ k, k < n → P k = true := by
  induction n with
  | zero => simp [allb]
  | succ n ih =>
    simp only [allb, Bool.and_eq_true, ih]
    constructor
    · rintro ⟨h1, h2⟩ k hk
      by_cases e : k = n
      · subst e; exact h2
      · exact h1 k (by omega)
    · intro h
      exact ⟨fun k hk => h k (by omega), h n (by omega)⟩
theorem allb_f (P : Nat → Bool) (n : Nat) {k : Nat} (hk : k < n) (h : P k = false) : allb P n = false := by
  cases e : allb P n with
  | false => rfl
  | true =>
    have := (allb_iff P n).mp e k hk
    rw [h] at this
    cases this
/-- whether an operand of w bits can be the number v -/
def fitB (w : Nat) (sg : Bool) (v : Int64) : Bool := allb (fun k => decide (k < w) || (bq v k == if sg = true then bq v (w - 1) else 0)) 64
theorem fitB_iff (w : Nat) (sg : Bool) (v : Int64) : fitB w sg v = true ↔ ∀ k, w ≤ k → k < 64 → bq v k = if sg = true then bq v (w - 1) else 0 := by
  simp only [fitB, allb_iff, Bool.or_eq_true, decide_eq_true_eq, beq_iff_eq]
  constructor
  · intro h k h1 h2
    rcases h k h2 with h3 | h3
    · omega
    · exact h3
  · intro h k hk
    by_cases hw : k < w
    · exact Or.inl hw
    · exact Or.inr (h k (by omega) hk)
/-- unsigned: nothing is left when the w lowest bits go -/
theorem fit_u (v : Int64) {w : Nat} (hw : w < 64) : (v.toUInt64 >>> ((nI w).toInt64.toUInt64 &&& Int64.toUInt64 63)).toInt64 = lN 0 ↔ fitB w false v = true := by
  obtain ⟨n, hn, rfl⟩ := wb_of v
  rw [wb_shr hn hw, fitB_iff]
  have hd : n / 2 ^ w < 2 ^ 64 := Nat.lt_of_le_of_lt (Nat.div_le_self _ _) hn
  constructor
  · intro h k h1 h2
    have h3 : n / 2 ^ w = 0 := by
      have h4 := congrArg (fun z : Int64 => z.toBitVec.toNat) h
      simp only [wb_tn hd, wb_tn (show (0 : Nat) < 2 ^ 64 by decide)] at h4
      exact h4
    have h5 : n < 2 ^ w := (Nat.div_eq_zero_iff_lt (Nat.two_pow_pos w)).mp h3
    have h6 : n < 2 ^ k := Nat.lt_of_lt_of_le h5 (Nat.pow_le_pow_right (by decide) h1)
    rw [bq, wb_tn hn, Nat.div_eq_of_lt h6]
    simp
  · intro h
    have h5 : n < 2 ^ w := by
      apply Nat.lt_pow_two_of_testBit
      intro k hk
      by_cases h2 : k < 64
      · have h3 := h k hk h2
        simp only [Bool.false_eq_true, if_false] at h3
        rw [bq_0] at h3
        have h4 : (lN n).toBitVec.getLsbD k = n.testBit k := by
          show (lN n).toBitVec.toNat.testBit k = _
          rw [wb_tn hn]
        rw [← h4]; exact h3
      · exact Nat.testBit_lt_two_pow (Nat.lt_of_lt_of_le hn (Nat.pow_le_pow_right (by decide) (by omega)))
    rw [Nat.div_eq_of_lt h5]
/-- with sign: what is left is all of the sign -/
theorem fit_s (v : Int64) {w : Nat} (h1 : 1 ≤ w) (hw : w ≤ 64) : (v >>> ((nI (w - 1)).toInt64 &&& 63) = lN 0 ∨ v >>> ((nI (w - 1)).toInt64 &&& 63) = -1) ↔ fitB w true v = true := by
  rw [fitB_iff, wb_c (w - 1) (by omega)]
  have hb : ∀ i, i < 64 → (v >>> lN (w - 1)).toBitVec.getLsbD i = if w - 1 + i < 64 then v.toBitVec.getLsbD (w - 1 + i) else v.toBitVec.msb := by
    intro i hi
    rw [Int64.toBitVec_shiftRight, wb_tb, wb_sm (w - 1) (by omega)]
    simp only [BitVec.sshiftRight']
    rw [BitVec.getLsbD_sshiftRight]
    have h2 : (BitVec.ofNat 64 (w - 1)).toNat = w - 1 := by rw [BitVec.toNat_ofNat]; omega
    simp [h2, show ¬ 64 ≤ i by omega]
  have hm : v.toBitVec.msb = v.toBitVec.getLsbD 63 := BitVec.msb_eq_getLsbD_last _
  have z0 : ∀ i, (lN 0).toBitVec.getLsbD i = false := fun i => by rw [wb_tb]; simp
  have z1 : ∀ i, i < 64 → (-1 : Int64).toBitVec.getLsbD i = true := by decide +kernel
  have all : ∀ t : Bool, (∀ i, i < 64 → (v >>> lN (w - 1)).toBitVec.getLsbD i = t) ↔ (∀ k, w - 1 ≤ k → k < 64 → v.toBitVec.getLsbD k = t) := by
    intro t
    constructor
    · intro h k h2 h3
      have h4 := h (k - (w - 1)) (by omega)
      rw [hb _ (by omega), if_pos (by omega), show w - 1 + (k - (w - 1)) = k by omega] at h4
      exact h4
    · intro h i hi
      rw [hb i hi]
      split
      · exact h _ (by omega) (by omega)
      · rw [hm]; exact h 63 (by omega) (by omega)
  have e0 : v >>> lN (w - 1) = lN 0 ↔ ∀ i, i < 64 → (v >>> lN (w - 1)).toBitVec.getLsbD i = false := by
    constructor
    · intro h i hi; rw [h, z0]
    · intro h; exact Int64.toBitVec_inj.mp (BitVec.eq_of_getLsbD_eq fun i hi => by rw [h i hi, z0])
  have e1 : v >>> lN (w - 1) = -1 ↔ ∀ i, i < 64 → (v >>> lN (w - 1)).toBitVec.getLsbD i = true := by
    constructor
    · intro h i hi; rw [h, z1 i hi]
    · intro h; exact Int64.toBitVec_inj.mp (BitVec.eq_of_getLsbD_eq fun i hi => by rw [h i hi, z1 i hi])
  rw [e0, e1, all, all]
  simp only [if_true]
  constructor
  · rintro (h | h) k h2 h3
    · rw [(bq_0 v k).mpr (h k (by omega) h3), (bq_0 v (w - 1)).mpr (h (w - 1) (by omega) (by omega))]
    · rw [(bq_1 v k).mpr (h k (by omega) h3), (bq_1 v (w - 1)).mpr (h (w - 1) (by omega) (by omega))]
  · intro h
    have key : ∀ k, w - 1 ≤ k → k < 64 → bq v k = bq v (w - 1) := by
      intro k h2 h3
      by_cases e : k = w - 1
      · rw [e]
      · exact h k (by omega) h3
    have hl := bq_lt v (w - 1)
    by_cases ht : bq v (w - 1) = 0
    · exact Or.inl fun k h2 h3 => (bq_0 v k).mp ((key k h2 h3).trans ht)
    · exact Or.inr fun k h2 h3 => (bq_1 v k).mp ((key k h2 h3).trans (by omega))
/-! words: by the class from the highest bit on, by the reference from the lowest -/
def wrd (b : Nat → Nat) : Nat → Nat
  | 0 => 0
  | i + 1 => wrd b i * 2 + b i
def wrp (b : Nat → Nat) (n : Nat) : Nat → Nat
  | 0 => 0
  | j + 1 => wrp b n j + b (n - 1 - j) * 2 ^ j
theorem wrd_lt (b : Nat → Nat) (n : Nat) (h : ∀ i, i < n → b i < 2) : wrd b n < 2 ^ n := by
  induction n with
  | zero => simp [wrd]
  | succ n ih =>
    have h1 := ih (fun i hi => h i (by omega))
    have h2 := h n (by omega)
    simp only [wrd, Nat.pow_succ]
    omega
theorem wrp_lt (b : Nat → Nat) (n : Nat) (h : ∀ i, i < n → b i < 2) : ∀ j, j ≤ n → wrp b n j < 2 ^ j := by
  intro j
  induction j with
  | zero => intro _; simp [wrp]
  | succ j ih =>
    intro hj
    have h1 := ih (by omega)
    have h2 := h (n - 1 - j) (by omega)
    simp only [wrp, Nat.pow_succ]
    have h3 : b (n - 1 - j) * 2 ^ j ≤ 1 * 2 ^ j := Nat.mul_le_mul_right _ (by omega)
    omega
theorem wrd_wrp (b : Nat → Nat) (n : Nat) : ∀ j, j ≤ n → wrd b (n - j) * 2 ^ j + wrp b n j = wrd b n := by
  intro j
  induction j with
  | zero => intro _; simp [wrp]
  | succ j ih =>
    intro hj
    have h1 := ih (by omega)
    have e : n - j = (n - (j + 1)) + 1 := by omega
    rw [e] at h1
    simp only [wrd] at h1
    have e2 : n - (j + 1) = n - 1 - j := by omega
    simp only [wrp, Nat.pow_succ]
    rw [e2] at h1 ⊢
    rw [← h1, Nat.add_mul, Nat.mul_assoc, Nat.mul_comm 2 (2 ^ j)]
    omega
theorem wrp_all (b : Nat → Nat) (n : Nat) : wrp b n n = wrd b n := by
  have h := wrd_wrp b n n (Nat.le_refl _)
  simp [wrd] at h
  exact h
/-- one bit more, by the class -/
theorem wrd_step (b : Nat → Nat) {i : Nat} (hi : i < 64) (h : ∀ j, j < i + 1 → b j < 2) : (lN (wrd b i) <<< ((nI 1).toInt64 &&& 63)) ||| (nI (b i)).toInt64 = lN (wrd b (i + 1)) := by
  have h1 := wrd_lt b (i + 1) h
  have h2 := h i (by omega)
  have h3 : 2 ^ (i + 1) ≤ 2 ^ 64 := Nat.pow_le_pow_right (by decide) (by omega)
  rw [wb_shl _ (by decide), nI_l (by omega), g_or (k := 1) (p := 2 ^ 1) rfl (by omega) (by simp only [wrd] at h1; omega)]
  rfl
/-- one bit more, by the reference -/
theorem wrp_step (b : Nat → Nat) (n : Nat) {j : Nat} (hj : j < 64) (hn : j < n) (h : ∀ i, i < n → b i < 2) (h1 : b (n - 1 - j) = 1) : lN (wrp b n j) ||| (lN 1 <<< ((nI j).toInt64 &&& 63)) = lN (wrp b n (j + 1)) := by
  have h2 := wrp_lt b n h j (by omega)
  have h3 : 2 ^ (j + 1) ≤ 2 ^ 64 := Nat.pow_le_pow_right (by decide) (by omega)
  rw [Nat.pow_succ] at h3
  rw [wb_shl _ hj, g_or' (k := j) (p := 2 ^ j) rfl h2 (by omega)]
  simp only [wrp, h1]
theorem wrp_stay (b : Nat → Nat) (n : Nat) {j : Nat} (h1 : b (n - 1 - j) = 0) : wrp b n (j + 1) = wrp b n j := by
  simp [wrp, h1]
/-- bits of x ||| (b << k) -/
theorem bq_or (x y : Int64) (k : Nat) : bq (x ||| y) k = if bq x k = 1 ∨ bq y k = 1 then 1 else 0 := by
  have e : (x ||| y).toBitVec.getLsbD k = (x.toBitVec.getLsbD k || y.toBitVec.getLsbD k) := by
    rw [Int64.toBitVec_or, BitVec.getLsbD_or]
  simp only [bq_lsb, e]
  cases x.toBitVec.getLsbD k <;> cases y.toBitVec.getLsbD k <;> simp
theorem bq_lN {n : Nat} (hn : n < 2 ^ 64) (k : Nat) : bq (lN n) k = n / 2 ^ k % 2 := by rw [bq, wb_tn hn]
theorem bq_one (b c k : Nat) (hb : b < 2) (hc : c < 64) : bq (lN b <<< ((nI c).toInt64 &&& 63)) k = if k = c then b else 0 := by
  have h3 : 2 ^ (c + 1) ≤ 2 ^ 64 := Nat.pow_le_pow_right (by decide) (by omega)
  rw [Nat.pow_succ] at h3
  have h4 : b * 2 ^ c ≤ 1 * 2 ^ c := Nat.mul_le_mul_right _ (by omega)
  rw [wb_shl _ hc, bq_lN (by omega)]
  by_cases e : k = c
  · subst e
    rw [if_pos rfl, Nat.mul_div_cancel _ (Nat.two_pow_pos k)]
    omega
  · rw [if_neg e]
    by_cases hk : k < c
    · have : b * 2 ^ c = (b * 2 ^ (c - k - 1) * 2) * 2 ^ k := by
        rw [Nat.mul_assoc, Nat.mul_assoc, ← Nat.pow_succ', ← Nat.pow_add]
        congr 2; omega
      rw [this, Nat.mul_div_cancel _ (Nat.two_pow_pos k)]
      omega
    · have h5 : 2 ^ (c + 1) ≤ 2 ^ k := Nat.pow_le_pow_right (by decide) (by omega)
      rw [Nat.pow_succ] at h5
      rw [Nat.div_eq_of_lt (by have := Nat.two_pow_pos c; omega)]
/-- the sign goes up -/
theorem bq_sx (x : Int64) {w : Nat} (h1 : 1 ≤ w) (hw : w ≤ 64) {k : Nat} (hk : k < 64) : bq ((x <<< ((nI (64 - w)).toInt64 &&& 63)) >>> ((nI (64 - w)).toInt64 &&& 63)) k = if k < w then bq x k else bq x (w - 1) := by
  have hu : 64 - w < 64 := by omega
  rw [wb_c _ hu]
  have h2 : (BitVec.ofNat 64 (64 - w)).toNat = 64 - w := by rw [BitVec.toNat_ofNat]; omega
  have hs : ∀ i, i < 64 → (x <<< lN (64 - w)).toBitVec.getLsbD i = (!decide (i < 64 - w) && x.toBitVec.getLsbD (i - (64 - w))) := by
    intro i hi
    rw [Int64.toBitVec_shiftLeft, wb_tb, wb_sm _ hu, BitVec.shiftLeft_eq', h2, BitVec.getLsbD_shiftLeft]
    simp [hi]
  have e : ((x <<< lN (64 - w)) >>> lN (64 - w)).toBitVec.getLsbD k = if k < w then x.toBitVec.getLsbD k else x.toBitVec.getLsbD (w - 1) := by
    rw [Int64.toBitVec_shiftRight, wb_tb, wb_sm _ hu]
    simp only [BitVec.sshiftRight']
    rw [BitVec.getLsbD_sshiftRight, h2]
    simp only [show ¬ 64 ≤ k by omega, decide_false, Bool.not_false, Bool.true_and]
    by_cases hc : k < w
    · rw [if_pos hc, if_pos (by omega), hs _ (by omega), show 64 - w + k - (64 - w) = k by omega]
      simp [show ¬ 64 - w + k < 64 - w by omega]
    · rw [if_neg hc, if_neg (by omega), BitVec.msb_eq_getLsbD_last, hs _ (by omega), show 64 - 1 - (64 - w) = w - 1 by omega]
      simp [show ¬ 63 < 64 - w by omega]
  rw [bq_lsb, e]
  by_cases hc : k < w
  · rw [if_pos hc, if_pos hc, bq_lsb]
  · rw [if_neg hc, if_neg hc, bq_lsb]
