/-! the leftmost bit -/
theorem bt_tb (a : Int64) (x : Nat) : bt a x = a.toBitVec.toNat.testBit x := rfl
theorem cnt_cg {N M : Nat} : ∀ n, (∀ x, x < n → N.testBit x = M.testBit x) → cnt N n = cnt M n
  | 0, _ => rfl
  | n + 1, h => by
    show cnt N n + _ = cnt M n + _
    rw [cnt_cg n (fun x hx => h x (by omega)), h n (by omega)]
theorem cnt_ones {t : Nat} : ∀ n, cnt (2 ^ t - 1) n = if n ≤ t then n else t
  | 0 => by simp [cnt]
  | n + 1 => by
    show cnt (2 ^ t - 1) n + (if (2 ^ t - 1).testBit n then 1 else 0) = _
    rw [cnt_ones n, Nat.testBit_two_pow_sub_one]
    by_cases h : n < t
    · have h1 : decide (n < t) = true := by simpa using h
      rw [if_pos (show n ≤ t by omega), if_pos h1, if_pos (show n + 1 ≤ t by omega)]
    · rw [if_neg (show ¬ decide (n < t) = true by simpa using h), if_neg (show ¬ n + 1 ≤ t by omega)]
      split <;> omega
theorem cnt_del {N M t : Nat} : ∀ n, N.testBit t = true → (∀ x, M.testBit x = (N.testBit x && decide (x ≠ t))) → cnt N n = cnt M n + (if t < n then 1 else 0)
  | 0, _, _ => by simp [cnt]
  | n + 1, h1, h2 => by
    show cnt N n + (if N.testBit n then 1 else 0) = cnt M n + (if M.testBit n then 1 else 0) + _
    rw [cnt_del n h1 h2, h2 n]
    by_cases z : n = t
    · subst z; rw [h1]; simp
    · have z2 : decide (n ≠ t) = true := by simpa using z
      rw [z2, Bool.and_true]
      by_cases y : t < n
      · rw [if_pos y, if_pos (show t < n + 1 by omega)]; omega
      · rw [if_neg y, if_neg (show ¬ t < n + 1 by omega)]; omega
/-- a number by its lowest bit -/
theorem low_bit {N : Nat} (h : N ≠ 0) : ∃ t m, N = 2 ^ t * (2 * m + 1) ∧ N.testBit t = true ∧ ∀ x, x < t → N.testBit x = false := by
  induction N using Nat.strongRecOn with
  | ind N ih =>
    by_cases ho : N % 2 = 1
    · refine ⟨0, N / 2, by rw [Nat.pow_zero]; omega, ?_, fun x hx => absurd hx (by omega)⟩
      rw [Nat.testBit_zero]; simpa using ho
    · obtain ⟨t, m, e, b1, b2⟩ := ih (N / 2) (by omega) (by omega)
      refine ⟨t + 1, m, ?_, ?_, fun x hx => ?_⟩
      · rw [Nat.pow_succ, Nat.mul_right_comm, ← e]; omega
      · rw [Nat.testBit_succ]; exact b1
      · cases x with
        | zero => rw [Nat.testBit_zero]; simp; omega
        | succ x => rw [Nat.testBit_succ]; exact b2 x (by omega)
theorem low_bits {t m : Nat} (i : Nat) : (2 ^ t * (2 * m + 1)).testBit i = (if i < t then false else if i = t then true else m.testBit (i - t - 1)) ∧ (2 ^ t * (2 * m + 1) - 1).testBit i = (if i < t then true else if i = t then false else m.testBit (i - t - 1)) := by
  have p : 0 < 2 ^ t := Nat.two_pow_pos t
  have e1 : 2 ^ t * (2 * m + 1) = 2 ^ t * (2 * m + 1) + 0 := rfl
  have e2 : 2 ^ t * (2 * m + 1) - 1 = 2 ^ t * (2 * m) + (2 ^ t - 1) := by rw [Nat.mul_add, Nat.mul_one]; omega
  constructor
  · rw [e1, Nat.testBit_two_pow_mul_add _ p]
    by_cases h : i < t
    · rw [if_pos h, if_pos h, Nat.zero_testBit]
    · rw [if_neg h, if_neg h]
      by_cases h2 : i = t
      · subst h2; rw [if_pos rfl, Nat.sub_self, Nat.testBit_zero]; simp
      · rw [if_neg h2]
        obtain ⟨k, hk⟩ : ∃ k, i - t = k + 1 := ⟨i - t - 1, by omega⟩
        rw [hk, Nat.testBit_succ, show (2 * m + 1) / 2 = m by omega, Nat.add_sub_cancel]
  · rw [e2, Nat.testBit_two_pow_mul_add _ (by omega)]
    by_cases h : i < t
    · rw [if_pos h, if_pos h, Nat.testBit_two_pow_sub_one]; simpa using h
    · rw [if_neg h, if_neg h]
      by_cases h2 : i = t
      · subst h2; rw [if_pos rfl, Nat.sub_self, Nat.testBit_zero]; simp
      · rw [if_neg h2]
        obtain ⟨k, hk⟩ : ∃ k, i - t = k + 1 := ⟨i - t - 1, by omega⟩
        rw [hk, Nat.testBit_succ, show (2 * m) / 2 = m by omega, Nat.add_sub_cancel]
theorem e_leftmost {a : Int64} (h : a ≠ 0) : ∃ t, t < 64 ∧ bt a t = true ∧ (∀ x, x < t → bt a x = false) ∧ f_X11_leftmost a = some (nI t) ∧ (∀ x, bt (a &&& (a - 1)) x = (bt a x && decide (x ≠ t))) ∧ cnt a.toBitVec.toNat 64 = cnt (a &&& (a - 1)).toBitVec.toNat 64 + 1 := by
  have hN : a.toBitVec.toNat ≠ 0 := fun z => h (Int64.toBitVec_inj.mp (BitVec.eq_of_toNat_eq z))
  obtain ⟨t, m, e, b1, b2⟩ := low_bit hN
  have lt := a.toBitVec.isLt
  have ht : t < 64 := Nat.lt_of_not_le fun z => by
    have := Nat.testBit_lt_two_pow (x := a.toBitVec.toNat) (i := t) (Nat.lt_of_lt_of_le lt (Nat.pow_le_pow_right (by decide) z))
    rw [b1] at this; exact absurd this (by decide)
  have lb := low_bits (t := t) (m := m)
  rw [← e] at lb
  have eneg : (-a).toBitVec.toNat = 2 ^ 64 - (a.toBitVec.toNat - 1 + 1) := by
    rw [Int64.toBitVec_neg, BitVec.toNat_neg]; omega
  have eand : (a &&& -a).toBitVec.toNat = 2 ^ t := by
    rw [Int64.toBitVec_and, BitVec.toNat_and, eneg]
    apply Nat.eq_of_testBit_eq
    intro i
    rw [Nat.testBit_and, Nat.testBit_two_pow_sub_succ (by omega), (lb i).1, (lb i).2, Nat.testBit_two_pow]
    by_cases h1 : i < t
    · rw [if_pos h1]; simp; omega
    · rw [if_neg h1, if_neg h1]
      by_cases h2 : i = t
      · subst h2; rw [if_pos rfl, if_pos rfl]; simp [ht]
      · rw [if_neg h2, if_neg h2]
        have : decide (t = i) = false := by simpa using fun z : t = i => h2 z.symm
        rw [this]
        cases m.testBit (i - t - 1) <;> simp
  have esub : ((a &&& -a) - 1).toBitVec.toNat = 2 ^ t - 1 := by
    rw [Int64.toBitVec_sub, BitVec.toNat_sub, eand]
    have h1 : (1 : Int64).toBitVec.toNat = 1 := rfl
    rw [h1]
    have p : 0 < 2 ^ t := Nat.two_pow_pos t
    have p2 : 2 ^ t < 2 ^ 64 := Nat.pow_lt_pow_right (by decide) ht
    omega
  have edec : (a - 1).toBitVec.toNat = a.toBitVec.toNat - 1 := by
    rw [Int64.toBitVec_sub, BitVec.toNat_sub]
    have h1 : (1 : Int64).toBitVec.toNat = 1 := rfl
    rw [h1]
    omega
  have ecl : ∀ x, bt (a &&& (a - 1)) x = (bt a x && decide (x ≠ t)) := by
    intro x
    rw [bt_and, bt_tb, bt_tb, edec, (lb x).1, (lb x).2]
    by_cases h1 : x < t
    · rw [if_pos h1, if_pos h1]; simp
    · rw [if_neg h1, if_neg h1]
      by_cases h2 : x = t
      · subst h2; rw [if_pos rfl, if_pos rfl]; simp
      · rw [if_neg h2, if_neg h2]; simp [h2]
  refine ⟨t, ht, b1, b2, ?_, ecl, ?_⟩
  · unfold f_X11_leftmost
    rw [zlt_b, e_bitCount, zb1_b, esub, cnt_ones, if_neg (by omega)]
  · rw [cnt_del (M := (a &&& (a - 1)).toBitVec.toNat) (t := t) 64 b1 ecl, if_pos ht]
theorem cnt_0 {a : Int64} (h : cnt a.toBitVec.toNat 64 = 0) : a = 0 := by
  refine Classical.not_not.mp fun z => ?_
  obtain ⟨t, -, -, -, -, -, e⟩ := e_leftmost z
  omega
