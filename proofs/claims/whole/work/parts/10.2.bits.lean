/-! rows of squares as longs: bit x -/
def bt (r : Int64) (x : Nat) : Bool := r.toBitVec.getLsbD x
theorem bt_and (a b : Int64) (x : Nat) : bt (a &&& b) x = (bt a x && bt b x) := by
  unfold bt; rw [Int64.toBitVec_and, BitVec.getLsbD_and]
theorem bt_or (a b : Int64) (x : Nat) : bt (a ||| b) x = (bt a x || bt b x) := by
  unfold bt; rw [Int64.toBitVec_or, BitVec.getLsbD_or]
theorem bt_xor (a b : Int64) (x : Nat) : bt (a ^^^ b) x = (bt a x ^^ bt b x) := by
  unfold bt; rw [Int64.toBitVec_xor, BitVec.getLsbD_xor]
theorem bt_0 (x : Nat) : bt 0 x = false := by
  unfold bt
  have : (0 : Int64).toBitVec = 0#64 := rfl
  rw [this]; simp
theorem bt_m1 {x : Nat} (h : x < 64) : bt (-1) x = true := by
  have hd : ∀ x, x < 64 → bt (-1) x = true := by decide +kernel
  exact hd x h
theorem bt_ge {r : Int64} {x : Nat} (h : 64 ≤ x) : bt r x = false := by
  unfold bt; exact BitVec.getLsbD_of_ge _ _ h
theorem bt_not {a : Int64} {x : Nat} (h : x < 64) : bt (a ^^^ -1) x = !bt a x := by
  rw [bt_xor, bt_m1 h]; cases bt a x <;> rfl
theorem bt_ext {a b : Int64} (h : ∀ x, x < 64 → bt a x = bt b x) : a = b := by
  apply Int64.toBitVec_inj.mp
  apply BitVec.eq_of_getLsbD_eq
  intro i hi
  exact h i hi
/-- 1 << X, for X below 64, as the code writes it -/
theorem shl_1 : ∀ X, X < 64 → (1 : Int64) <<< ((nI X).toInt64 &&& 63) = Int64.ofBitVec (1#64 <<< X) := by decide +kernel
theorem bt_one {X x : Nat} (hX : X < 64) : bt ((1 : Int64) <<< ((nI X).toInt64 &&& 63)) x = decide (x = X) := by
  rw [shl_1 X hX]
  show (1#64 <<< X).getLsbD x = _
  rw [BitVec.getLsbD_shiftLeft]
  by_cases h : x = X
  · subst h; simp [hX]
  · by_cases h1 : x < X
    · simp [h1, h]
    · by_cases h2 : x < 64
      · have : x - X ≠ 0 := by omega
        simp [h1, h, h2, BitVec.getLsbD_one, this]
      · simp [h2, h]
theorem bt_mask {X x : Nat} (hX : X < 64) : bt ((1 : Int64) <<< ((nI X).toInt64 &&& 63) - 1) x = decide (x < X) := by
  have hd : ∀ X, X < 64 → ∀ x, x < 64 → bt ((1 : Int64) <<< ((nI X).toInt64 &&& 63) - 1) x = decide (x < X) := by decide +kernel
  by_cases h : x < 64
  · exact hd X hX x h
  · rw [bt_ge (by omega)]
    simp; omega
theorem shl_b (a : Int64) : a <<< ((1 : Int32).toInt64 &&& 63) = Int64.ofBitVec (a.toBitVec <<< 1) := rfl
theorem bt_shl1 (a : Int64) (x : Nat) : bt (a <<< ((1 : Int32).toInt64 &&& 63)) x = (decide (x < 64) && !decide (x < 1) && bt a (x - 1)) := by
  show (a.toBitVec <<< 1).getLsbD x = _
  rw [BitVec.getLsbD_shiftLeft]; rfl
theorem ushr_b {X : Nat} (hX : X < 64) (a : Int64) : (a.toUInt64 >>> ((nI X).toInt64.toUInt64 &&& Int64.toUInt64 63)).toInt64 = Int64.ofBitVec (a.toBitVec >>> X) := by
  have hd : ∀ X, X < 64 → (((nI X).toInt64.toUInt64 &&& Int64.toUInt64 63).toBitVec % 64).toNat = X := by decide +kernel
  apply Int64.toBitVec_inj.mp
  show a.toBitVec >>> (((nI X).toInt64.toUInt64 &&& Int64.toUInt64 63).toBitVec % 64) = a.toBitVec >>> X
  rw [BitVec.ushiftRight_eq', hd X hX]
theorem bt_ushr {X : Nat} (hX : X < 64) (a : Int64) (x : Nat) : bt ((a.toUInt64 >>> ((nI X).toInt64.toUInt64 &&& Int64.toUInt64 63)).toInt64) x = bt a (X + x) := by
  rw [ushr_b hX]
  show (a.toBitVec >>> X).getLsbD x = _
  rw [BitVec.getLsbD_ushiftRight]; rfl
theorem bt_low (a : Int64) : (a &&& 1 = 0) ↔ bt a 0 = false := by
  constructor
  · intro h
    have := congrArg (fun z => bt z 0) h
    have h1 : bt 1 0 = true := by decide
    have h2 : (bt a 0 && true) = bt 0 0 := by rw [← h1, ← bt_and]; exact this
    rw [bt_0] at h2
    simpa using h2
  · intro h
    refine bt_ext fun x hx => ?_
    rw [bt_and, bt_0]
    by_cases z : x = 0
    · subst z; rw [h]; rfl
    · have hd : ∀ x, x < 64 → x ≠ 0 → bt 1 x = false := by decide +kernel
      rw [hd x hx z]; simp
/-! how many bits -/
def cnt (N : Nat) : Nat → Nat
  | 0 => 0
  | n + 1 => cnt N n + (if N.testBit n then 1 else 0)
theorem cnt_hi (q d : Nat) (hd : d < 256) : ∀ n, cnt (256 * q + d) (8 + n) = cnt d 8 + cnt q n
  | 0 => by
    have e : ∀ i, i ≤ 8 → cnt (256 * q + d) i = cnt d i := by
      intro i
      induction i with
      | zero => intro _; rfl
      | succ i ih =>
        intro hi
        show cnt (256 * q + d) i + _ = cnt d i + _
        have tb : (256 * q + d).testBit i = d.testBit i := by
          rw [show 256 * q + d = 2 ^ 8 * q + d by omega, Nat.testBit_two_pow_mul_add _ (by omega), if_pos (show i < 8 by omega)]
        rw [ih (by omega), tb]
    exact e 8 (Nat.le_refl _)
  | n + 1 => by
    show cnt (256 * q + d) (8 + n) + (if (256 * q + d).testBit (8 + n) then 1 else 0) = cnt d 8 + (cnt q n + _)
    have tb : (256 * q + d).testBit (8 + n) = q.testBit n := by
      rw [show 256 * q + d = 2 ^ 8 * q + d by omega, Nat.testBit_two_pow_mul_add _ (by omega), if_neg (show ¬ 8 + n < 8 by omega), Nat.add_sub_cancel_left]
    rw [cnt_hi q d hd n, tb]
    omega
/-- a byte, n times -/
def msk (e : Nat) : Nat → Nat
  | 0 => 0
  | n + 1 => 256 * msk e n + e
theorem and_by {q d p e : Nat} (hd : d < 256) (he : e < 256) : (256 * q + d) &&& (256 * p + e) = 256 * (q &&& p) + (d &&& e) := by
  apply Nat.eq_of_testBit_eq
  intro i
  have hde : d &&& e < 2 ^ 8 := Nat.lt_of_le_of_lt Nat.and_le_left (by omega)
  rw [Nat.testBit_and, show 256 * q + d = 2 ^ 8 * q + d by omega, show 256 * p + e = 2 ^ 8 * p + e by omega, show 256 * (q &&& p) + (d &&& e) = 2 ^ 8 * (q &&& p) + (d &&& e) by omega, Nat.testBit_two_pow_mul_add _ (by omega), Nat.testBit_two_pow_mul_add _ (by omega), Nat.testBit_two_pow_mul_add _ hde]
  by_cases z : i < 8
  · rw [if_pos z, if_pos z, if_pos z, Nat.testBit_and]
  · rw [if_neg z, if_neg z, if_neg z, Nat.testBit_and]
/-- a shift by s bits under a mask of bytes below 2^(8-s) -/
theorem shr_by {q d p e s : Nat} (hd : d < 256) (hs : s ≤ 8) (he : e < 2 ^ (8 - s)) : ((256 * q + d) >>> s) &&& (256 * p + e) = 256 * ((q >>> s) &&& p) + ((d >>> s) &&& e) := by
  have he2 : e < 2 ^ 8 := Nat.lt_of_lt_of_le he (Nat.pow_le_pow_right (by decide) (by omega))
  apply Nat.eq_of_testBit_eq
  intro i
  have hde : (d >>> s) &&& e < 2 ^ 8 := Nat.lt_of_le_of_lt Nat.and_le_right he2
  rw [Nat.testBit_and, Nat.testBit_shiftRight, show 256 * q + d = 2 ^ 8 * q + d by omega, show 256 * p + e = 2 ^ 8 * p + e by omega, show 256 * ((q >>> s) &&& p) + ((d >>> s) &&& e) = 2 ^ 8 * ((q >>> s) &&& p) + ((d >>> s) &&& e) by omega, Nat.testBit_two_pow_mul_add _ (by omega), Nat.testBit_two_pow_mul_add _ he2, Nat.testBit_two_pow_mul_add _ hde]
  by_cases z : i < 8
  · rw [if_pos z, if_pos z, Nat.testBit_and, Nat.testBit_shiftRight]
    by_cases y : s + i < 8
    · rw [if_pos y]
    · have : e.testBit i = false := Nat.testBit_lt_two_pow (Nat.lt_of_lt_of_le he (Nat.pow_le_pow_right (by decide) (by omega)))
      rw [this, Bool.and_false, Bool.and_false]
  · rw [if_neg (by omega), if_neg z, if_neg z, Nat.testBit_and, Nat.testBit_shiftRight, show s + i - 8 = s + (i - 8) by omega]
def pA (N n : Nat) : Nat := N - ((N >>> 1) &&& msk 85 n)
def pB (N n : Nat) : Nat := (N &&& msk 51 n) + ((N >>> 2) &&& msk 51 n)
def pC (N n : Nat) : Nat := (N + N >>> 4) &&& msk 15 n
/-- the sum of the bytes that pop makes -/
theorem pop_by : ∀ n N, N < 256 ^ n → ((N >>> 1) &&& msk 85 n ≤ N) ∧ pA N n < 256 ^ n ∧ 2 * pB (pA N n) n < 256 ^ n ∧ (pB (pA N n) n) % 16 ≤ 4 ∧ ∀ q d, N = 256 * q + d → d < 256 → n ≠ 0 → pC (pB (pA N n) n) n = 256 * pC (pB (pA q (n - 1)) (n - 1)) (n - 1) + cnt d 8
  | 0, N, h => by
    have : N = 0 := by simpa using h
    subst this
    refine ⟨by decide, by decide, by decide, by decide, fun q d _ _ z => absurd rfl z⟩
  | n + 1, N, h => by
    have hq : N / 256 < 256 ^ n := by
      rw [Nat.pow_succ] at h
      exact Nat.div_lt_of_lt_mul (by omega)
    obtain ⟨i1, i2, i3, i4, i6⟩ := pop_by n (N / 256) hq
    have hN : N = 256 * (N / 256) + N % 256 := (Nat.div_add_mod N 256).symm
    generalize hqq : N / 256 = q at *
    generalize hdd : N % 256 = d at *
    have hd : d < 256 := by rw [← hdd]; exact Nat.mod_lt _ (by decide)
    subst hN
    have byte : ∀ d, d < 256 → ((d >>> 1) &&& 85 ≤ d) ∧ d - ((d >>> 1) &&& 85) < 256 ∧ ((d - ((d >>> 1) &&& 85)) &&& 51) + (((d - ((d >>> 1) &&& 85)) >>> 2) &&& 51) ≤ 68 ∧ (((d - ((d >>> 1) &&& 85)) &&& 51) + (((d - ((d >>> 1) &&& 85)) >>> 2) &&& 51)) % 16 ≤ 4 ∧ ((((d - ((d >>> 1) &&& 85)) &&& 51) + (((d - ((d >>> 1) &&& 85)) >>> 2) &&& 51)) + (((d - ((d >>> 1) &&& 85)) &&& 51) + (((d - ((d >>> 1) &&& 85)) >>> 2) &&& 51)) / 16) &&& 15 = cnt d 8 := by decide +kernel
    obtain ⟨b1, b2, b3, b4, b5⟩ := byte d hd
    have eA0 : ((256 * q + d) >>> 1) &&& msk 85 (n + 1) = 256 * ((q >>> 1) &&& msk 85 n) + ((d >>> 1) &&& 85) := shr_by hd (by decide) (by decide)
    have eA : pA (256 * q + d) (n + 1) = 256 * pA q n + (d - ((d >>> 1) &&& 85)) := by
      unfold pA; rw [eA0]; omega
    generalize hdA : d - ((d >>> 1) &&& 85) = dA at *
    have eB : pB (pA (256 * q + d) (n + 1)) (n + 1) = 256 * pB (pA q n) n + ((dA &&& 51) + ((dA >>> 2) &&& 51)) := by
      rw [eA]
      have e1 : (256 * pA q n + dA) &&& msk 51 (n + 1) = 256 * (pA q n &&& msk 51 n) + (dA &&& 51) := and_by b2 (by decide)
      have e2 : ((256 * pA q n + dA) >>> 2) &&& msk 51 (n + 1) = 256 * ((pA q n >>> 2) &&& msk 51 n) + ((dA >>> 2) &&& 51) := shr_by b2 (by decide) (by decide)
      show ((256 * pA q n + dA) &&& msk 51 (n + 1)) + (((256 * pA q n + dA) >>> 2) &&& msk 51 (n + 1)) = 256 * ((pA q n &&& msk 51 n) + ((pA q n >>> 2) &&& msk 51 n)) + _
      rw [e1, e2]; omega
    generalize hdB : (dA &&& 51) + ((dA >>> 2) &&& 51) = dB at *
    have p256 : 256 ^ (n + 1) = 256 * 256 ^ n := by rw [Nat.pow_succ, Nat.mul_comm]
    have hB : 2 * pB (pA (256 * q + d) (n + 1)) (n + 1) < 256 ^ (n + 1) := by rw [eB, p256]; omega
    refine ⟨by rw [eA0]; omega, by rw [eA, p256]; omega, hB, by rw [eB]; omega, ?_⟩
    · intro q' d' e hd' _
      have e1 : q' = q := by omega
      have e2 : d' = d := by omega
      subst e1; subst e2
      rw [Nat.add_sub_cancel]
      unfold pC
      rw [eB]
      have e3 : 256 * pB (pA q' n) n + dB + (256 * pB (pA q' n) n + dB) >>> 4 = 256 * (pB (pA q' n) n + pB (pA q' n) n >>> 4) + (dB + dB / 16 + 16 * (pB (pA q' n) n % 16)) := by
        rw [Nat.shiftRight_eq_div_pow, Nat.shiftRight_eq_div_pow]; omega
      rw [e3]
      have e4 : (256 * (pB (pA q' n) n + pB (pA q' n) n >>> 4) + (dB + dB / 16 + 16 * (pB (pA q' n) n % 16))) &&& msk 15 (n + 1) = 256 * ((pB (pA q' n) n + pB (pA q' n) n >>> 4) &&& msk 15 n) + ((dB + dB / 16 + 16 * (pB (pA q' n) n % 16)) &&& 15) := and_by (by omega) (by decide)
      rw [e4]
      congr 1
      have m15 : ∀ x, x &&& 15 = x % 16 := fun x => Nat.and_two_pow_sub_one_eq_mod x 4
      rw [← b5, m15, m15]
      omega
theorem cnt_8 (d : Nat) : cnt d 8 ≤ 8 := by
  have : ∀ n, cnt d n ≤ n := by
    intro n
    induction n with
    | zero => exact Nat.le_refl _
    | succ n ih => show cnt d n + _ ≤ _; split <;> omega
  exact this 8
theorem cnt_by (N n : Nat) : cnt N (8 + n) = cnt (N % 256) 8 + cnt (N / 256) n := by
  have := cnt_hi (N / 256) (N % 256) (Nat.mod_lt _ (by decide)) n
  rw [Nat.div_add_mod] at this
  exact this
theorem pop_1 (n N : Nat) (h : N < 256 ^ (n + 1)) : N / 256 < 256 ^ n ∧ pC (pB (pA N (n + 1)) (n + 1)) (n + 1) = 256 * pC (pB (pA (N / 256) n) n) n + cnt (N % 256) 8 := by
  refine ⟨?_, (pop_by (n + 1) N h).2.2.2.2 (N / 256) (N % 256) (Nat.div_add_mod N 256).symm (Nat.mod_lt _ (by decide)) (by omega)⟩
  rw [Nat.pow_succ] at h
  exact Nat.div_lt_of_lt_mul (by omega)
theorem e_bitCount (a : Int64) : f_J13_bitCount_95d88 a = some (nI (cnt a.toBitVec.toNat 64)) := by
  have hN : a.toBitVec.toNat < 256 ^ 8 := by have := a.toBitVec.isLt; omega
  obtain ⟨i1, i2, i3, -, -⟩ := pop_by 8 a.toBitVec.toNat hN
  have sh : ∀ (x : Int64) (k : Nat), k < 64 → ((x.toUInt64 >>> ((nI k).toInt64.toUInt64 &&& Int64.toUInt64 63)).toInt64).toBitVec.toNat = x.toBitVec.toNat >>> k := fun x k hk => by
    rw [ushr_b hk]
    show (x.toBitVec >>> k).toNat = _
    rw [BitVec.toNat_ushiftRight]
  have an : ∀ x y : Int64, (x &&& y).toBitVec.toNat = x.toBitVec.toNat &&& y.toBitVec.toNat := fun x y => by rw [Int64.toBitVec_and, BitVec.toNat_and]
  have ad : ∀ x y : Int64, x.toBitVec.toNat + y.toBitVec.toNat < 2 ^ 64 → (x + y).toBitVec.toNat = x.toBitVec.toNat + y.toBitVec.toNat := fun x y h => by rw [Int64.toBitVec_add, BitVec.toNat_add, Nat.mod_eq_of_lt h]
  have sb : ∀ x y : Int64, y.toBitVec.toNat ≤ x.toBitVec.toNat → (x - y).toBitVec.toNat = x.toBitVec.toNat - y.toBitVec.toNat := fun x y h => by
    rw [Int64.toBitVec_sub, BitVec.toNat_sub]
    have := x.toBitVec.isLt
    have := y.toBitVec.isLt
    omega
  have m5 : (6148914691236517205 : Int64).toBitVec.toNat = msk 85 8 := by decide
  have m3 : (3689348814741910323 : Int64).toBitVec.toNat = msk 51 8 := by decide
  have mf : (1085102592571150095 : Int64).toBitVec.toNat = msk 15 8 := by decide
  unfold f_J13_bitCount_95d88
  simp only [zlt_b]
  generalize h1 : (a.toUInt64 >>> ((1 : Int32).toInt64.toUInt64 &&& Int64.toUInt64 63)).toInt64 = x1
  have e1 : x1.toBitVec.toNat = a.toBitVec.toNat >>> 1 := by rw [← h1]; exact sh a 1 (by decide)
  generalize h2 : a - (x1 &&& 6148914691236517205) = x2
  have e2 : x2.toBitVec.toNat = pA a.toBitVec.toNat 8 := by
    rw [← h2, sb _ _ (by rw [an, e1, m5]; exact i1), an, e1, m5]; rfl
  generalize h3 : (x2.toUInt64 >>> ((2 : Int32).toInt64.toUInt64 &&& Int64.toUInt64 63)).toInt64 = x3
  have e3 : x3.toBitVec.toNat = x2.toBitVec.toNat >>> 2 := by rw [← h3]; exact sh x2 2 (by decide)
  generalize h4 : (x2 &&& 3689348814741910323) + (x3 &&& 3689348814741910323) = x4
  have e4 : x4.toBitVec.toNat = pB (pA a.toBitVec.toNat 8) 8 := by
    have : (x2 &&& 3689348814741910323).toBitVec.toNat + (x3 &&& 3689348814741910323).toBitVec.toNat = pB (pA a.toBitVec.toNat 8) 8 := by rw [an, an, m3, e3, e2]; rfl
    rw [← h4, ad _ _ (by rw [this]; omega), this]
  generalize h5 : (x4.toUInt64 >>> ((4 : Int32).toInt64.toUInt64 &&& Int64.toUInt64 63)).toInt64 = x5
  have e5 : x5.toBitVec.toNat = x4.toBitVec.toNat >>> 4 := by rw [← h5]; exact sh x4 4 (by decide)
  generalize h6 : (x4 + x5) &&& 1085102592571150095 = x6
  have e6 : x6.toBitVec.toNat = pC (pB (pA a.toBitVec.toNat 8) 8) 8 := by
    rw [← h6, an, mf, ad _ _ (by rw [e5, e4, Nat.shiftRight_eq_div_pow]; omega), e5, e4]; rfl
  generalize a.toBitVec.toNat = N at *
  obtain ⟨n1, w1⟩ := pop_1 7 N hN
  obtain ⟨n2, w2⟩ := pop_1 6 (N / 256) n1
  obtain ⟨n3, w3⟩ := pop_1 5 _ n2
  obtain ⟨n4, w4⟩ := pop_1 4 _ n3
  obtain ⟨n5, w5⟩ := pop_1 3 _ n4
  obtain ⟨n6, w6⟩ := pop_1 2 _ n5
  obtain ⟨n7, w7⟩ := pop_1 1 _ n6
  obtain ⟨n8, w8⟩ := pop_1 0 _ n7
  have z0 : pC (pB (pA (N / 256 / 256 / 256 / 256 / 256 / 256 / 256 / 256) 0) 0) 0 = 0 := by
    unfold pC; exact Nat.and_zero _
  have c : cnt N 64 = cnt (N % 256) 8 + (cnt (N / 256 % 256) 8 + (cnt (N / 256 / 256 % 256) 8 + (cnt (N / 256 / 256 / 256 % 256) 8 + (cnt (N / 256 / 256 / 256 / 256 % 256) 8 + (cnt (N / 256 / 256 / 256 / 256 / 256 % 256) 8 + (cnt (N / 256 / 256 / 256 / 256 / 256 / 256 % 256) 8 + (cnt (N / 256 / 256 / 256 / 256 / 256 / 256 / 256 % 256) 8))))))) := by
    rw [show (64 : Nat) = 8 + 56 from rfl, cnt_by, show (56 : Nat) = 8 + 48 from rfl, cnt_by, show (48 : Nat) = 8 + 40 from rfl, cnt_by, show (40 : Nat) = 8 + 32 from rfl, cnt_by, show (32 : Nat) = 8 + 24 from rfl, cnt_by, show (24 : Nat) = 8 + 16 from rfl, cnt_by, show (16 : Nat) = 8 + 8 from rfl, cnt_by (N / 256 / 256 / 256 / 256 / 256 / 256) 8]
    have : ∀ x, cnt x 8 = cnt (x % 256) 8 := fun x => by have := cnt_by x 0; simpa [cnt] using this
    rw [this (N / 256 / 256 / 256 / 256 / 256 / 256 / 256)]
  have b0 := cnt_8 (N % 256)
  have b1 := cnt_8 (N / 256 % 256)
  have b2 := cnt_8 (N / 256 / 256 % 256)
  have b3 := cnt_8 (N / 256 / 256 / 256 % 256)
  have b4 := cnt_8 (N / 256 / 256 / 256 / 256 % 256)
  have b5 := cnt_8 (N / 256 / 256 / 256 / 256 / 256 % 256)
  have b6 := cnt_8 (N / 256 / 256 / 256 / 256 / 256 / 256 % 256)
  have b7 := cnt_8 (N / 256 / 256 / 256 / 256 / 256 / 256 / 256 % 256)
  rw [w1, w2, w3, w4, w5, w6, w7, w8, z0] at e6
  generalize cnt (N % 256) 8 = c0 at *
  generalize cnt (N / 256 % 256) 8 = c1 at *
  generalize cnt (N / 256 / 256 % 256) 8 = c2 at *
  generalize cnt (N / 256 / 256 / 256 % 256) 8 = c3 at *
  generalize cnt (N / 256 / 256 / 256 / 256 % 256) 8 = c4 at *
  generalize cnt (N / 256 / 256 / 256 / 256 / 256 % 256) 8 = c5 at *
  generalize cnt (N / 256 / 256 / 256 / 256 / 256 / 256 % 256) 8 = c6 at *
  generalize cnt (N / 256 / 256 / 256 / 256 / 256 / 256 / 256 % 256) 8 = c7 at *
  generalize h7 : (x6.toUInt64 >>> ((8 : Int32).toInt64.toUInt64 &&& Int64.toUInt64 63)).toInt64 = x7
  have e7 : x7.toBitVec.toNat = x6.toBitVec.toNat / 2 ^ 8 := by rw [← h7, ← Nat.shiftRight_eq_div_pow]; exact sh x6 8 (by decide)
  generalize h8 : x6 + x7 = x8
  have e8 : x8.toBitVec.toNat = x6.toBitVec.toNat + x6.toBitVec.toNat / 2 ^ 8 := by rw [← h8, ad _ _ (by rw [e7]; omega), e7]
  generalize h9 : (x8.toUInt64 >>> ((16 : Int32).toInt64.toUInt64 &&& Int64.toUInt64 63)).toInt64 = x9
  have e9 : x9.toBitVec.toNat = x8.toBitVec.toNat / 2 ^ 16 := by rw [← h9, ← Nat.shiftRight_eq_div_pow]; exact sh x8 16 (by decide)
  generalize h10 : x8 + x9 = x10
  have e10 : x10.toBitVec.toNat = x8.toBitVec.toNat + x8.toBitVec.toNat / 2 ^ 16 := by rw [← h10, ad _ _ (by rw [e9]; omega), e9]
  generalize h11 : (x10.toUInt64 >>> ((32 : Int32).toInt64.toUInt64 &&& Int64.toUInt64 63)).toInt64 = x11
  have e11 : x11.toBitVec.toNat = x10.toBitVec.toNat / 2 ^ 32 := by rw [← h11, ← Nat.shiftRight_eq_div_pow]; exact sh x10 32 (by decide)
  generalize h12 : x10 + x11 = x12
  have e12 : x12.toBitVec.toNat = x10.toBitVec.toNat + x10.toBitVec.toNat / 2 ^ 32 := by rw [← h12, ad _ _ (by rw [e11]; omega), e11]
  rw [pk_and x12.toInt32 7 (by decide)]
  have e13 : x12.toInt32.toBitVec.toNat = x12.toBitVec.toNat % 2 ^ 32 := by
    show (x12.toBitVec.signExtend 32).toNat = _
    rw [BitVec.signExtend_eq_setWidth_of_le _ (by decide), BitVec.toNat_setWidth]
  rw [e13, c]
  congr 2
  generalize x6.toBitVec.toNat = X6 at *
  generalize x8.toBitVec.toNat = X8 at *
  generalize x10.toBitVec.toNat = X10 at *
  generalize x12.toBitVec.toNat = X12 at *
  clear w1 w2 w3 w4 w5 w6 w7 w8 n1 n2 n3 n4 n5 n6 n7 n8 z0 c e13 i1 i2 i3 hN
  have q6 : X6 = c0 + 256 * (c1 + 256 * (c2 + 256 * (c3 + 256 * (c4 + 256 * (c5 + 256 * (c6 + 256 * c7)))))) := by omega
  have q7 : X6 / 2 ^ 8 = c1 + 256 * (c2 + 256 * (c3 + 256 * (c4 + 256 * (c5 + 256 * (c6 + 256 * c7))))) := by omega
  have q8 : X8 = (c0 + c1) + 256 * ((c1 + c2) + 256 * ((c2 + c3) + 256 * ((c3 + c4) + 256 * ((c4 + c5) + 256 * ((c5 + c6) + 256 * ((c6 + c7) + 256 * c7)))))) := by omega
  clear e6 e8 q6 q7
  have q9 : X8 / 2 ^ 16 = (c2 + c3) + 256 * ((c3 + c4) + 256 * ((c4 + c5) + 256 * ((c5 + c6) + 256 * ((c6 + c7) + 256 * c7)))) := by omega
  have q10 : X10 = (c0 + c1 + c2 + c3) + 256 * ((c1 + c2 + c3 + c4) + 256 * ((c2 + c3 + c4 + c5) + 256 * ((c3 + c4 + c5 + c6) + 256 * ((c4 + c5 + c6 + c7) + 256 * ((c5 + c6 + c7) + 256 * ((c6 + c7) + 256 * c7)))))) := by omega
  clear e10 q8 q9
  have q11 : X10 / 2 ^ 32 = (c4 + c5 + c6 + c7) + 256 * ((c5 + c6 + c7) + 256 * ((c6 + c7) + 256 * c7)) := by omega
  have q12 : X12 = (c0 + c1 + c2 + c3 + c4 + c5 + c6 + c7) + 256 * ((c1 + c2 + c3 + c4 + c5 + c6 + c7) + 256 * ((c2 + c3 + c4 + c5 + c6 + c7) + 256 * ((c3 + c4 + c5 + c6 + c7) + 256 * ((c4 + c5 + c6 + c7) + 256 * ((c5 + c6 + c7) + 256 * ((c6 + c7) + 256 * c7)))))) := by omega
  clear e12 q10 q11
  have q13 : X12 % 2 ^ 32 % 2 ^ 7 = X12 % 128 := by omega
  rw [q13, q12]
  omega
