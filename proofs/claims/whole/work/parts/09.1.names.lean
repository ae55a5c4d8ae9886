/-! names: letters 1 .. 26, the last one first; 5 bits a letter in the class, 27 a letter in the reference -/
theorem zlt_b {α β : Type} (a : α) (f : α → β) : zlt a f = f a := (fun h => h) (Eq.refl (f a))
def cR (b : Nat) : List Nat → Nat
  | [] => 0
  | d :: r => b * cR b r + d
def gNm (l : List Nat) : Prop := l ≠ [] ∧ l.length ≤ 8 ∧ ∀ d, d ∈ l → 1 ≤ d ∧ d ≤ 26
def gLt (l : List Nat) : Prop := ∀ d, d ∈ l → 1 ≤ d ∧ d ≤ 26
theorem cR_pos {b : Nat} {l : List Nat} (h : l ≠ []) (hl : gLt l) : 0 < cR b l := by
  cases l with
  | nil => exact absurd rfl h
  | cons d r => have := (hl d (List.mem_cons_self ..)).1; show 0 < b * cR b r + d; omega
theorem cR_inj {b : Nat} (hb : 27 ≤ b) : ∀ l k : List Nat, gLt l → gLt k → cR b l = cR b k → l = k
  | [], [], _, _, _ => rfl
  | [], d :: r, _, hk, h => absurd h (Nat.ne_of_lt (show 0 < cR b (d :: r) from cR_pos (by simp) hk))
  | d :: r, [], hl, _, h => absurd h.symm (Nat.ne_of_lt (show 0 < cR b (d :: r) from cR_pos (by simp) hl))
  | d :: r, e :: s, hl, hk, h => by
    have h1 := hl d (List.mem_cons_self ..)
    have h2 := hk e (List.mem_cons_self ..)
    have h3 : b * cR b r + d = b * cR b s + e := h
    have m1 : (b * cR b r + d) % b = d := by rw [Nat.mul_add_mod, Nat.mod_eq_of_lt (by omega)]
    have m2 : (b * cR b s + e) % b = e := by rw [Nat.mul_add_mod, Nat.mod_eq_of_lt (by omega)]
    have hde : d = e := by rw [← m1, ← m2, h3]
    subst hde
    have : b * cR b r = b * cR b s := by omega
    have : cR b r = cR b s := Nat.eq_of_mul_eq_mul_left (by omega) this
    rw [cR_inj hb r s (fun x hx => hl x (List.mem_cons_of_mem _ hx)) (fun x hx => hk x (List.mem_cons_of_mem _ hx)) this]
theorem cR_lt {b : Nat} (hb : 27 ≤ b) : ∀ l : List Nat, gLt l → cR b l < b ^ l.length
  | [], _ => by simp [cR]
  | d :: r, h => by
    have h1 := h d (List.mem_cons_self ..)
    have ih := cR_lt hb r (fun x hx => h x (List.mem_cons_of_mem _ hx))
    show b * cR b r + d < b ^ (r.length + 1)
    have : b * (cR b r + 1) ≤ b * b ^ r.length := Nat.mul_le_mul_left b ih
    rw [Nat.pow_succ, Nat.mul_comm (b ^ r.length) b]
    rw [Nat.mul_add] at this
    omega
theorem lM_toInt {n : Nat} (h : n < 2 ^ 63) : (lN n).toInt = (n : Int) := by
  unfold lN
  rw [Int64.toInt_ofNat']
  have hs : Int64.size = 18446744073709551616 := rfl
  exact Int.bmod_eq_of_le (by rw [hs]; omega) (by rw [hs]; omega)
theorem lM_eq {a b : Nat} (ha : a < 2 ^ 63) (hb : b < 2 ^ 63) : lN a = lN b ↔ a = b := by
  rw [← Int64.toInt_inj, lM_toInt ha, lM_toInt hb]; omega
theorem lM_le {a b : Nat} (ha : a < 2 ^ 63) (hb : b < 2 ^ 63) : lN a ≤ lN b ↔ a ≤ b := by
  rw [Int64.le_iff_toInt_le, lM_toInt ha, lM_toInt hb]; omega
theorem lM_m1 {a : Nat} (h : a < 2 ^ 63) : ¬ lN a = -1 := by
  intro e
  have := congrArg Int64.toInt e
  rw [lM_toInt h] at this
  have h2 : (-1 : Int64).toInt = -1 := by decide
  omega
theorem lM_shl (n : Nat) : lN n <<< ((5 : Int32).toInt64 &&& 63) = lN (32 * n) := by
  apply Int64.toBitVec_inj.mp
  apply BitVec.eq_of_toNat_eq
  have e : (lN n <<< ((5 : Int32).toInt64 &&& 63)).toBitVec = (lN n).toBitVec <<< 5 := rfl
  rw [e, BitVec.toNat_shiftLeft]
  show (BitVec.ofNat 64 n).toNat <<< 5 % 2 ^ 64 = (BitVec.ofNat 64 (32 * n)).toNat
  rw [BitVec.toNat_ofNat, BitVec.toNat_ofNat, Nat.shiftLeft_eq, Nat.mod_mul_mod, Nat.mul_comm]
theorem cR_b8 {b : Nat} {l : List Nat} (hb : 27 ≤ b) (hb2 : b ≤ 32) (h : gLt l) (hl : l.length ≤ 8) : cR b l < 2 ^ 63 := by
  have h1 := cR_lt hb l h
  have h2 : b ^ l.length ≤ 32 ^ l.length := Nat.pow_le_pow_left hb2 _
  have h3 : 32 ^ l.length ≤ 32 ^ 8 := Nat.pow_le_pow_right (by decide) hl
  have h4 : (32 : Nat) ^ 8 < 2 ^ 63 := by decide
  omega
def z5c (l : List Nat) : Int64 := lN (cR 32 l)
def z27 (l : List Nat) : Int64 := lN (cR 27 l)
theorem c5_eq {l k : List Nat} (hl : gNm l) (hk : gNm k) : z5c l = z5c k ↔ l = k := by
  unfold z5c
  rw [lM_eq (cR_b8 (by decide) (by decide) hl.2.2 hl.2.1) (cR_b8 (by decide) (by decide) hk.2.2 hk.2.1)]
  exact ⟨cR_inj (by decide) l k hl.2.2 hk.2.2, fun h => by rw [h]⟩
theorem c27_eq {l k : List Nat} (hl : gNm l) (hk : gNm k) : z27 l = z27 k ↔ l = k := by
  unfold z27
  rw [lM_eq (cR_b8 (by decide) (by decide) hl.2.2 hl.2.1) (cR_b8 (by decide) (by decide) hk.2.2 hk.2.1)]
  exact ⟨cR_inj (by decide) l k hl.2.2 hk.2.2, fun h => by rw [h]⟩
theorem c27_pos {l : List Nat} (hl : gNm l) : ¬ z27 l ≤ 0 := by
  intro h
  have h0 : (0 : Int64) = lN 0 := rfl
  unfold z27 at h
  rw [h0, lM_le (cR_b8 (by decide) (by decide) hl.2.2 hl.2.1) (by decide)] at h
  have := cR_pos (b := 27) hl.1 hl.2.2
  omega
theorem c27_ne {l : List Nat} (hl : gNm l) : ¬ z27 l = 0 := fun h => c27_pos hl (by rw [h]; decide)
theorem c5_m1 {l : List Nat} (hl : gNm l) : ¬ z5c l = -1 := lM_m1 (cR_b8 (by decide) (by decide) hl.2.2 hl.2.1)
/-- the words of the language -/
def kw : Nat → List Nat
  | 0 => [20, 21, 16, 14, 9]
  | 1 => [5, 11, 1, 13]
  | 2 => [4, 14, 1]
  | 3 => [18, 15]
  | 4 => [19, 19, 5, 12]
  | 5 => [5, 18, 9, 23]
  | 6 => [14, 9, 15, 10]
  | 7 => [25, 2]
  | 8 => [5, 3, 9, 22, 5, 4]
  | 9 => [19, 14, 9, 16]
  | _ => []
theorem kw_good : ∀ t, t < 10 → gNm (kw t) := by
  unfold gNm; decide +kernel
theorem lN_c32 {v : Nat} {d : Nat} (hd : d < 2 ^ 31) : lN (32 * v) + (nI d).toInt64 = lN (32 * v + d) := by
  rw [nI_l hd, lN_add]
theorem e_withLetter {v d : Nat} (h1 : 1 ≤ d) (h2 : d ≤ 26) : f_X10_withLetter (lN v) (nI (96 + d)) = some (lN (32 * v + d)) := by
  simp only [f_X10_withLetter, zlt]
  have e : nI (96 + d) - 97 + 1 = nI d := by
    rw [show (97 : Int32) = nI 97 from rfl, show 96 + d = (d - 1) + 97 by omega, ← nI_add, Int32.add_sub_cancel, nI_1]
    congr 1; omega
  rw [e, lM_shl, lN_c32 (by omega)]
theorem code_mono {t : Nat} : ∀ n v i r, zlp2 (f_X10_codeOf_4 t) n v i = some r → ∀ m, n ≤ m → zlp2 (f_X10_codeOf_4 t) m v i = some r
  | 0, _, _, _, h, _, _ => by cases h
  | n + 1, v, i, r, h, m, hm => by
    obtain ⟨m, rfl⟩ : ∃ k, m = k + 1 := ⟨m - 1, by omega⟩
    have h1 : f_X10_codeOf_4 t (zlp2 (f_X10_codeOf_4 t) n) v i = some r := h
    show f_X10_codeOf_4 t (zlp2 (f_X10_codeOf_4 t) m) v i = some r
    have ih : ∀ v i, zlp2 (f_X10_codeOf_4 t) n v i = some r → zlp2 (f_X10_codeOf_4 t) m v i = some r := fun v i h => code_mono (t := t) n v i r h m (by omega)
    clear h
    generalize zlp2 (f_X10_codeOf_4 t) n = k1 at *
    generalize zlp2 (f_X10_codeOf_4 t) m = k2 at *
    unfold f_X10_codeOf_4 at h1 ⊢
    obtain ⟨x2, e2, h2⟩ := zb1_e h1
    rw [e2]
    simp only [zb1, Option.bind_some] at h2 ⊢
    by_cases hx : x2 ≤ i
    · rw [if_pos hx] at h2 ⊢; exact h2
    · rw [if_neg hx] at h2 ⊢
      obtain ⟨x4, e4, h4⟩ := Option.bind_eq_some_iff.mp h2
      rw [e4]
      obtain ⟨x6, e6, h6⟩ := Option.bind_eq_some_iff.mp h4
      simp only [Option.bind_some]
      rw [e6]
      exact ih x6 (i + 1) h6
theorem e_codeOf : ∀ t, t < 10 → f_X10_codeOf t = some (z5c (kw t)) := by
  intro t ht
  have h : ∀ t, t < 10 → zlp2 (f_X10_codeOf_4 t) 8 0 0 = some (z5c (kw t)) := by decide +kernel
  exact code_mono 8 0 0 _ (h t ht) zF (Nat.le_of_lt (zF_lt (by decide)))
