/-! units: four bytes, the highest first -/
def uSh : Nat → Int32
  | 0 => -8
  | i + 1 => nI (8 * i)
def uBy (x : Int32) (i : Nat) : Int32 := (x.toUInt32 >>> ((uSh (i + 1)).toUInt32 &&& Int32.toUInt32 31)).toInt32 &&& 255
def uCh (x : Int32) : Prop := x = 10 ∨ (¬ x < 32 ∧ ¬ 126 < x)
def uOk (x : Int32) : Nat → Prop
  | 0 => True
  | i + 1 => (uBy x i = 0 ∨ uCh (uBy x i)) ∧ uOk x i
def uNz (x : Int32) : Nat → Nat
  | 0 => 0
  | i + 1 => (if uBy x i = 0 then 0 else 1) + uNz x i
def uWr (x : Int32) : Nat → Nat → (Nat → Int32) → (Nat → Int32)
  | 0, _, f => f
  | i + 1, n, f => if uBy x i = 0 then uWr x i n f else uWr x i (n + 1) (fun k => if k = n then uBy x i else f k)
theorem uNz_le (x : Int32) : ∀ i, uNz x i ≤ i
  | 0 => Nat.le_refl _
  | i + 1 => by
    have := uNz_le x i
    unfold uNz
    split <;> omega
theorem uWr_lt (x : Int32) : ∀ i n f k, k < n → uWr x i n f k = f k
  | 0, _, _, _, _ => rfl
  | i + 1, n, f, k, h => by
    unfold uWr
    split
    · exact uWr_lt x i n f k h
    · rw [uWr_lt x i (n + 1) _ k (by omega), if_neg (by omega)]
theorem uWr_in (x : Int32) : ∀ i n f g, uOk x i → (∀ k, k < n → ∃ c, zCh c ∧ f k = nI c ∧ g k = nI c) → ∀ k, k < n + uNz x i → ∃ c, zCh c ∧ uWr x i n f k = nI c ∧ uWr x i n g k = nI c
  | 0, _, _, _, _, h => h
  | i + 1, n, f, g, ho, h => by
    unfold uWr uNz
    by_cases hb : uBy x i = 0
    · simp only [if_pos hb, Nat.zero_add]
      exact uWr_in x i n f g ho.2 h
    · simp only [if_neg hb]
      intro k hk
      refine uWr_in x i (n + 1) _ _ ho.2 (fun j hj => ?_) k (by omega)
      by_cases hj2 : j = n
      · simp only [if_pos hj2]
        obtain ⟨c, hc, e⟩ := zCh_is.mpr (ho.1.resolve_left hb)
        exact ⟨c, hc, e, e⟩
      · simp only [if_neg hj2]
        exact h j (by omega)
theorem uSh_s : ∀ i, i < 4 → uSh (i + 1) + (-8) = uSh i := by decide
theorem uSh_p : ∀ i, i < 4 → ¬ uSh (i + 1) < 0 := by decide
/-- the class -/
theorem u_c (x : Int32) : ∀ (i m n : Nat) (I : zI) (v2 : Int32), i ≤ 4 → i < m → I 1 1 = nI n → n ≤ 800 → (uOk x i ∧ n + uNz x i ≤ 800 → ∃ J, zlp4 f_X9_addFour_8 m x v2 (uSh i) I = some (1, J) ∧ J 1 1 = nI (n + uNz x i) ∧ J 2 = uWr x i n (I 2) ∧ (∀ p, p ≠ 1 → p ≠ 2 → J p = I p) ∧ ∀ k, k ≠ 1 → J 1 k = I 1 k) ∧
    (¬ (uOk x i ∧ n + uNz x i ≤ 800) → ∃ J, zlp4 f_X9_addFour_8 m x v2 (uSh i) I = some (0, J) ∧ J 1 1 = v2 ∧ (∀ k, k < n → J 2 k = I 2 k) ∧ (∀ p, p ≠ 1 → p ≠ 2 → J p = I p) ∧ ∀ k, k ≠ 1 → J 1 k = I 1 k)
  | 0, 0, _, _, _, _, h, _, _ => absurd h (by decide)
  | i + 1, 0, _, _, _, _, h, _, _ => absurd h (by omega)
  | 0, m + 1, n, I, v2, _, _, hI, hn => by
    refine ⟨fun _ => ⟨I, ?_, hI, rfl, fun _ _ _ => rfl, fun _ _ => rfl⟩, fun h => absurd ⟨trivial, hn⟩ h⟩
    show f_X9_addFour_8 _ x v2 (uSh 0) I = _
    unfold f_X9_addFour_8
    rw [if_pos (by decide)]
  | i + 1, m + 1, n, I, v2, hi, hm, hI, hn => by
    have e0 : zlp4 f_X9_addFour_8 (m + 1) x v2 (uSh (i + 1)) I = f_X9_addFour_8 (zlp4 f_X9_addFour_8 m) x v2 (uSh (i + 1)) I := rfl
    rw [e0]
    unfold f_X9_addFour_8 f_X9_addFour_42
    rw [if_neg (uSh_p i (by omega))]
    simp only [zlt]
    rw [uSh_s i (by omega)]
    have eb : (x.toUInt32 >>> ((uSh (i + 1)).toUInt32 &&& Int32.toUInt32 31)).toInt32 &&& 255 = uBy x i := rfl
    rw [eb]
    unfold uOk uNz uWr
    by_cases hb : uBy x i = 0
    · simp only [if_pos hb, Nat.zero_add]
      have := u_c x i m n I v2 (by omega) (by omega) hI hn
      simp only [hb, true_or, true_and]
      exact this
    · simp only [if_neg hb]
      by_cases hc : uCh (uBy x i)
      · obtain ⟨c, hc1, hc2⟩ := zCh_is.mpr hc
        rcases Nat.lt_or_ge n 800 with hn1 | hn1
        · rw [hc2, e_add_ok hc1 hI hn1]
          simp only [zb2, Option.bind_some]
          rw [if_neg (by decide)]
          have := u_c x i m (n + 1) (zu (zu I 2 n (nI c)) 1 1 (nI (n + 1))) v2 (by omega) (by omega) (zu_eq _ _ _ _) (by omega)
          have e2 : zu (zu I 2 n (nI c)) 1 1 (nI (n + 1)) 2 = fun k => if k = n then nI c else I 2 k := by funext k; simp [zu]
          obtain ⟨t1, t2⟩ := this
          rw [← hc2]
          constructor
          · intro h
            obtain ⟨J, j1, j2, j3, j4, j5⟩ := t1 ⟨h.1.2, by omega⟩
            refine ⟨J, by rw [hc2]; exact j1, by rw [j2]; congr 1; omega, ?_, fun p a b => ?_, fun k a => ?_⟩
            · rw [j3, e2, hc2]
            · rw [j4 p a b]; funext k; simp [zu, a, b]
            · rw [j5 k a]; simp [zu, a]
          · intro h
            obtain ⟨J, j1, j2, j3, j4, j5⟩ := t2 (fun z => h ⟨⟨Or.inr hc, z.1⟩, by omega⟩)
            refine ⟨J, by rw [hc2]; exact j1, j2, fun k a => ?_, fun p a b => ?_, fun k a => ?_⟩
            · rw [j3 k (by omega), e2]; exact if_neg (by omega)
            · rw [j4 p a b]; funext k; simp [zu, a, b]
            · rw [j5 k a]; simp [zu, a]
        · have : n = 800 := by omega
          subst this
          rw [hc2, e_add_full hc1 hI]
          simp only [zb2, Option.bind_some, if_true]
          exact ⟨fun h => absurd h.2 (by omega), fun _ => ⟨_, rfl, zu_eq _ _ _ _, fun k _ => by simp [zu], fun p a b => by funext k; simp [zu, a], fun k a => by simp [zu, a]⟩⟩
      · rw [e_add_no hc]
        simp only [zb2, Option.bind_some, if_true]
        exact ⟨fun h => absurd h.1.1 (fun z => z.elim hb hc), fun _ => ⟨_, rfl, zu_eq _ _ _ _, fun k _ => by simp [zu], fun p a b => by funext k; simp [zu, a], fun k a => by simp [zu, a]⟩⟩
/-- the reference: it writes -/
theorem u_m74 (x : Int32) : ∀ (i m n : Nat) (I : zI), i ≤ 4 → i < m → I 97 29 = nI n → n + uNz x i ≤ 800 → ∃ J, zlp3 f_X12_units_74 m x (uSh i) I = some (1, J) ∧ J 97 29 = nI (n + uNz x i) ∧ J 117 = uWr x i n (I 117) ∧ (∀ p, p ≠ 97 → p ≠ 117 → J p = I p) ∧ ∀ k, k ≠ 29 → J 97 k = I 97 k
  | 0, 0, _, _, _, h, _, _ => absurd h (by decide)
  | i + 1, 0, _, _, _, h, _, _ => absurd h (by omega)
  | 0, m + 1, n, I, _, _, hI, hn => by
    refine ⟨I, ?_, hI, rfl, fun _ _ _ => rfl, fun _ _ => rfl⟩
    show f_X12_units_74 _ x (uSh 0) I = _
    unfold f_X12_units_74
    rw [if_pos (by decide)]
  | i + 1, m + 1, n, I, hi, hm, hI, hn => by
    have e0 : zlp3 f_X12_units_74 (m + 1) x (uSh (i + 1)) I = f_X12_units_74 (zlp3 f_X12_units_74 m) x (uSh (i + 1)) I := rfl
    rw [e0]
    unfold f_X12_units_74 f_X12_units_114
    rw [if_neg (uSh_p i (by omega))]
    simp only [zlt]
    rw [uSh_s i (by omega)]
    have eb : (x.toUInt32 >>> ((uSh (i + 1)).toUInt32 &&& Int32.toUInt32 31)).toInt32 &&& 255 = uBy x i := rfl
    rw [eb]
    unfold uNz uWr
    unfold uNz at hn
    by_cases hb : uBy x i = 0
    · simp only [if_pos hb, Nat.zero_add] at *
      exact u_m74 x i m n I (by omega) (by omega) hI hn
    · simp only [if_neg hb] at *
      rw [hI, zck_t _ (zbd_nI (by omega) (by decide)), nI_clamp (by omega)]
      rw [zu_p _ _ (by decide), hI, nI_1]
      obtain ⟨J, j1, j2, j3, j4, j5⟩ := u_m74 x i m (n + 1) (zu (zu I 117 n (uBy x i)) 97 29 (nI (n + 1))) (by omega) (by omega) (zu_eq _ _ _ _) (by omega)
      refine ⟨J, j1, by rw [j2]; congr 1; omega, ?_, fun p a b => ?_, fun k a => ?_⟩
      · rw [j3]; congr 1; funext k; simp [zu]
      · rw [j4 p a b]; funext k; simp [zu, a, b]
      · rw [j5 k a]; simp [zu, a]
/-- .. and counts -/
theorem u_m10 (x : Int32) : ∀ (i m n c : Nat) (I : zI), i ≤ 4 → i < m → I 97 29 = nI n → n ≤ 800 → c + i ≤ 4 → (uOk x i ∧ n + (c + uNz x i) ≤ 800 → zlp4 f_X12_units_10 m x (nI c) (uSh i) I = zlp3 f_X12_units_74 zF x 24 I) ∧ (¬ (uOk x i ∧ n + (c + uNz x i) ≤ 800) → zlp4 f_X12_units_10 m x (nI c) (uSh i) I = some (0, I))
  | 0, 0, _, _, _, _, h, _, _, _ => absurd h (by decide)
  | i + 1, 0, _, _, _, _, h, _, _, _ => absurd h (by omega)
  | 0, m + 1, n, c, I, _, _, hI, hn, hc => by
    have e : zlp4 f_X12_units_10 (m + 1) x (nI c) (uSh 0) I = if nI (n + c) ≤ 800 then (zlp3 f_X12_units_74 zF x 24 I) else some (0, I) := by
      show f_X12_units_10 _ x (nI c) (uSh 0) I = _
      unfold f_X12_units_10
      rw [if_pos (by decide)]
      simp only [zlt]
      rw [hI, nI_add]
    rw [e]
    exact ⟨fun h => if_pos (show nI (n + c) ≤ 800 from nI_le (b := 800) h.2 (by decide)), fun h => if_neg (show ¬ nI (n + c) ≤ 800 from nI_ge (a := 800) (Nat.lt_of_not_le fun z => h ⟨trivial, z⟩) (by omega))⟩
  | i + 1, m + 1, n, c, I, hi, hm, hI, hn, hc => by
    have e0 : zlp4 f_X12_units_10 (m + 1) x (nI c) (uSh (i + 1)) I = f_X12_units_10 (zlp4 f_X12_units_10 m) x (nI c) (uSh (i + 1)) I := rfl
    have ih := fun c (hc : c + i ≤ 4) => u_m10 x i m n c I (by omega) (by omega) hI hn hc
    rw [e0]
    generalize zlp4 f_X12_units_10 m = kk at ih ⊢
    unfold f_X12_units_10 f_X12_units_38 f_X12_units_49
    rw [if_neg (uSh_p i (by omega))]
    simp only [zlt]
    rw [uSh_s i (by omega)]
    have eb : (x.toUInt32 >>> ((uSh (i + 1)).toUInt32 &&& Int32.toUInt32 31)).toInt32 &&& 255 = uBy x i := rfl
    rw [eb]
    unfold uOk uNz
    by_cases hb : uBy x i = 0
    · simp only [hb, if_true, true_or, true_and, Nat.zero_add, Int32.add_zero]
      exact ih c (by omega)
    · simp only [if_neg hb]
      by_cases hch : uCh (uBy x i)
      · obtain ⟨ch, hc1, hc2⟩ := zCh_is.mpr hch
        rw [hc2, e_ch_t hc1, ← hc2]
        simp only [zb1, Option.bind_some]
        rw [if_neg (by decide), nI_1]
        exact ⟨fun z => (ih (c + 1) (by omega)).1 ⟨z.1.2, by omega⟩, fun z => (ih (c + 1) (by omega)).2 fun y => z ⟨⟨Or.inr hch, y.1⟩, by omega⟩⟩
      · rw [e_ch_f hch]
        exact ⟨fun z => absurd z.1.1 (fun y => y.elim hb hch), fun _ => rfl⟩
theorem sx_units : Sx_units zInv := by
  rintro I L x ⟨P, Q, hp, h⟩
  obtain ⟨n, a1, a2, a3, a4⟩ := h.2.2.2.1
  have hF : 4 < zF := zF_lt (by decide)
  simp only [f_X11_units, f_X12_units, f_X9_addFour, zb2, zlt]
  have c1 := u_c x 4 zF n I (I 1 1) (Nat.le_refl _) hF a2 a1
  have e24 : (24 : Int32) = uSh 4 := rfl
  by_cases ho : uOk x 4 ∧ n + uNz x 4 ≤ 800
  · obtain ⟨J, j1, j2, j3, j4, j5⟩ := c1.1 ho
    have b1 : zu J 97 0 0 97 29 = nI n := by rw [zu_k _ _ (by decide), j4 97 (by decide) (by decide), a3]
    have m1 := u_m10 x 4 zF n 0 (zu J 97 0 0) (Nat.le_refl _) hF b1 a1 (by omega)
    have m1 := m1.1 ⟨ho.1, by omega⟩
    obtain ⟨K, k1, k2, k3, k4, k5⟩ := u_m74 x 4 zF n (zu J 97 0 0) (Nat.le_refl _) hF b1 ho.2
    refine ⟨1, J, K, by rw [e24, j1]; exact zck_t _ zbo_1, (show zlp4 f_X12_units_10 zF x 0 24 (zu J 97 0 0) = _ from m1.trans k1), P, Q, hp, inv_tape hp h (fun p q1 q2 q3 q4 => ?_) (fun k q1 q2 => ?_) (fun _ _ => rfl) ⟨n + uNz x 4, ho.2, ?_, k2, ?_⟩⟩
    · rw [k4 p q3 q4, zu_pf _ _ q3, j4 p q1 q2]
    · rw [k5 k q2, zu_k _ _ q1, j4 97 (by decide) (by decide)]
    · rw [k4 1 (by decide) (by decide), zu_p _ _ (by decide), j2]
    · rw [k4 2 (by decide) (by decide), zu_pf _ _ (by decide), j3, k3, zu_pf _ _ (by decide), j4 117 (by decide) (by decide)]
      exact uWr_in x 4 n _ _ ho.1 a4
  · obtain ⟨J, j1, j2, j3, j4, j5⟩ := c1.2 ho
    have b1 : zu J 97 0 0 97 29 = nI n := by rw [zu_k _ _ (by decide), j4 97 (by decide) (by decide), a3]
    have m1 := u_m10 x 4 zF n 0 (zu J 97 0 0) (Nat.le_refl _) hF b1 a1 (by omega)
    have m1 := m1.2 (fun z => ho ⟨z.1, by omega⟩)
    refine ⟨0, J, zu J 97 0 0, by rw [e24, j1]; exact zck_t _ zbo_0, m1, P, Q, hp, inv_tape hp h (fun p q1 q2 q3 q4 => ?_) (fun k q1 q2 => ?_) (fun _ _ => rfl) ⟨n, a1, ?_, b1, ?_⟩⟩
    · rw [zu_pf _ _ q3, j4 p q1 q2]
    · rw [zu_k _ _ q1, j4 97 (by decide) (by decide)]
    · rw [zu_p _ _ (by decide), j2, a2]
    · intro k hk
      rw [zu_p _ _ (by decide), zu_p _ _ (by decide), j3 k hk, j4 117 (by decide) (by decide)]
      exact a4 k hk
