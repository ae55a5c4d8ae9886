/-! unit -/
theorem zbo_0 : zbo 0 = true := by decide
theorem zbo_1 : zbo 1 = true := by decide
theorem zCh_lt {c : Nat} (h : zCh c) : c < 127 := by unfold zCh at h; omega
theorem zCh_is {x : Int32} : (∃ c, zCh c ∧ x = nI c) ↔ (x = 10 ∨ (¬ x < 32 ∧ ¬ 126 < x)) := by
  constructor
  · rintro ⟨c, hc | hc, rfl⟩
    · subst hc; exact Or.inl rfl
    · exact Or.inr ⟨nI_nlt (b := 32) hc.1 (by omega), nI_nlt (a := 126) (b := c) (by omega) (by omega)⟩
  · rintro (rfl | ⟨h1, h2⟩)
    · exact ⟨10, Or.inl rfl, rfl⟩
    · have h0 : ¬ x < 0 := fun z => h1 (by
        rw [Int32.lt_iff_toInt_lt] at *
        have a : (0 : Int32).toInt = 0 := by decide
        have b : (32 : Int32).toInt = 32 := by decide
        omega)
      obtain ⟨c, hc, rfl⟩ := nI_of h0
      refine ⟨c, Or.inr ⟨?_, ?_⟩, rfl⟩
      · exact Nat.le_of_not_lt fun z => h1 (nI_lt (b := 32) z (by decide))
      · exact Nat.le_of_not_lt fun z => h2 (nI_lt (a := 126) z hc)
theorem zCh_nar {c : Nat} (h : zCh c) : vp_nar .char (((nI c).toUInt32 % 65536).toInt32) = nI c := by
  have hd : ∀ c, c < 127 → vp_nar .char (((nI c).toUInt32 % 65536).toInt32) = nI c := by decide +kernel
  exact hd c (zCh_lt h)
theorem e_add_18 {v1 : Int32} {I : zI} : f_X9_add_18 v1 I = f_X9_add_23 v1 1 I := rfl
theorem e_add_is {x : Int32} {I : zI} (hx : x = 10 ∨ (¬ x < 32 ∧ ¬ 126 < x)) : f_X9_add x I = f_X9_add_23 x 1 I := by
  unfold f_X9_add f_X9_add_18
  rcases hx with rfl | ⟨h1, h2⟩
  · rw [if_pos rfl]
  · rw [if_neg h1, if_neg h2, ite_self]
theorem e_add_no {x : Int32} {I : zI} (hx : ¬ (x = 10 ∨ (¬ x < 32 ∧ ¬ 126 < x))) : f_X9_add x I = some (0, I) := by
  unfold f_X9_add f_X9_add_22 f_X9_add_23 f_X9_add_38
  rw [if_neg (fun z => hx (Or.inl z))]
  by_cases h1 : x < 32
  · rw [if_pos h1, if_pos rfl]
  · rw [if_neg h1]
    by_cases h2 : 126 < x
    · rw [if_pos h2, if_pos rfl]
    · exact absurd (Or.inr ⟨h1, h2⟩) hx
theorem e_add_ok {c n : Nat} {I : zI} (hc : zCh c) (hI : I 1 1 = nI n) (hn : n < 800) : f_X9_add (nI c) I = some (1, zu (zu I 2 n (nI c)) 1 1 (nI (n + 1))) := by
  rw [e_add_is (zCh_is.mp ⟨c, hc, rfl⟩)]
  unfold f_X9_add_23
  rw [if_neg (by decide), hI, if_pos (show nI n < 800 from nI_lt (b := 800) hn (by decide))]
  simp only [zlt]
  rw [zck_t _ (zbd_nI hn (by decide)), zCh_nar hc, nI_clamp (by omega), zu_p _ _ (by decide), hI, nI_1]
theorem e_add_full {c : Nat} {I : zI} (hc : zCh c) (hI : I 1 1 = nI 800) : f_X9_add (nI c) I = some (0, I) := by
  rw [e_add_is (zCh_is.mp ⟨c, hc, rfl⟩)]
  unfold f_X9_add_23 f_X9_add_38
  rw [if_neg (by decide), hI, if_neg (by decide)]
theorem e_ch_t {c : Nat} (hc : zCh c) : f_X12_isCharacter (nI c) = some 1 := by
  have hd : ∀ c, c < 127 → c = 10 ∨ 32 ≤ c → f_X12_isCharacter (nI c) = some 1 := by
    intro c h1 h2
    unfold f_X12_isCharacter f_X12_isCharacter_12 f_X12_isCharacter_18 f_X12_isCharacter_23
    rw [zck_t _ (by decide)]
    by_cases h : nI c < 32
    · rw [if_pos h]
      have : c < 32 := (nI_ltI (by omega) (by decide)).mp (show nI c < nI 32 from h)
      have : c = 10 := by omega
      subst this
      exact if_pos rfl
    · rw [if_neg h, if_pos (show nI c ≤ 126 from nI_le (b := 126) (by omega) (by decide))]
  exact hd c (zCh_lt hc) (by unfold zCh at hc; omega)
theorem e_ch_f {x : Int32} (hx : ¬ (x = 10 ∨ (¬ x < 32 ∧ ¬ 126 < x))) : f_X12_isCharacter x = some 0 := by
  unfold f_X12_isCharacter f_X12_isCharacter_12 f_X12_isCharacter_18 f_X12_isCharacter_23
  rw [zck_t _ (by decide), zck_t _ (by decide), if_neg (fun z => hx (Or.inl z))]
  by_cases h1 : x < 32
  · rw [if_pos h1]
  · rw [if_neg h1, if_neg]
    intro h2
    exact hx (Or.inr ⟨h1, Int32.not_lt.mpr h2⟩)
/-- both tapes take one more -/
theorem tape_add {I J : zI} {n c : Nat} (hc : zCh c) (hn : n < 800) (h : RTape I) (h1 : I 1 1 = nI n) (e1 : J 1 1 = nI (n + 1)) (e2 : J 97 29 = nI (n + 1)) (e3 : ∀ k, J 2 k = if k = n then nI c else I 2 k) (e4 : ∀ k, J 117 k = if k = n then nI c else I 117 k) : RTape J := by
  obtain ⟨m, a1, a2, a3, a4⟩ := h
  rw [a2] at h1
  have : m = n := (nI_eq (by omega) (by omega)).mp h1
  subst this
  refine ⟨m + 1, by omega, e1, e2, fun k hk => ?_⟩
  rw [e3, e4]
  by_cases hkm : k = m
  · subst hkm; exact ⟨c, hc, if_pos rfl, if_pos rfl⟩
  · rw [if_neg hkm, if_neg hkm]; exact a4 k (by omega)
theorem sx_unit : Sx_unit zInv := by
  rintro I L x ⟨P, Q, hp, h⟩
  obtain ⟨n, a1, a2, a3, a4⟩ := h.2.2.2.1
  simp only [f_X11_unit, f_X12_unit, f_X12_unit_22, zb2, zb1, zlt]
  by_cases hx : x = 10 ∨ (¬ x < 32 ∧ ¬ 126 < x)
  · obtain ⟨c, hc, rfl⟩ := zCh_is.mpr hx
    rcases Nat.lt_or_ge n 800 with hn | hn
    · rw [e_add_ok hc a2 hn]
      refine ⟨1, _, _, zck_t _ zbo_1, ?_, ⟨P, Q, hp, inv_tape hp h (J := zu (zu (zu (zu (zu I 2 n (nI c)) 1 1 (nI (n + 1))) 97 0 0) 117 n (nI c)) 97 29 (nI (n + 1))) ?_ ?_ (fun p _ => rfl) (tape_add hc hn h.2.2.2.1 a2 ?_ ?_ ?_ ?_)⟩⟩
      · rw [e_ch_t hc]
        have e : zu (zu (zu I 2 n (nI c)) 1 1 (nI (n + 1))) 97 0 0 97 29 = nI n := by simp [zu, a3]
        simp only [Option.bind_some]
        rw [if_neg (by decide), e, if_neg (fun z => by have := (nI_eq (a := n) (b := 800) (by omega) (by decide)).mp z; omega), zck_t _ (zbd_nI hn (by decide)), nI_clamp (by omega)]
        rw [zu_p _ _ (by decide), e, nI_1]
      · intro p b1 b2 b3 b4; funext k; simp [zu, b1, b2, b3, b4]
      · intro k b1 b2; simp [zu, b1, b2]
      · simp [zu]
      · simp [zu]
      · intro k; simp [zu]
      · intro k; simp [zu]
    · have : n = 800 := by omega
      subst this
      rw [e_add_full hc a2]
      refine ⟨0, I, zu I 97 0 0, zck_t _ zbo_0, ?_, ⟨P, Q, hp, inv_code hp h (fun p hp => by funext k; simp [zu, hp]) (fun k hk => by simp [zu, hk]) (fun p _ => rfl)⟩⟩
      rw [e_ch_t hc]
      have e : zu I 97 0 0 97 29 = 800 := by simp only [zu]; rw [if_neg (by decide), a3]; rfl
      simp only [Option.bind_some]
      rw [if_neg (by decide), if_pos e]
  · rw [e_add_no hx, e_ch_f hx]
    exact ⟨0, I, zu I 97 0 0, zck_t _ zbo_0, rfl, ⟨P, Q, hp, inv_code hp h (fun p hp => by funext k; simp [zu, hp]) (fun k hk => by simp [zu, hk]) (fun p _ => rfl)⟩⟩
