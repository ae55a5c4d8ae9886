/-! named -/
theorem e_named_29 {v1 w1 : Int32} {I : zI} (h : ¬ w1 ≤ 0) : f_X12_named_29 v1 w1 I = some (0, zu I 97 0 w1) := by
  unfold f_X12_named_29 f_X12_named_49
  simp only [zlt]
  rw [zu_eq, if_neg h]
/-- what named and twice need of the found -/
theorem z_tx {P Q : Nat} {I : zI} {L : zL} (h : zInvP P Q I L) (hf : RFound P I L) : ∃ n nw nl nd nn, n ≤ 40 ∧ nw ≤ 8 ∧ nl ≤ 24 ∧ nd ≤ 16384 ∧ nn ≤ 16384 ∧ I 61 1 = nI nn ∧ I 97 38 = nI nn ∧ I 26 0 = nI n ∧ I 97 7 = nI n ∧ I 97 13 = nI nw ∧ (∀ w, w < nw → ∃ l, l < nl ∧ I 109 w = nI l) ∧ zTx I (zu I 97 0 0) n nw ∧ (∀ w q, w < nw → q < 4096 → zNode I w q = -1 ∨ ∃ m, m < nd ∧ zNode I w q = nI m) ∧ (∀ t, t < n → I 30 t = -1 ∨ ∃ m, m < nn ∧ I 30 t = nI m) ∧ (∀ t, t < n → ∃ m, m < 2 ^ 31 ∧ I 29 t = nI m) := by
  obtain ⟨n, a1, a2, a3, a4⟩ := h.2.2.2.2.2.1
  obtain ⟨D, nn, nd, nw, nk, hD, hnn, hnd, hnw, hnk, d1, d2, d3, d4, p13, p15, hd, -, hm, hno, htx⟩ := hf
  obtain ⟨nl, nw', hl24, hw8, w1, w2, -, hwl, -⟩ := zkin h.2.2.2.2.2.2.1 p15 hnk
  have : nw' = nw := by rw [w1] at p13; exact (nI_eq (by omega) (by omega)).mp p13
  subst this
  have tx : ∀ t, t < n → ∃ w q, q < 4096 ∧ w < 8 ∧ I 102 t = nI w ∧ I 103 t = nI q ∧ ((w < nw' ∧ I 30 t = zNet I (zNode I w q)) ∨ (¬ w < nw' ∧ I 30 t = -1)) := by
    intro t ht
    obtain ⟨⟨w, b1, b2, b3⟩, ⟨q, c1, c2, c3⟩, -⟩ := a4 t ht
    have := htx t w q (by rw [a2]; exact nI_lt ht (by omega)) (by omega) b2 b1 c2 c1
    refine ⟨w, q, c1, b1, b3, c3, ?_⟩
    by_cases hw : w < nw'
    · rw [if_pos hw] at this; exact Or.inl ⟨hw, this⟩
    · rw [if_neg hw] at this; exact Or.inr ⟨hw, this⟩
  refine ⟨n, nw', nl, nd, nn, a1, hnw, hl24, hnd, hnn, d3, d4, a2, a3, w2, fun w hw => ?_, ?_, fun w q hw hq => (hno w q hw hq).2, ?_, fun t ht => ?_⟩
  · obtain ⟨l, l1, -, l2⟩ := hwl w hw; exact ⟨l, l1, l2⟩
  · intro t ht
    obtain ⟨w, q, b1, b2, b3, b4, b5⟩ := tx t ht
    obtain ⟨-, -, ⟨m, m1, m2, m3⟩⟩ := a4 t ht
    refine ⟨by rw [zu_p _ _ (by decide), m2, m3], w, q, b1, by rw [zu_p _ _ (by decide), b3], b2, by rw [zu_p _ _ (by decide), b4], ?_⟩
    rw [zNode_z, zNet_z]; exact b5
  · intro t ht
    obtain ⟨w, q, b1, b2, b3, b4, ⟨b5, b6⟩ | ⟨-, b6⟩⟩ := tx t ht
    · rw [b6]
      rcases (hno w q b5 b1).2 with e | ⟨m, m1, e⟩
      · left; rw [e]; rfl
      · right
        obtain ⟨u, u1, -, u2⟩ := hm m m1
        exact ⟨u, u1, by rw [e]; unfold zNet; rw [if_neg (nI_m1 (by omega)), nI_clamp (by omega), u2]⟩
    · exact Or.inl b6
  · obtain ⟨-, -, ⟨m, m1, m2, m3⟩⟩ := a4 t ht
    exact ⟨m, m1, m2⟩
theorem sx_named : Sx_named zInv := by
  rintro I L x ⟨P, Q, hp, h⟩
  rcases zf_cases h with ⟨f1, f2⟩ | ⟨f1, f2, hf⟩
  · refine qx_t hp h 1 0 n10 ?_ ?_
    · simp only [w_named, f_X11_named, f1, e_true_0, zb1, zsm, Option.bind_some, if_true]
    · unfold f_X12_named; rw [if_pos f2, e_named_29 zi_01]
  · obtain ⟨n, nw, nl, nd, nn, b1, b2, b3, b4, b5, b6, b7, b8, b9, b10, b11, b12, b13, b14, b15⟩ := z_tx h hf
    by_cases hx : x < 0 ∨ nI nn ≤ x
    · refine qx_t hp h 2 0 n20 ?_ ?_
      · simp only [w_named, f_X11_named, f1, e_true_1, b6, e_below_f hx, zb1, zsm, Option.bind_some]
        rfl
      · unfold f_X12_named f_X12_named_24; rw [if_neg f2, b7, e_named_29 zi_02]
        rcases hx with hx | hx
        · rw [if_pos hx]
        · rw [if_neg (Int32.not_lt.mpr hx), ite_self]
    · obtain ⟨m, hm, rfl⟩ : ∃ i, i < nn ∧ x = nI i := by
        rcases pk_ix x (n := nn) (by omega) with q | q | q
        · exact absurd (Or.inl q) hx
        · exact absurd (Or.inr q) hx
        · exact q
      have e1 : f_X4_leastName (nI m) I = some (nmF I (nI m) False n 0 (-1)) := c_least (a := nI m) b1 b8 n 0 (-1) zF (by omega) (zF_lt (by omega))
      have e2 : f_X12_nameOf (nI m) 0 (zu I 97 0 0) = some (nmF I (nI m) False n 0 (-1)) := m_name (b := 0) (by simp) (nI_m1 (by omega)) b1 b2 b3 b4 (by rw [zu_k _ _ (by decide)]; exact b9) (by rw [zu_k _ _ (by decide)]; exact b10) (by rw [zu_pf _ _ (by decide)]; exact b11) b12 (fun w q hw hq => by rw [zNode_z]; exact b13 w q hw hq) n 0 (-1) zF (by omega) (zF_lt (by omega))
      refine qx_o hp h (nmF I (nI m) False n 0 (-1)) ?_ ?_
      · simp only [w_named, f_X11_named, f1, e_true_1, b6, e_below_t hm (show nn < 2 ^ 31 by omega), zb1, zsm, Option.bind_some, e1]
      · unfold f_X12_named; rw [if_neg f2, b7, if_neg (nI_pos (by omega)), if_pos (nI_lt hm (by omega))]
        unfold f_X12_named_29 f_X12_named_49
        simp only [zlt]
        rw [zu_eq, if_pos (by decide), e2]
        rfl
