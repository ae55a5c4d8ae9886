/-! the reference's pins, all of a device -/
section Rq
variable {D : Nat → Nat → Nat} {d k pl : Nat}
theorem fm_169 {J0 : zI} (hv : DV D) (hN : RNo D J0) (hk : k < D 0 3) (hd : d < 300) (hpl : pl < 4096) : ∀ r i J f, i + r = D 9 k → r < f → (∀ p, p ≠ 127 → p ≠ 132 → J p = J0 p) → (∀ e, e ≠ d → J 127 e = J0 127 e) → ((J 127 d = 1 ∧ BdP D (PlSq D (D 8 k) pl) k (fun j => J0 128 (4 * d + j)) i (fun _ => False)) ∨ (J 127 d = 0 ∧ ¬ BdP D (PlSq D (D 8 k) pl) k (fun j => J0 128 (4 * d + j)) i (fun _ => False))) → ∃ J', zlp6 f_X12_findPins_169 f (nI d) (nI k) (nI pl) (nI (D 8 k)) (nI i) J = some J' ∧ (∀ p, p ≠ 127 → p ≠ 132 → J' p = J0 p) ∧ (∀ e, e ≠ d → J' 127 e = J0 127 e) ∧ ((J' 127 d = 1 ∧ BadS D (PlSq D (D 8 k) pl) k (fun j => J0 128 (4 * d + j))) ∨ (J' 127 d = 0 ∧ ¬ BadS D (PlSq D (D 8 k) pl) k (fun j => J0 128 (4 * d + j))))
  | _, _, _, 0, _, h, _, _, _ => absurd h (by omega)
  | 0, i, J, f + 1, hi, _, h1, h2, h3 => by
    have : i = D 9 k := by omega
    subst this
    have v4 := hv.1.2.2.2.1
    have e : BdP D (PlSq D (D 8 k) pl) k (fun j => J0 128 (4 * d + j)) (D 9 k) (fun _ => False) ↔ BadS D (PlSq D (D 8 k) pl) k (fun j => J0 128 (4 * d + j)) := by
      constructor
      · rintro (⟨j, a, b⟩ | ⟨j, a, x, b, c⟩ | ⟨x, a, _⟩)
        · exact ⟨j, a, Or.inl b⟩
        · exact ⟨j, a, Or.inr ⟨x, b, c⟩⟩
        · exact absurd a (fun h => h)
      · rintro ⟨j, a, b | ⟨x, b, c⟩⟩
        · exact Or.inl ⟨j, a, b⟩
        · exact Or.inr (Or.inl ⟨j, a, x, b, c⟩)
    rw [e] at h3
    refine ⟨J, ?_, h1, h2, h3⟩
    show f_X12_findPins_169 _ (nI d) (nI k) (nI pl) _ (nI (D 9 k)) J = _
    unfold f_X12_findPins_169
    rw [zck_t _ (zbd_nI (by omega) (by decide)), nI_clamp (n := k) (by omega), h1 115 (by decide) (by decide), (hN.1.2.2.2.2.2.1 k hk).2.1, if_pos (Int32.le_refl _)]
  | r + 1, i, J, f + 1, hi, hf, h1, h2, h3 => by
    have ih := fun J => fm_169 (J0 := J0) hv hN hk hd hpl r (i + 1) J f (by omega) (by omega)
    have e1 : zlp6 f_X12_findPins_169 (f + 1) (nI d) (nI k) (nI pl) (nI (D 8 k)) (nI i) J = f_X12_findPins_169 (zlp6 f_X12_findPins_169 f) (nI d) (nI k) (nI pl) (nI (D 8 k)) (nI i) J := rfl
    rw [e1]
    generalize zlp6 f_X12_findPins_169 f = k1 at ih ⊢
    have v4 := hv.1.2.2.2.1
    obtain ⟨z1, z2, z3, z4⟩ := hv.2.2.2.2.1 k hk
    obtain ⟨c1, c2, c3⟩ := hN.1.2.2.2.2.2.1 k hk
    have hw := z4 i (by omega)
    have hNJ : RNo D J := hN.cg (fun p _ _ => h1 p (by omega) (by omega)) (fun _ _ => by rw [h1 97 (by decide) (by decide)])
    obtain ⟨J8, a1, a2, a3⟩ := m_touch (J := J) (w := D 10 (4 * k + i)) (l := D 8 k) (pl := pl) hv hNJ hw z1 hpl
    have hN8 : RNo D J8 := hNJ.cg (fun p _ _ => a3 p (by omega)) (fun _ _ => by rw [a3 97 (by decide)])
    have e128 : J8 128 = J0 128 := by rw [a3 128 (by decide), h1 128 (by decide) (by decide)]
    have lo : BdP D (PlSq D (D 8 k) pl) k (fun j => J0 128 (4 * d + j)) i (fun _ => False) ↔ BdP D (PlSq D (D 8 k) pl) k (fun j => J0 128 (4 * d + j)) i (fun x => tch D (PlSq D (D 8 k) pl) (D 10 (4 * k + i)) x ∧ x < fw D (D 10 (4 * k + i)) + 0) := BdP_cg (or_congr Iff.rfl ⟨fun ⟨x, h, _⟩ => absurd h (fun h => h), fun ⟨x, ⟨h, h'⟩, _⟩ => by
      obtain ⟨y, y1, rfl, _⟩ := (tch_tS hv hw).mp h
      omega⟩)
    have hi' : BdP D (PlSq D (D 8 k) pl) k (fun j => J0 128 (4 * d + j)) i (tch D (PlSq D (D 8 k) pl) (D 10 (4 * k + i))) ↔ BdP D (PlSq D (D 8 k) pl) k (fun j => J0 128 (4 * d + j)) (i + 1) (fun _ => False) := BdP_cg (by
      constructor
      · rintro (⟨j, a, x⟩ | ⟨x, a, b⟩)
        · exact Or.inl ⟨j, by omega, x⟩
        · exact Or.inl ⟨i, by omega, x, a, b⟩
      · rintro (⟨j, a, x⟩ | ⟨x, a, b⟩)
        · by_cases z : j = i
          · subst z; exact Or.inr x
          · exact Or.inl ⟨j, by omega, x⟩
        · exact absurd a (fun h => h))
    rw [lo] at h3
    obtain ⟨J', b1, b2, b3, b4⟩ := fm_205 (k169 := k1) (d := d) (k := k) (pl := pl) (l := D 8 k) (i := i) (w := D 10 (4 * k + i)) (A := PlSq D (D 8 k) pl) (J0 := J8) hv hN8 hk hw hd a2 (shk D (D 4 (D 10 (4 * k + i)))) 0 J8 zF (by omega) (zF_lt (by have := shk_le D (D 4 (D 10 (4 * k + i))); omega)) (fun _ _ => rfl) (fun _ _ => rfl) (by rw [a3 127 (by decide), e128]; exact h3)
    rw [e128, hi'] at b4
    have b1 : zlp8 (f_X12_findPins_205 k1) zF (nI d) (nI k) (nI pl) (nI (D 8 k)) (nI i) (nI (D 10 (4 * k + i))) 0 J8 = _ := b1
    unfold f_X12_findPins_169
    rw [zck_t _ (zbd_nI (by omega) (by decide)), nI_clamp (n := k) (by omega), h1 115 (by decide) (by decide), c2, if_neg (nI_ge (by omega) (by omega)), show (4 : Int32) = nI 4 from rfl, pk_mul, nI_add, zlt_b, zck_t _ (zbd_nI (by omega) (by decide)), nI_clamp (n := 4 * k + i) (by omega), h1 116 (by decide) (by decide), c3 i (by omega), zlt_b, a1, zb1_b, b1]
    exact ih J' (fun p x y => by rw [b2 p x, a3 p y, h1 p x y]) (fun e he => by rw [b3 e he, a3 127 (by decide), h2 e he]) b4
theorem fm_11 {J0 : zI} (hv : DV D) (hN : RNo D J0) (hk : k < D 0 3) (hd : d < 300) (hpl : pl < 4096) : ∀ r i J f, i + r = D 9 k → r < f → FQ d J0 J → (∀ j, j < i → lFr (tch D (PlSq D (D 8 k) pl) (D 10 (4 * k + j))) (fun j => J 128 (4 * d + j)) j (J 128 (4 * d + j))) → ((J 127 d = 1 ∧ ∃ j, j < i ∧ J 128 (4 * d + j) = -1) ∨ (J 127 d = 0 ∧ ∀ j, j < i → J 128 (4 * d + j) ≠ -1)) → ∃ J', zlp6 f_X12_findPins_11 f (nI d) (nI k) (nI pl) (nI (D 8 k)) (nI i) J = some J' ∧ FQ d J0 J' ∧ PinS D (PlSq D (D 8 k) pl) k (fun j => J' 128 (4 * d + j)) ∧ ((J' 127 d = 1 ∧ BadS D (PlSq D (D 8 k) pl) k (fun j => J' 128 (4 * d + j))) ∨ (J' 127 d = 0 ∧ ¬ BadS D (PlSq D (D 8 k) pl) k (fun j => J' 128 (4 * d + j))))
  | _, _, _, 0, _, h, _, _, _ => absurd h (by omega)
  | 0, i, J, f + 1, hi, _, hF, hp, hb => by
    have : i = D 9 k := by omega
    subst this
    have v4 := hv.1.2.2.2.1
    have hNJ : RNo D J := hN.cg (fun p _ _ => hF.1 p (by omega) (by omega) (by omega)) (fun _ _ => by rw [hF.1 97 (by decide) (by decide) (by decide)])
    have e : (∃ j, j < D 9 k ∧ J 128 (4 * d + j) = -1) ↔ BdP D (PlSq D (D 8 k) pl) k (fun j => J 128 (4 * d + j)) 0 (fun _ => False) := by
      constructor
      · exact fun h => Or.inl h
      · rintro (h | ⟨j, a, _⟩ | ⟨x, a, _⟩)
        · exact h
        · exact absurd a (by omega)
        · exact absurd a (fun h => h)
    obtain ⟨J', a1, a2, a3, a4⟩ := fm_169 (J0 := J) hv hNJ hk hd hpl (D 9 k) 0 J zF (by omega) (zF_lt (by have := (hv.2.2.2.2.1 k hk).2.2.1; omega)) (fun _ _ _ => rfl) (fun _ _ => rfl) (by
      rw [← e]
      exact hb.imp id (fun ⟨x, y⟩ => ⟨x, fun ⟨j, a, b⟩ => y j a b⟩))
    have e128 : J' 128 = J 128 := a2 128 (by decide) (by decide)
    refine ⟨J', ?_, ⟨fun p x y z => by rw [a2 p x z, hF.1 p x y z], fun e he => by rw [a3 e he, hF.2.1 e he], fun i hi => by rw [e128]; exact hF.2.2 i hi⟩, by rw [e128]; exact hp, by rw [e128]; exact a4⟩
    show f_X12_findPins_11 _ (nI d) (nI k) (nI pl) _ (nI (D 9 k)) J = _
    unfold f_X12_findPins_11
    rw [zck_t _ (zbd_nI (by omega) (by decide)), nI_clamp (n := k) (by omega), (hNJ.1.2.2.2.2.2.1 k hk).2.1, if_pos (Int32.le_refl _)]
    exact a1
  | r + 1, i, J, f + 1, hi, hf, hF, hp, hb => by
    have ih := fun J => fm_11 (J0 := J0) hv hN hk hd hpl r (i + 1) J f (by omega) (by omega)
    have e1 : zlp6 f_X12_findPins_11 (f + 1) (nI d) (nI k) (nI pl) (nI (D 8 k)) (nI i) J = f_X12_findPins_11 (zlp6 f_X12_findPins_11 f) (nI d) (nI k) (nI pl) (nI (D 8 k)) (nI i) J := rfl
    rw [e1]
    generalize zlp6 f_X12_findPins_11 f = k1 at ih ⊢
    have v4 := hv.1.2.2.2.1
    have v2 := hv.1.2.1
    have v1 := hv.1.1
    obtain ⟨z1, z2, z3, z4⟩ := hv.2.2.2.2.1 k hk
    have hw := z4 i (by omega)
    have w3 := hv.2.2.1 _ hw
    have hNJ : RNo D J := hN.cg (fun p _ _ => hF.1 p (by omega) (by omega) (by omega)) (fun _ _ => by rw [hF.1 97 (by decide) (by decide) (by decide)])
    obtain ⟨c1, c2, c3⟩ := hNJ.1.2.2.2.2.2.1 k hk
    obtain ⟨J8, a1, a2, a3⟩ := m_touch (J := J) (w := D 10 (4 * k + i)) (l := D 8 k) (pl := pl) hv hNJ hw z1 hpl
    have hN8 : RNo D J8 := hNJ.cg (fun p _ _ => a3 p (by omega)) (fun _ _ => by rw [a3 97 (by decide)])
    have e128 : J8 128 = J 128 := a3 128 (by decide)
    have e127 : J8 127 = J 127 := a3 127 (by decide)
    obtain ⟨v, fl, b1, b2, b3⟩ := fm_63 (k11 := k1) (d := d) (k := k) (pl := pl) (l := D 8 k) (i := i) (w := D 10 (4 * k + i)) (A := PlSq D (D 8 k) pl) (J := J8) hv hN8 hw hd (by omega) (by rw [e127]; rcases hb with ⟨h, _⟩ | ⟨h, _⟩ <;> simp [h]) a2 (shk D (D 4 (D 10 (4 * k + i)))) (-1) zF (Nat.le_refl _) (zF_lt (by have := shk_le D (D 4 (D 10 (4 * k + i))); omega)) (Or.inl ⟨rfl, fun x ⟨h, h'⟩ => by
      obtain ⟨y, y1, rfl, _⟩ := (tch_tS hv hw).mp h
      omega⟩)
    unfold f_X12_findPins_11
    rw [zck_t _ (zbd_nI (by omega) (by decide)), nI_clamp (n := k) (by omega), c2, if_neg (nI_ge (by omega) (by omega)), show (4 : Int32) = nI 4 from rfl, pk_mul, nI_add, zlt_b, zck_t _ (zbd_nI (by omega) (by decide)), nI_clamp (n := 4 * k + i) (by omega), c3 i (by omega), zlt_b, a1, zb1_b, zck_t _ (zbd_nI (by omega) (by decide)), nI_clamp (n := D 10 (4 * k + i)) (by omega), hN8.1.2.2.2.1 _ hw, zlt_b, zck_t _ (zbd_nI (by omega) (by decide)), nI_clamp (n := D 4 (D 10 (4 * k + i))) (by omega), (hN8.2.1 _ w3).1, zlt_b, b1]
    rw [e128] at b2
    rw [e127] at b3
    have q128 : ∀ j, j ≠ 4 * d + i → zu (zu J8 128 (4 * d + i) v) 127 d fl 128 j = J 128 j := fun j hj => by rw [zu_p _ _ (by decide), zu_k _ _ hj, e128]
    have q128i : zu (zu J8 128 (4 * d + i) v) 127 d fl 128 (4 * d + i) = v := by rw [zu_p _ _ (by decide), zu_eq]
    refine ih _ ⟨fun p x y z => by rw [zu_pf _ _ x, zu_pf _ _ y, a3 p z, hF.1 p x y z], fun e he => by rw [zu_k _ _ he, zu_p _ _ (by decide), e127, hF.2.1 e he], fun j hj => by rw [q128 j (by omega)]; exact hF.2.2 j hj⟩ (fun j hj => ?_) ?_
    · by_cases y : j = i
      · subst y
        rw [q128i]
        exact LF_cg b2 (fun _ => Iff.rfl) (fun j' hj' => q128 _ (by omega))
      · rw [q128 _ (by omega)]
        exact LF_cg (hp j (by omega)) (fun _ => Iff.rfl) (fun j' hj' => q128 _ (by omega))
    · rw [zu_eq]
      rcases b3 with ⟨h1, h2⟩ | ⟨h1, h2, h3⟩
      · refine Or.inl ⟨h1, ?_⟩
        rcases h2 with h2 | h2
        · rcases hb with ⟨_, j, j1, j2⟩ | ⟨hb, _⟩
          · exact ⟨j, by omega, by rw [q128 _ (by omega)]; exact j2⟩
          · rw [hb] at h2; exact absurd h2 (by decide)
        · exact ⟨i, by omega, by rw [q128i]; exact h2⟩
      · refine Or.inr ⟨h1, fun j hj => ?_⟩
        rcases hb with ⟨hb, _⟩ | ⟨_, hb⟩
        · rw [hb] at h2; exact absurd h2 (by decide)
        · by_cases y : j = i
          · subst y; rw [q128i]; exact h3
          · rw [q128 _ (by omega)]; exact hb j (by omega)
theorem m_findPins {J : zI} (hv : DV D) (hN : RNo D J) (hk : k < D 0 3) (hd : d < 300) (hpl : pl < 4096) (h0 : J 127 d = 0) : ∃ J', f_X12_findPins (nI d) (nI k) (nI pl) J = some J' ∧ FQ d J J' ∧ PinS D (PlSq D (D 8 k) pl) k (fun j => J' 128 (4 * d + j)) ∧ ((J' 127 d = 1 ∧ BadS D (PlSq D (D 8 k) pl) k (fun j => J' 128 (4 * d + j))) ∨ (J' 127 d = 0 ∧ ¬ BadS D (PlSq D (D 8 k) pl) k (fun j => J' 128 (4 * d + j)))) := by
  have v4 := hv.1.2.2.2.1
  unfold f_X12_findPins
  rw [zck_t _ (zbd_nI (by omega) (by decide)), nI_clamp (n := k) (by omega), (hN.1.2.2.2.2.2.1 k hk).1, zlt_b]
  exact fm_11 (J0 := J) hv hN hk hd hpl (D 9 k) 0 J zF (by omega) (zF_lt (by have := (hv.2.2.2.2.1 k hk).2.2.1; omega)) (FQ.refl d J) (fun j h => absurd h (by omega)) (Or.inr ⟨h0, fun j h => absurd h (by omega)⟩)
end Rq
