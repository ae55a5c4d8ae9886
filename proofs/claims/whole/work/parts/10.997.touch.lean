/-! the reference's touched nodes -/
def tgt (c : Nat) : Nat := if c % 5 = 0 then c / 5 else bsd (c / 5) (c % 5 - 1)
theorem tgt_0 (s : Nat) : tgt (5 * s) = s := by unfold tgt; rw [if_pos (by omega)]; omega
theorem tgt_1 {s k : Nat} (h : k < 4) : tgt (5 * s + 1 + k) = bsd s k := by
  unfold tgt
  rw [if_neg (by omega), show (5 * s + 1 + k) / 5 = s by omega, show (5 * s + 1 + k) % 5 - 1 = k by omega]
def mks (D : Nat → Nat → Nat) (A : Nat → Prop) (lw c x : Nat) : Prop := A (c / 5) ∧ SqS D lw (tgt c) ∧ shf D lw (tgt c) = x
def TI (D : Nat → Nat → Nat) (A : Nat → Prop) (lw : Nat) (J0 : zI) (c : Nat) (J : zI) : Prop := (∀ x, x < shk D lw → (J 132 x = 1 ∧ ∃ c', c' < c ∧ mks D A lw c' x) ∨ (J 132 x = 0 ∧ ¬ ∃ c', c' < c ∧ mks D A lw c' x)) ∧ ∀ p, p ≠ 132 → J p = J0 p
def tS (D : Nat → Nat → Nat) (A : Nat → Prop) (lw x : Nat) : Prop := ∃ b, b < 4096 ∧ Hal A b ∧ SqS D lw b ∧ shf D lw b = x
theorem bsd_back {s w t : Nat} (hs : s < 4096) (hw : w < 4) (h : bsd s w = t) (ht : t < 4096) : ∃ w', w' < 4 ∧ bsd t w' = s := by
  have := bsd_adj hs hw (by omega)
  rw [h] at this
  exact bsd_all this.1 hs (adjS_s this.2)
section To
variable {D : Nat → Nat → Nat} {A : Nat → Prop} {lw : Nat} {J0 : zI}
theorem mks_tS (hA : ∀ q, A q → q < 4096) (x : Nat) : (∃ c', c' < 20480 ∧ mks D A lw c' x) ↔ tS D A lw x := by
  constructor
  · rintro ⟨c, c1, c2, c3, c4⟩
    have h4 := c3.1
    refine ⟨tgt c, h4, ?_, c3, c4⟩
    unfold tgt at *
    by_cases z : c % 5 = 0
    · rw [if_pos z]; exact Or.inl c2
    · rw [if_neg z] at h4 ⊢
      obtain ⟨w', w1, w2⟩ := bsd_back (hA _ c2) (show c % 5 - 1 < 4 by omega) rfl h4
      exact Or.inr ⟨w', w1, by rw [w2]; exact c2⟩
  · rintro ⟨b, b1, b2, b3, b4⟩
    rcases b2 with h | ⟨w, w1, w2⟩
    · refine ⟨5 * b, by omega, by rw [show 5 * b / 5 = b by omega]; exact h, by rw [tgt_0]; exact b3, by rw [tgt_0]; exact b4⟩
    · have h4 := hA _ w2
      obtain ⟨w', x1, x2⟩ := bsd_back b1 w1 rfl h4
      refine ⟨5 * bsd b w + 1 + w', by omega, by rw [show (5 * bsd b w + 1 + w') / 5 = bsd b w by omega]; exact w2, by rw [tgt_1 x1, x2]; exact b3, by rw [tgt_1 x1, x2]; exact b4⟩
theorem TI_no {c : Nat} {J : zI} (h : TI D A lw J0 c J) (hn : ∀ x, ¬ mks D A lw c x) : TI D A lw J0 (c + 1) J := by
  refine ⟨fun x hx => ?_, h.2⟩
  have e : (∃ c', c' < c + 1 ∧ mks D A lw c' x) ↔ ∃ c', c' < c ∧ mks D A lw c' x := ⟨fun ⟨c', a, b⟩ => ⟨c', by
    by_cases z : c' = c
    · subst z; exact absurd b (hn x)
    · omega, b⟩, fun ⟨c', a, b⟩ => ⟨c', by omega, b⟩⟩
  rw [e]; exact h.1 x hx
theorem TI_yes {c x0 : Nat} {J : zI} (h : TI D A lw J0 c J) (hn : mks D A lw c x0) : TI D A lw J0 (c + 1) (zu J 132 x0 1) := by
  refine ⟨fun x hx => ?_, fun p hp => by rw [zu_pf _ _ hp]; exact h.2 p hp⟩
  by_cases z : x = x0
  · subst z
    rw [zu_eq]; exact Or.inl ⟨rfl, c, by omega, hn⟩
  · rw [zu_k _ _ z]
    have e : (∃ c', c' < c + 1 ∧ mks D A lw c' x) ↔ ∃ c', c' < c ∧ mks D A lw c' x := ⟨fun ⟨c', a, b⟩ => ⟨c', by
      by_cases y : c' = c
      · subst y
        exact absurd (b.2.2.symm.trans hn.2.2) z
      · omega, b⟩, fun ⟨c', a, b⟩ => ⟨c', by omega, b⟩⟩
    rw [e]; exact h.1 x hx
theorem to_109 {k48 : Int32 → Int32 → Int32 → Int32 → zI → Option zI} {v2 v3 : Int32} {s : Nat} (hl : lw < 24) (hL : ∀ q, q < 4096 → J0 119 (4096 * lw + q) = shi D lw q) (hs : s < 4096) (hA : A s) : ∀ r k J f, k + r = 4 → r < f → TI D A lw J0 (5 * s + 1 + k) J → ∃ J', zlp6 (f_X12_touch_109 k48) f v2 v3 (nI (4096 * lw)) (nI s) (nI k) J = k48 v2 v3 (nI (4096 * lw)) (nI (s + 1)) J' ∧ TI D A lw J0 (5 * (s + 1)) J'
  | _, _, _, 0, _, h, _ => absurd h (by omega)
  | 0, k, J, f + 1, hk, _, hT => by
    refine ⟨J, ?_, by rw [show 5 * (s + 1) = 5 * s + 1 + k by omega]; exact hT⟩
    show f_X12_touch_109 k48 _ v2 v3 _ (nI s) (nI k) J = _
    unfold f_X12_touch_109 f_X12_touch_166
    rw [if_pos (show (4 : Int32) ≤ nI k from nI_le (a := 4) (by omega) (by omega)), zlt_b, nI_1]
  | r + 1, k, J, f + 1, hk, hf, hT => by
    have ih := fun J => to_109 (k48 := k48) (v2 := v2) (v3 := v3) hl hL hs hA r (k + 1) J f (by omega) (by omega)
    have e1 : zlp6 (f_X12_touch_109 k48) (f + 1) v2 v3 (nI (4096 * lw)) (nI s) (nI k) J = f_X12_touch_109 k48 (zlp6 (f_X12_touch_109 k48) f) v2 v3 (nI (4096 * lw)) (nI s) (nI k) J := rfl
    rw [e1]
    generalize zlp6 (f_X12_touch_109 k48) f = k1 at ih ⊢
    have et := tgt_1 (s := s) (show k < 4 by omega)
    have ed : (5 * s + 1 + k) / 5 = s := by omega
    unfold f_X12_touch_109 f_X12_touch_160
    rw [if_neg (show ¬ (4 : Int32) ≤ nI k from nI_ge (b := 4) (by omega) (by decide)), e_beside hs (by omega), zb1_b, zlt_b, nI_1]
    by_cases z : bsd s k = 4096
    · rw [if_pos z, if_pos rfl]
      exact ih J (TI_no (c := 5 * s + 1 + k) hT (fun x h => by
        have := h.2.1.1
        rw [et, z] at this; omega))
    · obtain ⟨b1, b2⟩ := bsd_adj hs (show k < 4 by omega) z
      rw [if_neg z, if_neg (nI_m1 (by omega)), nI_add, zlt_b, zck_t _ (zbd_nI (by omega) (by decide)), nI_clamp (n := 4096 * lw + bsd s k) (by omega), hT.2 119 (by decide), hL _ b1]
      by_cases y : SqS D lw (bsd s k)
      · have sl := shf_lt y
        rw [shi_t y, if_neg (nI_m1 (by omega)), zlt_b, zck_t _ (zbd_nI (by omega) (by decide)), nI_clamp (n := 4096 * lw + bsd s k) (by omega), hL _ b1, shi_t y, zck_t _ (zbd_nI (by omega) (by decide)), nI_clamp (n := shf D lw (bsd s k)) (by omega), zlt_b]
        exact ih _ (TI_yes (c := 5 * s + 1 + k) hT ⟨by rw [ed]; exact hA, by rw [et]; exact y, by rw [et]⟩)
      · rw [shi_f y, if_pos rfl]
        exact ih J (TI_no (c := 5 * s + 1 + k) hT (fun x h => by
          have := h.2.1
          rw [et] at this; exact y this))
theorem to_48 {l pl : Nat} (hl : lw < 24) (hll : l < 24) (hpl : pl < 4096) (hL : ∀ q, q < 4096 → J0 119 (4096 * lw + q) = shi D lw q) (hL2 : ∀ q, q < 4096 → J0 119 (4096 * l + q) = shi D l q) (hA : A = PlSq D l pl) : ∀ r s J f, s + r = 4096 → r < f → TI D A lw J0 (5 * s) J → ∃ J', zlp5 f_X12_touch_48 f (nI l) (nI pl) (nI (4096 * lw)) (nI s) J = some J' ∧ TI D A lw J0 20480 J'
  | _, _, _, 0, _, h, _ => absurd h (by omega)
  | 0, s, J, f + 1, hs, _, hT => by
    refine ⟨J, ?_, by rw [show 20480 = 5 * s by omega]; exact hT⟩
    show f_X12_touch_48 _ _ _ _ (nI s) J = _
    unfold f_X12_touch_48
    rw [if_pos (show (4096 : Int32) ≤ nI s from nI_le (a := 4096) (by omega) (by omega))]
  | r + 1, s, J, f + 1, hs, hf, hT => by
    have ih := fun J => to_48 hl hll hpl hL hL2 hA r (s + 1) J f (by omega) (by omega)
    have e1 : zlp5 f_X12_touch_48 (f + 1) (nI l) (nI pl) (nI (4096 * lw)) (nI s) J = f_X12_touch_48 (zlp5 f_X12_touch_48 f) (nI l) (nI pl) (nI (4096 * lw)) (nI s) J := rfl
    rw [e1]
    generalize zlp5 f_X12_touch_48 f = k1 at ih ⊢
    unfold f_X12_touch_48 f_X12_touch_166 f_X12_touch_106
    rw [if_neg (show ¬ (4096 : Int32) ≤ nI s from nI_ge (b := 4096) (by omega) (by decide)), show (4096 : Int32) = nI 4096 from rfl, pk_mul, nI_add, zlt_b, zck_t _ (zbd_nI (by omega) (by decide)), nI_clamp (n := 4096 * l + s) (by omega), hT.2 119 (by decide), hL2 s (by omega)]
    by_cases z : PlSq D l pl s
    · have eq : shi D l s = nI pl := by rw [shi_t z.1, z.2]
      rw [if_pos eq, nI_add, zlt_b, zck_t _ (zbd_nI (by omega) (by decide)), nI_clamp (n := 4096 * lw + s) (by omega), hL s (by omega)]
      have zA : A s := by rw [hA]; exact z
      by_cases y : SqS D lw s
      · have sl := shf_lt y
        rw [shi_t y, if_neg (nI_m1 (by omega)), zlt_b, zck_t _ (zbd_nI (by omega) (by decide)), nI_clamp (n := 4096 * lw + s) (by omega), hL s (by omega), shi_t y, zck_t _ (zbd_nI (by omega) (by decide)), nI_clamp (n := shf D lw s) (by omega), zlt_b]
        obtain ⟨J', a1, a2⟩ := to_109 (k48 := k1) (v2 := nI l) (v3 := nI pl) (A := A) hl hL (show s < 4096 by omega) zA 4 0 (zu J 132 (shf D lw s) (vp_nar .boolean 1)) zF (by omega) (zF_lt (by omega)) (TI_yes hT ⟨by rw [show 5 * s / 5 = s by omega]; exact zA, by rw [tgt_0]; exact y, by rw [tgt_0]⟩)
        have a1 : zlp6 (f_X12_touch_109 k1) zF (nI l) (nI pl) (nI (4096 * lw)) (nI s) 0 (zu J 132 (shf D lw s) (vp_nar .boolean 1)) = _ := a1
        rw [a1]; exact ih J' a2
      · rw [shi_f y, if_pos rfl]
        obtain ⟨J', a1, a2⟩ := to_109 (k48 := k1) (v2 := nI l) (v3 := nI pl) (A := A) hl hL (show s < 4096 by omega) zA 4 0 J zF (by omega) (zF_lt (by omega)) (TI_no hT (fun x h => by
          have := h.2.1
          rw [tgt_0] at this; exact y this))
        have a1 : zlp6 (f_X12_touch_109 k1) zF (nI l) (nI pl) (nI (4096 * lw)) (nI s) 0 J = _ := a1
        rw [a1]; exact ih J' a2
    · have ne : ¬ shi D l s = nI pl := fun w => z (by
        by_cases y : SqS D l s
        · rw [shi_t y] at w
          exact ⟨y, (nI_eq (by have := shf_lt y; omega) (by omega)).mp w⟩
        · rw [shi_f y] at w; exact absurd w.symm (nI_m1 (by omega)))
      rw [if_neg ne, zlt_b, nI_1]
      refine ih J ?_
      have nA : ¬ A s := by rw [hA]; exact z
      have no : ∀ i, i < 5 → ∀ x, ¬ mks D A lw (5 * s + i) x := fun i hi x h => by
        have := h.1
        rw [show (5 * s + i) / 5 = s by omega] at this; exact nA this
      have t1 := TI_no hT (no 0 (by omega))
      have t2 := TI_no t1 (no 1 (by omega))
      have t3 := TI_no t2 (no 2 (by omega))
      have t4 := TI_no t3 (no 3 (by omega))
      exact TI_no t4 (no 4 (by omega))
theorem to_15 {w l pl : Nat} (hv : DV D) (hN : RNo D J0) (hw : w < D 0 1) (hll : l < D 0 0) (hpl : pl < 4096) (hA : A = PlSq D l pl) : ∀ r x J f, x + r = shk D (D 4 w) → r < f → (∀ y, y < x → J 132 y = 0) → (∀ p, p ≠ 132 → J p = J0 p) → ∃ J', zlp6 f_X12_touch_15 f (nI w) (nI l) (nI pl) (nI (4096 * D 4 w)) (nI x) J = some J' ∧ TI D A (D 4 w) J0 20480 J'
  | _, _, _, 0, _, h, _, _ => absurd h (by omega)
  | 0, x, J, f + 1, hx, _, h1, h2 => by
    have : x = shk D (D 4 w) := by omega
    subst this
    have v2 := hv.1.2.1
    have v1 := hv.1.1
    have w3 := hv.2.2.1 w hw
    obtain ⟨J', a1, a2⟩ := to_48 (A := A) (J0 := J0) (l := l) (pl := pl) (show D 4 w < 24 by omega) (by omega) hpl (hN.2.1 _ w3).2 (hN.2.1 _ hll).2 hA 4096 0 J zF (by omega) (zF_lt (by omega)) ⟨fun y hy => Or.inr ⟨h1 y hy, fun ⟨c', a, _⟩ => absurd a (by omega)⟩, h2⟩
    refine ⟨J', ?_, a2⟩
    show f_X12_touch_15 _ (nI w) _ _ _ (nI _) J = _
    unfold f_X12_touch_15
    rw [zck_t _ (zbd_nI (by omega) (by decide)), nI_clamp (n := w) (by omega), h2 109 (by decide), hN.1.2.2.2.1 w hw, zlt_b, zck_t _ (zbd_nI (by omega) (by decide)), nI_clamp (n := D 4 w) (by omega), h2 120 (by decide), (hN.2.1 _ w3).1, if_pos (Int32.le_refl _)]
    exact a1
  | r + 1, x, J, f + 1, hx, hf, h1, h2 => by
    have ih := fun J => to_15 hv hN hw hll hpl hA r (x + 1) J f (by omega) (by omega)
    have e1 : zlp6 f_X12_touch_15 (f + 1) (nI w) (nI l) (nI pl) (nI (4096 * D 4 w)) (nI x) J = f_X12_touch_15 (zlp6 f_X12_touch_15 f) (nI w) (nI l) (nI pl) (nI (4096 * D 4 w)) (nI x) J := rfl
    rw [e1]
    generalize zlp6 f_X12_touch_15 f = k1 at ih ⊢
    have v2 := hv.1.2.1
    have v1 := hv.1.1
    have w3 := hv.2.2.1 w hw
    have sk := shk_le D (D 4 w)
    unfold f_X12_touch_15
    rw [zck_t _ (zbd_nI (by omega) (by decide)), nI_clamp (n := w) (by omega), h2 109 (by decide), hN.1.2.2.2.1 w hw, zlt_b, zck_t _ (zbd_nI (by omega) (by decide)), nI_clamp (n := D 4 w) (by omega), h2 120 (by decide), (hN.2.1 _ w3).1, if_neg (nI_ge (by omega) (by omega)), zck_t _ (zbd_nI (by omega) (by decide)), nI_clamp (n := x) (by omega), zlt_b, zlt_b, nI_1]
    refine ih _ (fun y hy => ?_) (fun p hp => by rw [zu_pf _ _ hp]; exact h2 p hp)
    by_cases z : y = x
    · subst z; rw [zu_eq]; decide
    · rw [zu_k _ _ z]; exact h1 y (by omega)
theorem m_touch {J : zI} {w l pl : Nat} (hv : DV D) (hN : RNo D J) (hw : w < D 0 1) (hll : l < D 0 0) (hpl : pl < 4096) : ∃ J', f_X12_touch (nI w) (nI l) (nI pl) J = some J' ∧ (∀ x, x < shk D (D 4 w) → (J' 132 x = 1 ∧ tS D (PlSq D l pl) (D 4 w) x) ∨ (J' 132 x = 0 ∧ ¬ tS D (PlSq D l pl) (D 4 w) x)) ∧ ∀ p, p ≠ 132 → J' p = J p := by
  have v2 := hv.1.2.1
  obtain ⟨J', a1, a2, a3⟩ := to_15 (J0 := J) (A := PlSq D l pl) hv hN hw hll hpl rfl (shk D (D 4 w)) 0 J zF (by omega) (zF_lt (by have := shk_le D (D 4 w); omega)) (fun y hy => absurd hy (by omega)) (fun _ _ => rfl)
  refine ⟨J', ?_, fun x hx => ?_, a3⟩
  · unfold f_X12_touch
    rw [zck_t _ (zbd_nI (by omega) (by decide)), nI_clamp (n := w) (by omega), hN.1.2.2.2.1 w hw, show (4096 : Int32) = nI 4096 from rfl, pk_mul, zlt_b]
    exact a1
  · have := mks_tS (D := D) (A := PlSq D l pl) (lw := D 4 w) (fun q h => h.1.1) x
    rw [← this]; exact a2 x hx
theorem hd_6 {J : zI} {d mny : Nat} {v : Int32} (hd : d < 300) (hm : mny ≤ 4) : ∀ r i b f, i + r = mny → r < f → ((b = 1 ∧ ∃ j, j < i ∧ J 128 (4 * d + j) = v) ∨ (b = 0 ∧ ∀ j, j < i → J 128 (4 * d + j) ≠ v)) → ∃ b', zlp6 f_X12_isHad_6 f (nI d) (nI mny) v b (nI i) J = some b' ∧ ((b' = 1 ∧ ∃ j, j < mny ∧ J 128 (4 * d + j) = v) ∨ (b' = 0 ∧ ∀ j, j < mny → J 128 (4 * d + j) ≠ v))
  | _, _, _, 0, _, h, _ => absurd h (by omega)
  | 0, i, b, f + 1, hi, _, hb => by
    have : i = mny := by omega
    subst this
    refine ⟨b, ?_, hb⟩
    show f_X12_isHad_6 _ (nI d) (nI i) v b (nI i) J = _
    unfold f_X12_isHad_6
    rw [if_pos (Int32.le_refl _), zck_t _ (by rcases hb with ⟨rfl, _⟩ | ⟨rfl, _⟩ <;> decide)]
  | r + 1, i, b, f + 1, hi, hf, hb => by
    have ih := fun b => hd_6 (J := J) (v := v) hd hm r (i + 1) b f (by omega) (by omega)
    have e1 : zlp6 f_X12_isHad_6 (f + 1) (nI d) (nI mny) v b (nI i) J = f_X12_isHad_6 (zlp6 f_X12_isHad_6 f) (nI d) (nI mny) v b (nI i) J := rfl
    rw [e1]
    generalize zlp6 f_X12_isHad_6 f = k1 at ih ⊢
    unfold f_X12_isHad_6 f_X12_isHad_32 f_X12_isHad_37
    rw [if_neg (nI_ge (by omega) (by omega)), show (4 : Int32) = nI 4 from rfl, pk_mul, nI_add, zlt_b, zlt_b, nI_1, zck_t _ (zbd_nI (by omega) (by decide)), nI_clamp (n := 4 * d + i) (by omega)]
    rcases hb with ⟨rfl, j, j1, j2⟩ | ⟨rfl, h⟩
    · rw [if_neg n10]; exact ih 1 (Or.inl ⟨rfl, j, by omega, j2⟩)
    · rw [if_pos rfl]
      by_cases z : J 128 (4 * d + i) = v
      · rw [if_pos z]; exact ih 1 (Or.inl ⟨rfl, i, by omega, z⟩)
      · rw [if_neg z, zlt_b]
        exact ih 0 (Or.inr ⟨rfl, fun j hj => by
          by_cases y : j = i
          · subst y; exact z
          · exact h j (by omega)⟩)
theorem m_isHad {J : zI} {d mny : Nat} (v : Int32) (hd : d < 300) (hm : mny ≤ 4) : ∃ b, f_X12_isHad (nI d) (nI mny) v J = some b ∧ ((b = 1 ∧ ∃ j, j < mny ∧ J 128 (4 * d + j) = v) ∨ (b = 0 ∧ ∀ j, j < mny → J 128 (4 * d + j) ≠ v)) := hd_6 (J := J) (v := v) hd hm mny 0 0 zF (by omega) (zF_lt (by omega)) (Or.inr ⟨rfl, fun j h => absurd h (by omega)⟩)
end To
