/-! the reference's layers and shapes are those asked for -/
noncomputable def shi (D : Nat → Nat → Nat) (l q : Nat) : Int32 := @ite _ (SqS D l q) (Classical.propDecidable _) (nI (shf D l q)) (-1)
theorem shi_t {D : Nat → Nat → Nat} {l q : Nat} (h : SqS D l q) : shi D l q = nI (shf D l q) := if_pos h
theorem shi_f {D : Nat → Nat → Nat} {l q : Nat} (h : ¬ SqS D l q) : shi D l q = -1 := if_neg h
theorem shf_lt {D : Nat → Nat → Nat} {l q : Nat} (h : SqS D l q) : shf D l q < 2048 := by
  have := (sh_cls D l).1 q h; have := shk_le D l; omega
theorem shi_m1 {D : Nat → Nat → Nat} {l q : Nat} : shi D l q = -1 ↔ ¬ SqS D l q := by
  by_cases h : SqS D l q
  · rw [shi_t h]
    exact ⟨fun w => absurd w (nI_m1 (by have := shf_lt h; omega)), fun w => absurd h w⟩
  · rw [shi_f h]; exact ⟨fun _ => h, fun _ => rfl⟩
def LSh (D : Nat → Nat → Nat) (J : zI) (n : Nat) : Prop := ∀ l, l < n → J 120 l = nI (shk D l) ∧ ∀ q, q < 4096 → J 119 (4096 * l + q) = shi D l q
section Ly
variable {D : Nat → Nat → Nat} {H : Nat → Nat → Prop} {J0 : zI} {L : zL}
theorem m_27 (hv : DV D) (hd : DM D J0) (hE : HS D H) : ∀ r l J f, l + r = D 0 0 → r < f → (∀ k q, k < l → q < 4096 → (J 118 (4096 * k + q) = 0 ∨ J 118 (4096 * k + q) = 1) ∧ (Hm J k q ↔ H k q)) → LSh D J l → (∀ p, p ≠ 118 → p ≠ 119 → p ≠ 120 → p ≠ 130 → J p = J0 p) → ∃ J', zlp3 f_X12_run_27 f (nI l) J L = zlp4 f_X12_run_55 zF (0 : Int32) (0 : Int32) J' L ∧ LSh D J' (D 0 0) ∧ (∀ p, p ≠ 118 → p ≠ 119 → p ≠ 120 → p ≠ 130 → J' p = J0 p)
  | _, _, _, 0, _, h, _, _, _ => absurd h (by omega)
  | 0, l, J, f + 1, hl, _, h1, h2, h3 => by
    have : l = D 0 0 := by omega
    subst this
    refine ⟨J, ?_, h2, h3⟩
    show f_X12_run_27 _ (nI (D 0 0)) J L = _
    unfold f_X12_run_27
    rw [h3 97 (by decide) (by decide) (by decide) (by decide), hd.1 0 (by omega), if_pos (Int32.le_refl _)]
  | r + 1, l, J, f + 1, hl, hf, h1, h2, h3 => by
    have ih := fun J => m_27 hv hd hE r (l + 1) J f (by omega) (by omega)
    have e1 : zlp3 f_X12_run_27 (f + 1) (nI l) J L = f_X12_run_27 (zlp3 f_X12_run_27 f) (nI l) J L := rfl
    rw [e1]
    generalize zlp3 f_X12_run_27 f = k1 at ih ⊢
    have v1 := hv.1.1
    have hdJ : DM D J := by
      have g : ∀ p, 97 ≤ p → p ≤ 116 → J p = J0 p := fun p _ _ => h3 p (by omega) (by omega) (by omega) (by omega)
      unfold DM at *
      rw [g 97 (by omega) (by omega), g 98 (by omega) (by omega), g 99 (by omega) (by omega), g 100 (by omega) (by omega), g 101 (by omega) (by omega), g 106 (by omega) (by omega), g 107 (by omega) (by omega), g 108 (by omega) (by omega), g 109 (by omega) (by omega), g 110 (by omega) (by omega), g 111 (by omega) (by omega), g 112 (by omega) (by omega), g 114 (by omega) (by omega), g 115 (by omega) (by omega), g 116 (by omega) (by omega)]
      exact hd
    obtain ⟨J1, a1, a2, a3, a4⟩ := m_make (l := l) (J0 := J) hv hdJ (by omega) (fun k q a b => (h1 k q a b).1) 4096 0 J zF (by omega) (zF_lt (by omega)) (fun _ _ _ => rfl) (fun _ _ => ⟨rfl, rfl⟩) (fun q hq => absurd hq (by omega))
    have eH : ∀ q, q < 4096 → (Hm J1 l q ↔ H l q) := fun q hq => by
      obtain ⟨-, -, dd⟩ := hv.2.1 l (by omega)
      rw [(a4 q hq).2.2, hE l q (by omega) hq]
      have m : ∀ k, k < l → (Hm J k q ↔ H k q) := fun k hk => (h1 k q hk hq).2
      unfold Hp
      constructor
      · rintro (h | ⟨h, a, b⟩ | ⟨h, a⟩ | ⟨h, a, b⟩)
        · exact Or.inl h
        · have := dd (by omega); exact Or.inr (Or.inl ⟨h, (m _ this.1).mp a, (m _ this.2).mp b⟩)
        · have := dd (by omega); exact Or.inr (Or.inr (Or.inl ⟨h, a.imp (m _ this.1).mp (m _ this.2).mp⟩))
        · have := dd (by omega); exact Or.inr (Or.inr (Or.inr ⟨h, (m _ this.1).mp a, fun w => b ((m _ this.2).mpr w)⟩))
      · rintro (h | ⟨h, a, b⟩ | ⟨h, a⟩ | ⟨h, a, b⟩)
        · exact Or.inl h
        · have := dd (by omega); exact Or.inr (Or.inl ⟨h, (m _ this.1).mpr a, (m _ this.2).mpr b⟩)
        · have := dd (by omega); exact Or.inr (Or.inr (Or.inl ⟨h, a.imp (m _ this.1).mpr (m _ this.2).mpr⟩))
        · have := dd (by omega); exact Or.inr (Or.inr (Or.inr ⟨h, (m _ this.1).mpr a, fun w => b ((m _ this.2).mp w)⟩))
    have eS := SS_eq hv hE (show l < D 0 0 by omega)
    have hS : ∀ q, q < 4096 → (J1 118 (4096 * l + q) = 0 ↔ ¬ SqS D l q) := fun q hq => by
      rw [eS]
      have b1 := (a4 q hq).2.1
      have b2 := eH q hq
      unfold Hm at b2
      constructor
      · intro w u
        rw [← b2] at u
        rw [w] at u; exact absurd u.2 (by decide)
      · intro w
        rcases b1 with b1 | b1
        · exact b1
        · exact absurd ⟨hq, b2.mp b1⟩ w
    obtain ⟨k', g', J2, c1, c2, c3, c4, c5, c6, c7, c8⟩ := m_shapes (l := l) (S := SqS D l) (J0 := J1) (by omega) (fun q h => h.1) hS 4096 0 0 (fun _ => 0) (zu J1 120 l 0) zF (by omega) (zF_lt (by omega)) (cls_0 (fun q ⟨_, a, h, _⟩ => absurd h (by omega))) (zu_eq _ _ _ _) (fun q hq => ⟨fun ⟨_, a, h, _⟩ => absurd h (by omega), fun _ => by rw [zu_p _ _ (by decide)]; exact (a4 q hq).1⟩) (fun p _ b _ => zu_pf _ _ b) (fun i _ => zu_p _ _ (by decide) _) (fun i h => zu_k _ _ h _)
    have e1 : f_X12_run_27 k1 (nI l) J L = k1 (nI (l + 1)) J2 L := by
      unfold f_X12_run_27
      have a1 : f_X12_make (nI l) J = some J1 := a1
      have c1 : f_X12_findShapes (nI l) J1 = some J2 := by
        unfold f_X12_findShapes
        rw [zck_t _ (zbd_nI (by omega) (by decide)), nI_clamp (by omega), zlt_b]
        exact c1
      rw [hdJ.1 0 (by omega), if_neg (nI_ge (by omega) (by omega)), a1, zb1_b, c1, zb1_b, zlt_b, nI_1]
    rw [e1]
    have o118 : ∀ i, ¬ (4096 * l ≤ i ∧ i < 4096 * l + 4096) → J2 118 i = J 118 i := fun i hi => by rw [c6 118 (by decide) (by decide) (by decide)]; exact (a3 i hi).1
    refine ih J2 (fun k q hk hq => ?_) (fun k hk => ?_) (fun p x y z u => by rw [c6 p y z u, a2 p x y]; exact h3 p x y z u)
    · by_cases z : k = l
      · subst z
        unfold Hm
        rw [c6 118 (by decide) (by decide) (by decide)]
        exact ⟨(a4 q hq).2.1, eH q hq⟩
      · have o := o118 (4096 * k + q) (by omega)
        unfold Hm
        rw [o]; exact h1 k q (by omega) hq
    · by_cases z : k = l
      · subst z
        refine ⟨by rw [c4]; exact congrArg nI (ck_eq c2).symm, fun q hq => ?_⟩
        by_cases y : SqS D k q
        · rw [(c5 q hq).1 y, shi_t y]; exact congrArg nI (cf_eq c2 y).symm
        · rw [(c5 q hq).2 y, shi_f y]
      · obtain ⟨b1, b2⟩ := h2 k (by omega)
        refine ⟨by rw [c8 k z, a2 120 (by decide) (by decide)]; exact b1, fun q hq => ?_⟩
        rw [c7 _ (by omega), (a3 _ (by omega)).2]; exact b2 q hq
theorem dof_le (D : Nat → Nat → Nat) : ∀ k, dof D k ≤ 2048 * k
  | 0 => Nat.le_refl _
  | k + 1 => by have := dof_le D k; have := shk_le D (D 8 k); show dof D k + shk D (D 8 k) ≤ _; omega
theorem m_55 {J : zI} (hv : DV D) (hd : DM D J) (hL : LSh D J (D 0 0)) : ∀ r k f, k + r = D 0 3 → r < f → zlp4 f_X12_run_55 f (nI (dof D k)) (nI k) J L = (if dof D (D 0 3) ≤ 300 then f_X12_run_101 0 (zu J 97 30 0) L else f_X12_run_101 2 (zu J 97 30 0) L)
  | _, _, 0, _, h => absurd h (by omega)
  | 0, k, f + 1, hk, _ => by
    have : k = D 0 3 := by omega
    subst this
    show f_X12_run_55 _ (nI _) (nI (D 0 3)) J L = _
    unfold f_X12_run_55
    have := dof_le D (D 0 3); have := hv.1.2.2.2.1
    rw [hd.1 3 (by omega), if_pos (Int32.le_refl _), zlt_b]
    by_cases z : dof D (D 0 3) ≤ 300
    · rw [if_pos z, if_pos (show nI (dof D (D 0 3)) ≤ 300 from nI_le (b := 300) z (by decide))]
    · rw [if_neg z, if_neg (show ¬ nI (dof D (D 0 3)) ≤ 300 from nI_ge (a := 300) (by omega) (by omega))]
  | r + 1, k, f + 1, hk, hf => by
    have ih := m_55 hv hd hL r (k + 1) f (by omega) (by omega)
    have e1 : zlp4 f_X12_run_55 (f + 1) (nI (dof D k)) (nI k) J L = f_X12_run_55 (zlp4 f_X12_run_55 f) (nI (dof D k)) (nI k) J L := rfl
    rw [e1]
    generalize zlp4 f_X12_run_55 f = k1 at ih ⊢
    have v4 := hv.1.2.2.2.1
    have v1 := hv.1.1
    have z1 := (hv.2.2.2.2.1 k (by omega)).1
    unfold f_X12_run_55
    rw [hd.1 3 (by omega), if_neg (nI_ge (by omega) (by omega)), zck_t _ (zbd_nI (by omega) (by decide)), nI_clamp (n := k) (by omega), (hd.2.2.2.2.2.1 k (by omega)).1, zlt_b, zck_t _ (zbd_nI (by omega) (by decide)), nI_clamp (n := D 8 k) (by omega), (hL _ z1).1, nI_add, zlt_b, zlt_b, nI_1]
    exact ih
end Ly
