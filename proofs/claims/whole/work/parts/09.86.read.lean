/-! read -/
def cpd (S : Nat → Prop) (o v : Nat) (J0 J : zI) : Prop := (∀ p, S p → (∀ l, l < v → J p l = J0 p (o + l)) ∧ ∀ l, o ≤ l → J p l = J0 p l) ∧ ∀ p, ¬ S p → J p = J0 p
theorem cpd_0 {S : Nat → Prop} {o : Nat} (J : zI) : cpd S o 0 J J := ⟨fun p _ => ⟨fun l hl => absurd hl (by omega), fun _ _ => rfl⟩, fun _ _ => rfl⟩
/-- one more entry of all the arrays -/
theorem cpd_s {S : Nat → Prop} {o v : Nat} {J0 J J' : zI} (hv : v < o) (h : cpd S o v J0 J) (e1 : ∀ p, S p → J' p v = J p (o + v)) (e2 : ∀ p l, l ≠ v → J' p l = J p l) (e3 : ∀ p, ¬ S p → J' p = J p) : cpd S o (v + 1) J0 J' := by
  refine ⟨fun p hp => ⟨fun l hl => ?_, fun l hl => ?_⟩, fun p hp => by rw [e3 p hp, h.2 p hp]⟩
  · by_cases z : l = v
    · subst z; rw [e1 p hp, (h.1 p hp).2 _ (by omega)]
    · rw [e2 p l z, (h.1 p hp).1 l (by omega)]
  · rw [e2 p l (by omega), (h.1 p hp).2 l hl]
theorem a_236 {J0 : zI} {M : zL} : ∀ r v J f, v + r = 32 → r < f → cpd (fun p => p = 116) 32 v J0 J → ∃ J', zlp3 f_X12_adopt_236 f (nI v) J M = some (J', M) ∧ cpd (fun p => p = 116) 32 32 J0 J'
  | _, _, _, 0, _, h, _ => absurd h (by omega)
  | 0, v, J, f + 1, hv, _, hc => by
    have : v = 32 := by omega
    subst this
    refine ⟨J, ?_, hc⟩
    show f_X12_adopt_236 _ (nI 32) J M = _
    unfold f_X12_adopt_236
    rw [if_pos (by decide)]
  | r + 1, v, J, f + 1, hv, hf, hc => by
    have ih := fun J => a_236 (J0 := J0) (M := M) r (v + 1) J f (by omega) (by omega)
    have e1 : zlp3 f_X12_adopt_236 (f + 1) (nI v) J M = f_X12_adopt_236 (zlp3 f_X12_adopt_236 f) (nI v) J M := rfl
    rw [e1]
    generalize zlp3 f_X12_adopt_236 f = k1 at ih ⊢
    unfold f_X12_adopt_236
    rw [if_neg (show ¬ (32 : Int32) ≤ nI v from nI_ge (b := 32) (by omega) (by decide)), show (32 : Int32) + nI v = nI (32 + v) from nI_add 32 v]
    simp only [zlt_b, nI_1]
    rw [zck_t _ (zbd_nI (by omega) (by decide)), zck_t _ (zbd_nI (by omega) (by decide)), nI_clamp (show v < 2 ^ 31 by omega), nI_clamp (show 32 + v < 2 ^ 31 by omega)]
    refine ih _ (cpd_s (by omega) hc (fun p hp => ?_) (fun p l hl => zu_k _ _ hl _) (fun p hp => zu_pf _ _ hp))
    have : p = 116 := hp
    subst this
    rw [zu_eq]
theorem a_177 {J0 : zI} {M : zL} : ∀ r v J f, v + r = 16 → r < f → cpd (fun p => 110 ≤ p ∧ p ≤ 112) 16 v J0 J → ∃ J', zlp3 f_X12_adopt_177 f (nI v) J M = zlp3 (f_X12_adopt_236) zF (0 : Int32) J' M ∧ cpd (fun p => 110 ≤ p ∧ p ≤ 112) 16 16 J0 J'
  | _, _, _, 0, _, h, _ => absurd h (by omega)
  | 0, v, J, f + 1, hv, _, hc => by
    have : v = 16 := by omega
    subst this
    refine ⟨J, ?_, hc⟩
    show f_X12_adopt_177 _ (nI 16) J M = _
    unfold f_X12_adopt_177
    rw [if_pos (by decide)]
  | r + 1, v, J, f + 1, hv, hf, hc => by
    have ih := fun J => a_177 (J0 := J0) (M := M) r (v + 1) J f (by omega) (by omega)
    have e1 : zlp3 f_X12_adopt_177 (f + 1) (nI v) J M = f_X12_adopt_177 (zlp3 f_X12_adopt_177 f) (nI v) J M := rfl
    rw [e1]
    generalize zlp3 f_X12_adopt_177 f = k1 at ih ⊢
    unfold f_X12_adopt_177
    rw [if_neg (show ¬ (16 : Int32) ≤ nI v from nI_ge (b := 16) (by omega) (by decide)), show (16 : Int32) + nI v = nI (16 + v) from nI_add 16 v]
    have hb1 : zbd (nI (16 + v)) 32 = true := zbd_nI (by omega) (by decide)
    have hb2 : zbd (nI v) 32 = true := zbd_nI (by omega) (by decide)
    simp only [zlt_b, nI_1, zck_t _ hb1, zck_t _ hb2, nI_clamp (show v < 2 ^ 31 by omega), nI_clamp (show 16 + v < 2 ^ 31 by omega)]
    refine ih _ (cpd_s (by omega) hc (fun p hp => ?_) (fun p l hl => by rw [zu_k _ _ hl, zu_k _ _ hl, zu_k _ _ hl]) (fun p hp => by rw [zu_pf _ _ (by omega), zu_pf _ _ (by omega), zu_pf _ _ (by omega)]))
    have : p = 110 ∨ p = 111 ∨ p = 112 := by have : 110 ≤ p ∧ p ≤ 112 := hp; omega
    rcases this with rfl | rfl | rfl
    · rw [zu_p _ _ (by decide), zu_p _ _ (by decide), zu_eq]
    · rw [zu_p _ _ (by decide), zu_eq, zu_p _ _ (by decide)]
    · rw [zu_eq, zu_p _ _ (by decide), zu_p _ _ (by decide)]
theorem a_118 {J0 : zI} {M : zL} : ∀ r v J f, v + r = 8 → r < f → cpd (fun p => p = 109 ∨ p = 114 ∨ p = 115) 8 v J0 J → ∃ J', zlp3 f_X12_adopt_118 f (nI v) J M = zlp3 (f_X12_adopt_177) zF (0 : Int32) J' M ∧ cpd (fun p => p = 109 ∨ p = 114 ∨ p = 115) 8 8 J0 J'
  | _, _, _, 0, _, h, _ => absurd h (by omega)
  | 0, v, J, f + 1, hv, _, hc => by
    have : v = 8 := by omega
    subst this
    refine ⟨J, ?_, hc⟩
    show f_X12_adopt_118 _ (nI 8) J M = _
    unfold f_X12_adopt_118
    rw [if_pos (by decide)]
  | r + 1, v, J, f + 1, hv, hf, hc => by
    have ih := fun J => a_118 (J0 := J0) (M := M) r (v + 1) J f (by omega) (by omega)
    have e1 : zlp3 f_X12_adopt_118 (f + 1) (nI v) J M = f_X12_adopt_118 (zlp3 f_X12_adopt_118 f) (nI v) J M := rfl
    rw [e1]
    generalize zlp3 f_X12_adopt_118 f = k1 at ih ⊢
    unfold f_X12_adopt_118
    rw [if_neg (show ¬ (8 : Int32) ≤ nI v from nI_ge (b := 8) (by omega) (by decide)), show (8 : Int32) + nI v = nI (8 + v) from nI_add 8 v]
    have hb1 : zbd (nI (8 + v)) 16 = true := zbd_nI (by omega) (by decide)
    have hb2 : zbd (nI v) 16 = true := zbd_nI (by omega) (by decide)
    simp only [zlt_b, nI_1, zck_t _ hb1, zck_t _ hb2, nI_clamp (show v < 2 ^ 31 by omega), nI_clamp (show 8 + v < 2 ^ 31 by omega)]
    refine ih _ (cpd_s (by omega) hc (fun p hp => ?_) (fun p l hl => by rw [zu_k _ _ hl, zu_k _ _ hl, zu_k _ _ hl]) (fun p hp => by rw [zu_pf _ _ (by omega), zu_pf _ _ (by omega), zu_pf _ _ (by omega)]))
    have : p = 109 ∨ p = 114 ∨ p = 115 := hp
    rcases this with rfl | rfl | rfl
    · rw [zu_p _ _ (by decide), zu_p _ _ (by decide), zu_eq]
    · rw [zu_p _ _ (by decide), zu_eq, zu_p _ _ (by decide)]
    · rw [zu_eq, zu_p _ _ (by decide), zu_p _ _ (by decide)]
theorem a_44 {J0 : zI} {M0 : zL} : ∀ r v J M f, v + r = 24 → r < f → cpd (fun p => 106 ≤ p ∧ p ≤ 108) 24 v J0 J → (∀ p, p ≠ 105 → M p = M0 p) → ∃ J' M', zlp3 f_X12_adopt_44 f (nI v) J M = zlp3 (f_X12_adopt_118) zF (0 : Int32) J' M' ∧ cpd (fun p => 106 ≤ p ∧ p ≤ 108) 24 24 J0 J' ∧ ∀ p, p ≠ 105 → M' p = M0 p
  | _, _, _, _, 0, _, h, _, _ => absurd h (by omega)
  | 0, v, J, M, f + 1, hv, _, hc, hM => by
    have : v = 24 := by omega
    subst this
    refine ⟨J, M, ?_, hc, hM⟩
    show f_X12_adopt_44 _ (nI 24) J M = _
    unfold f_X12_adopt_44
    rw [if_pos (by decide)]
  | r + 1, v, J, M, f + 1, hv, hf, hc, hM => by
    have ih := fun J M => a_44 (J0 := J0) (M0 := M0) r (v + 1) J M f (by omega) (by omega)
    have e1 : zlp3 f_X12_adopt_44 (f + 1) (nI v) J M = f_X12_adopt_44 (zlp3 f_X12_adopt_44 f) (nI v) J M := rfl
    rw [e1]
    generalize zlp3 f_X12_adopt_44 f = k1 at ih ⊢
    unfold f_X12_adopt_44
    rw [if_neg (show ¬ (24 : Int32) ≤ nI v from nI_ge (b := 24) (by omega) (by decide)), show (24 : Int32) + nI v = nI (24 + v) from nI_add 24 v]
    have hb1 : zbd (nI (24 + v)) 48 = true := zbd_nI (by omega) (by decide)
    have hb2 : zbd (nI v) 48 = true := zbd_nI (by omega) (by decide)
    simp only [zlt_b, nI_1, zck_t _ hb1, zck_t _ hb2, nI_clamp (show v < 2 ^ 31 by omega), nI_clamp (show 24 + v < 2 ^ 31 by omega)]
    refine ih _ _ (cpd_s (by omega) hc (fun p hp => ?_) (fun p l hl => by rw [zu_k _ _ hl, zu_k _ _ hl, zu_k _ _ hl]) (fun p hp => by rw [zu_pf _ _ (by omega), zu_pf _ _ (by omega), zu_pf _ _ (by omega)])) (fun p hp => by rw [zul_pf _ _ hp]; exact hM p hp)
    have : p = 106 ∨ p = 107 ∨ p = 108 := by have : 106 ≤ p ∧ p ≤ 108 := hp; omega
    rcases this with rfl | rfl | rfl
    · rw [zu_p _ _ (by decide), zu_p _ _ (by decide), zu_eq]
    · rw [zu_p _ _ (by decide), zu_eq, zu_p _ _ (by decide)]
    · rw [zu_eq, zu_p _ _ (by decide), zu_p _ _ (by decide)]
theorem e_adopt {J : zI} {M : zL} : ∃ J' M', f_X12_adopt J M = some (J', M') ∧ J' 97 11 = 1 ∧ J' 97 30 = 0 ∧ (∀ i, i < 4 → J' 97 (12 + i) = J 97 (50 + i)) ∧ (∀ k, k ≠ 11 → k ≠ 30 → ¬ (12 ≤ k ∧ k ≤ 15) → J' 97 k = J 97 k) ∧ (∀ p, p ≠ 97 → ¬ (106 ≤ p ∧ p ≤ 116) → J' p = J p) ∧ (∀ p l, 106 ≤ p → p ≤ 116 → p ≠ 113 → l < rg p → J' p l = J p (rg p + l)) ∧ ∀ p, p ≠ 105 → M' p = M p := by
  unfold f_X12_adopt
  simp only [zlt_b]
  have hd : ∀ k, zu (zu (zu (zu (zu (zu J 97 11 1) 97 30 0) 97 12 (zu (zu J 97 11 1) 97 30 0 97 50)) 97 13 (zu (zu (zu J 97 11 1) 97 30 0) 97 12 (zu (zu J 97 11 1) 97 30 0 97 50) 97 51)) 97 14 (zu (zu (zu (zu J 97 11 1) 97 30 0) 97 12 (zu (zu J 97 11 1) 97 30 0 97 50)) 97 13 (zu (zu (zu J 97 11 1) 97 30 0) 97 12 (zu (zu J 97 11 1) 97 30 0 97 50) 97 51) 97 52)) 97 15 (zu (zu (zu (zu (zu J 97 11 1) 97 30 0) 97 12 (zu (zu J 97 11 1) 97 30 0 97 50)) 97 13 (zu (zu (zu J 97 11 1) 97 30 0) 97 12 (zu (zu J 97 11 1) 97 30 0 97 50) 97 51)) 97 14 (zu (zu (zu (zu J 97 11 1) 97 30 0) 97 12 (zu (zu J 97 11 1) 97 30 0 97 50)) 97 13 (zu (zu (zu J 97 11 1) 97 30 0) 97 12 (zu (zu J 97 11 1) 97 30 0 97 50) 97 51) 97 52) 97 53) 97 k = if k = 15 then J 97 53 else if k = 14 then J 97 52 else if k = 13 then J 97 51 else if k = 12 then J 97 50 else if k = 30 then 0 else if k = 11 then 1 else J 97 k := by
    intro k; simp [zu]
  have ho : ∀ p, p ≠ 97 → zu (zu (zu (zu (zu (zu J 97 11 1) 97 30 0) 97 12 (zu (zu J 97 11 1) 97 30 0 97 50)) 97 13 (zu (zu (zu J 97 11 1) 97 30 0) 97 12 (zu (zu J 97 11 1) 97 30 0 97 50) 97 51)) 97 14 (zu (zu (zu (zu J 97 11 1) 97 30 0) 97 12 (zu (zu J 97 11 1) 97 30 0 97 50)) 97 13 (zu (zu (zu J 97 11 1) 97 30 0) 97 12 (zu (zu J 97 11 1) 97 30 0 97 50) 97 51) 97 52)) 97 15 (zu (zu (zu (zu (zu J 97 11 1) 97 30 0) 97 12 (zu (zu J 97 11 1) 97 30 0 97 50)) 97 13 (zu (zu (zu J 97 11 1) 97 30 0) 97 12 (zu (zu J 97 11 1) 97 30 0 97 50) 97 51)) 97 14 (zu (zu (zu (zu J 97 11 1) 97 30 0) 97 12 (zu (zu J 97 11 1) 97 30 0 97 50)) 97 13 (zu (zu (zu J 97 11 1) 97 30 0) 97 12 (zu (zu J 97 11 1) 97 30 0 97 50) 97 51) 97 52) 97 53) p = J p := by
    intro p hp; rw [zu_pf _ _ hp, zu_pf _ _ hp, zu_pf _ _ hp, zu_pf _ _ hp, zu_pf _ _ hp, zu_pf _ _ hp]
  generalize zu (zu (zu (zu (zu (zu J 97 11 1) 97 30 0) 97 12 (zu (zu J 97 11 1) 97 30 0 97 50)) 97 13 (zu (zu (zu J 97 11 1) 97 30 0) 97 12 (zu (zu J 97 11 1) 97 30 0 97 50) 97 51)) 97 14 (zu (zu (zu (zu J 97 11 1) 97 30 0) 97 12 (zu (zu J 97 11 1) 97 30 0 97 50)) 97 13 (zu (zu (zu J 97 11 1) 97 30 0) 97 12 (zu (zu J 97 11 1) 97 30 0 97 50) 97 51) 97 52)) 97 15 (zu (zu (zu (zu (zu J 97 11 1) 97 30 0) 97 12 (zu (zu J 97 11 1) 97 30 0 97 50)) 97 13 (zu (zu (zu J 97 11 1) 97 30 0) 97 12 (zu (zu J 97 11 1) 97 30 0 97 50) 97 51)) 97 14 (zu (zu (zu (zu J 97 11 1) 97 30 0) 97 12 (zu (zu J 97 11 1) 97 30 0 97 50)) 97 13 (zu (zu (zu J 97 11 1) 97 30 0) 97 12 (zu (zu J 97 11 1) 97 30 0 97 50) 97 51) 97 52) 97 53) = J6 at *
  obtain ⟨J7, M7, a1, a2, a3⟩ := a_44 (J0 := J6) (M0 := M) 24 0 J6 M zF (by omega) (zF_lt (by omega)) (cpd_0 _) (fun _ _ => rfl)
  obtain ⟨J8, b1, b2⟩ := a_118 (J0 := J7) (M := M7) 8 0 J7 zF (by omega) (zF_lt (by omega)) (cpd_0 _)
  obtain ⟨J9, c1, c2⟩ := a_177 (J0 := J8) (M := M7) 16 0 J8 zF (by omega) (zF_lt (by omega)) (cpd_0 _)
  obtain ⟨J10, d1, d2⟩ := a_236 (J0 := J9) (M := M7) 32 0 J9 zF (by omega) (zF_lt (by omega)) (cpd_0 _)
  have h97 : J10 97 = J6 97 := by rw [d2.2 97 (by decide), c2.2 97 (by decide), b2.2 97 (by decide), a2.2 97 (by decide)]
  refine ⟨J10, M7, ?_, by rw [h97, hd]; rfl, by rw [h97, hd]; rfl, fun i hi => ?_, fun k k1 k2 k3 => ?_, fun p p1 p2 => ?_, fun p l p1 p2 p3 hl => ?_, a3⟩
  · have a1' : zlp3 f_X12_adopt_44 zF 0 J6 M = _ := a1
    have b1' : zlp3 f_X12_adopt_118 zF 0 J7 M7 = _ := b1
    have c1' : zlp3 f_X12_adopt_177 zF 0 J8 M7 = _ := c1
    rw [a1', b1', c1']
    exact d1
  · rw [h97, hd]
    match i, hi with
    | 0, _ => rfl
    | 1, _ => rfl
    | 2, _ => rfl
    | 3, _ => rfl
  · rw [h97, hd, if_neg (by omega), if_neg (by omega), if_neg (by omega), if_neg (by omega), if_neg k2, if_neg k1]
  · rw [d2.2 p (by omega), c2.2 p (by omega), b2.2 p (by omega), a2.2 p (by omega), ho p p1]
  · have : (106 ≤ p ∧ p ≤ 108) ∨ (p = 109 ∨ p = 114 ∨ p = 115) ∨ (110 ≤ p ∧ p ≤ 112) ∨ p = 116 := by omega
    rcases this with h | h | h | h
    · have er : rg p = 24 := by unfold rg; rw [if_pos (by omega)]
      rw [er] at hl ⊢
      rw [d2.2 p (by omega), c2.2 p (by omega), b2.2 p (by omega), (a2.1 p h).1 l hl, ho p (by omega)]
    · have er : rg p = 8 := by rcases h with rfl | rfl | rfl <;> rfl
      rw [er] at hl ⊢
      rw [d2.2 p (by omega), c2.2 p (by omega), (b2.1 p h).1 l hl, a2.2 p (by omega), ho p (by omega)]
    · have er : rg p = 16 := by unfold rg; rw [if_neg (by omega), if_neg (by omega), if_pos (by omega)]
      rw [er] at hl ⊢
      rw [d2.2 p (by omega), (c2.1 p h).1 l hl, b2.2 p (by omega), a2.2 p (by omega), ho p (by omega)]
    · subst h
      have er : rg 116 = 32 := rfl
      rw [er] at hl ⊢
      rw [(d2.1 116 rfl).1 l hl, c2.2 116 (by decide), b2.2 116 (by decide), a2.2 116 (by decide), ho 116 (by decide)]
