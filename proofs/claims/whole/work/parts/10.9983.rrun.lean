/-! the reference runs -/
def DevM (D : Nat → Nat → Nat) (A : Nat → Prop) (J : zI) (L : zL) (d k pl : Nat) : Prop := J 124 d = nI k ∧ J 125 d = nI pl ∧ ∃ pn, PinS D A k pn ∧ ((J 127 d = 1 ∧ BadS D A k pn) ∨ (J 127 d = 0 ∧ ¬ BadS D A k pn)) ∧ (∃ q, J 126 d = nI q ∧ A q ∧ ∀ b, A b → q ≤ b) ∧ L 129 (3 * d) = lN (sz0 A) ∧ L 129 (3 * d + 1) = lN (sz1 A) ∧ L 129 (3 * d + 2) = lN (sz2 A (PinQ D A k (pn 0))) ∧ ∀ i, i < D 9 k → J 128 (4 * d + i) = pn i
def OM (J : zI) (L : zL) (J' : zI) (L' : zL) (t : Nat) : Prop := ∀ d, d < t → J' 124 d = J 124 d ∧ J' 125 d = J 125 d ∧ J' 126 d = J 126 d ∧ J' 127 d = J 127 d ∧ (∀ j, j < 3 → L' 129 (3 * d + j) = L 129 (3 * d + j)) ∧ ∀ j, j < 4 → J' 128 (4 * d + j) = J 128 (4 * d + j)
theorem DevM.om {D : Nat → Nat → Nat} {A : Nat → Prop} {J J' : zI} {L L' : zL} {t d k pl : Nat} (hk : D 9 k ≤ 4) (hd : d < t) (o : OM J L J' L' t) (h : DevM D A J L d k pl) : DevM D A J' L' d k pl := by
  obtain ⟨o1, o2, o3, o4, o5, o6⟩ := o d hd
  obtain ⟨h1, h2, pn, h3, h4, h5, h6, h7, h8, h9⟩ := h
  refine ⟨by rw [o1]; exact h1, by rw [o2]; exact h2, pn, h3, by rw [o4]; exact h4, by rw [o3]; exact h5, ?_, by rw [o5 1 (by omega)]; exact h7, by rw [o5 2 (by omega)]; exact h8, fun i hi => by rw [o6 i (by omega)]; exact h9 i hi⟩
  have := o5 0 (by omega)
  rw [Nat.add_zero] at this; rw [this]; exact h6
def DLM (D : Nat → Nat → Nat) (J : zI) (L : zL) (k p : Nat) : Prop := (∀ k' pl, k' < k → pl < shk D (D 8 k') → DevM D (PlSq D (D 8 k') pl) J L (dof D k' + pl) k' pl) ∧ ∀ pl, pl < p → DevM D (PlSq D (D 8 k) pl) J L (dof D k + pl) k pl
def FW (J0 J : zI) : Prop := (∀ p, p < 97 ∨ (98 ≤ p ∧ p ≤ 123) → J p = J0 p) ∧ ∀ i, i ≠ 39 → J 97 i = J0 97 i
theorem FW.no {D : Nat → Nat → Nat} {J0 J : zI} (h : FW J0 J) (hN : RNo D J0) : RNo D J := hN.cg (fun p _ _ => h.1 p (by omega)) (fun i hi => h.2 i (by omega))
section Ru
variable {D : Nat → Nat → Nat} {J0 : zI}
theorem m_dev {k pl t : Nat} {J : zI} {L : zL} (hv : DV D) (hN : RNo D J) (hk : k < D 0 3) (hpl : pl < shk D (D 8 k)) (ht : t < 300) (h39 : J 97 39 = nI t) {k124 : Int32 → zI → zL → Option (Int32 × zI × zL)} {k134 : Int32 → Int32 → zI → zL → Option (Int32 × zI × zL)} : ∃ J' L', f_X12_run_134 k124 k134 (nI k) (nI pl) J L = k134 (nI k) (nI (pl + 1)) J' L' ∧ J' 97 39 = nI (t + 1) ∧ FW J J' ∧ (∀ p, p ≠ 129 → L' p = L p) ∧ OM J L J' L' t ∧ DevM D (PlSq D (D 8 k) pl) J' L' t k pl := by
  obtain ⟨z1, z2, z3, z4⟩ := hv.2.2.2.2.1 k hk
  obtain ⟨c1, c2, c3⟩ := hN.1.2.2.2.2.2.1 k hk
  have v4 := hv.1.2.2.2.1
  have v1 := hv.1.1
  have sk := shk_le D (D 8 k)
  obtain ⟨J28, e28⟩ : ∃ x, x = zu (zu (zu J 124 t (nI k)) 125 t (nI pl)) 127 t (vp_nar .boolean (0 : Int32)) := ⟨_, rfl⟩
  obtain ⟨L37, e37⟩ : ∃ x, x = zul (zul (zul L 129 (3 * t) 0) 129 (3 * t + 1) 0) 129 (3 * t + 2) 0 := ⟨_, rfl⟩
  have g28 : ∀ p, p ≠ 124 → p ≠ 125 → p ≠ 127 → J28 p = J p := fun p a b c => by rw [e28, zu_pf _ _ c, zu_pf _ _ b, zu_pf _ _ a]
  have hN28 : RNo D J28 := hN.cg (fun p _ _ => g28 p (by omega) (by omega) (by omega)) (fun _ _ => by rw [g28 97 (by decide) (by decide) (by decide)])
  obtain ⟨J39, a1, a2, a3, a4⟩ := m_findPins (J := J28) (d := t) (k := k) (pl := pl) hv hN28 hk ht (by omega) (by rw [e28, zu_eq]; decide)
  have hN39 : RNo D J39 := hN28.cg (fun p _ _ => a2.1 p (by omega) (by omega) (by omega)) (fun _ _ => by rw [a2.1 97 (by decide) (by decide) (by decide)])
  have l0 : ∀ j, j < 3 → L37 129 (3 * t + j) = 0 := fun j hj => by
    have : j = 0 ∨ j = 1 ∨ j = 2 := by omega
    rcases this with rfl | rfl | rfl
    · rw [e37, zul_k _ _ (by omega), zul_k _ _ (by omega), Nat.add_zero, zul_eq]
    · rw [e37, zul_k _ _ (by omega), zul_eq]
    · rw [e37, zul_eq]
  obtain ⟨J41, L42, b1, b2, b3, b4, b5, b6, b7, b8⟩ := m_measure (J := J39) (L := L37) (d := t) (k := k) (pl := pl) hv hN39 hk ht hpl l0
  have t28 : J28 97 39 = nI t := by rw [g28 97 (by decide) (by decide) (by decide)]; exact h39
  have t39 : J39 97 39 = nI t := by rw [a2.1 97 (by decide) (by decide) (by decide)]; exact t28
  have t41 : J41 97 39 = nI t := by rw [b2 97 (by decide)]; exact t39
  have g41 : ∀ p, p ≠ 124 → p ≠ 125 → p ≠ 126 → p ≠ 127 → p ≠ 128 → p ≠ 132 → J41 p = J p := fun p a b c d e f => by rw [b2 p c, a2.1 p d e f, g28 p a b d]
  refine ⟨zu J41 97 39 (nI (t + 1)), L42, ?_, zu_eq _ _ _ _, ⟨fun p hp => by rw [zu_pf _ _ (by omega)]; exact g41 p (by omega) (by omega) (by omega) (by omega) (by omega) (by omega), fun i hi => by rw [zu_k _ _ hi]; rw [g41 97 (by decide) (by decide) (by decide) (by decide) (by decide) (by decide)]⟩, fun p hp => by rw [b4.1 p hp, e37, zul_pf _ _ hp, zul_pf _ _ hp, zul_pf _ _ hp], fun d hd => ?_, ?_⟩
  · unfold f_X12_run_134
    have hz : ∀ x : Option (Int32 × zI × zL), zck (zbd (nI t) 300) x = x := fun x => zck_t x (zbd_nI ht (by decide))
    have i24 : zu J 124 t (nI k) 97 39 = nI t := by rw [zu_p _ _ (by decide)]; exact h39
    have i26 : zu (zu J 124 t (nI k)) 125 t (nI pl) 97 39 = nI t := by rw [zu_p _ _ (by decide)]; exact i24
    rw [zck_t _ (zbd_nI (by omega) (by decide)), nI_clamp (n := k) (by omega), c1, zlt_b, zck_t _ (zbd_nI (by omega) (by decide)), nI_clamp (n := D 8 k) (by omega), (hN.2.1 _ z1).1, if_neg (nI_ge (by omega) (by omega)), h39, hz, nI_clamp (n := t) (by omega), zlt_b, i24, hz, nI_clamp (n := t) (by omega), zlt_b, i26, hz, nI_clamp (n := t) (by omega), ← e28, zlt_b, t28, show (3 : Int32) = nI 3 from rfl, pk_mul, zlt_b, zck_t _ (zbd_nI (by omega) (by decide)), nI_clamp (n := 3 * t) (by omega), zlt_b, zlt_b, nI_1, zck_t _ (zbd_nI (by omega) (by decide)), nI_clamp (n := 3 * t + 1) (by omega), zlt_b, zlt_b, show (2 : Int32) = nI 2 from rfl, nI_add, zck_t _ (zbd_nI (by omega) (by decide)), nI_clamp (n := 3 * t + 2) (by omega), ← e37, zlt_b, a1, zb1_b, t39, b1, zb2_b, t41, nI_1, zlt_b, zlt_b, zlt_b, nI_1]
  · refine ⟨?_, ?_, ?_, ?_, fun j hj => ?_, fun j hj => ?_⟩
    · rw [zu_p _ _ (by decide), b2 124 (by decide), a2.1 124 (by decide) (by decide) (by decide), e28, zu_p _ _ (by decide), zu_p _ _ (by decide), zu_k _ _ (by omega)]
    · rw [zu_p _ _ (by decide), b2 125 (by decide), a2.1 125 (by decide) (by decide) (by decide), e28, zu_p _ _ (by decide), zu_k _ _ (by omega), zu_p _ _ (by decide)]
    · rw [zu_p _ _ (by decide), b3 d (by omega), a2.1 126 (by decide) (by decide) (by decide), g28 126 (by decide) (by decide) (by decide)]
    · rw [zu_p _ _ (by decide), b2 127 (by decide), a2.2.1 d (by omega), e28, zu_k _ _ (by omega), zu_p _ _ (by decide), zu_p _ _ (by decide)]
    · rw [b4.2 _ (by omega), e37, zul_k _ _ (by omega), zul_k _ _ (by omega), zul_k _ _ (by omega)]
    · rw [zu_p _ _ (by decide), b2 128 (by decide), a2.2.2 _ (by omega), g28 128 (by decide) (by decide) (by decide)]
  · refine ⟨?_, ?_, fun j => J39 128 (4 * t + j), a3, ?_, ?_, b5, b6, b7, fun i _ => ?_⟩
    · rw [zu_p _ _ (by decide), b2 124 (by decide), a2.1 124 (by decide) (by decide) (by decide), e28, zu_p _ _ (by decide), zu_p _ _ (by decide), zu_eq]
    · rw [zu_p _ _ (by decide), b2 125 (by decide), a2.1 125 (by decide) (by decide) (by decide), e28, zu_p _ _ (by decide), zu_eq]
    · rw [zu_p _ _ (by decide), b2 127 (by decide)]; exact a4
    · rw [zu_p _ _ (by decide)]; exact b8
    · rw [zu_p _ _ (by decide), b2 128 (by decide)]
theorem m_134 {k124 : Int32 → zI → zL → Option (Int32 × zI × zL)} {k : Nat} {L0 : zL} (hv : DV D) (hN : RNo D J0) (hk : k < D 0 3) (hT : dof D (D 0 3) ≤ 300) : ∀ r pl J L f, pl + r = shk D (D 8 k) → r < f → J 97 39 = nI (dof D k + pl) → DLM D J L k pl → FW J0 J → (∀ p, p ≠ 129 → L p = L0 p) → ∃ J' L', zlp4 (f_X12_run_134 k124) f (nI k) (nI pl) J L = k124 (nI (k + 1)) J' L' ∧ J' 97 39 = nI (dof D (k + 1)) ∧ DLM D J' L' (k + 1) 0 ∧ FW J0 J' ∧ ∀ p, p ≠ 129 → L' p = L0 p
  | _, _, _, _, 0, _, h, _, _, _, _ => absurd h (by omega)
  | 0, pl, J, L, f + 1, hpl, _, h1, h2, h3, h4 => by
    have : pl = shk D (D 8 k) := by omega
    subst this
    have v4 := hv.1.2.2.2.1
    have v1 := hv.1.1
    have z1 := (hv.2.2.2.2.1 k hk).1
    have hNJ := h3.no hN
    refine ⟨J, L, ?_, h1, ⟨fun k' pl' a b => ?_, fun pl' a => absurd a (by omega)⟩, h3, h4⟩
    · show f_X12_run_134 k124 _ (nI k) (nI _) J L = _
      unfold f_X12_run_134
      rw [zck_t _ (zbd_nI (by omega) (by decide)), nI_clamp (n := k) (by omega), (hNJ.1.2.2.2.2.2.1 k hk).1, zlt_b, zck_t _ (zbd_nI (by omega) (by decide)), nI_clamp (n := D 8 k) (by omega), (hNJ.2.1 _ z1).1, if_pos (Int32.le_refl _), zlt_b, nI_1]
    · by_cases z : k' = k
      · subst z; exact h2.2 pl' b
      · exact h2.1 k' pl' (by omega) b
  | r + 1, pl, J, L, f + 1, hpl, hf, h1, h2, h3, h4 => by
    have ih := fun J L => m_134 (k124 := k124) (L0 := L0) hv hN hk hT r (pl + 1) J L f (by omega) (by omega)
    have e1 : zlp4 (f_X12_run_134 k124) (f + 1) (nI k) (nI pl) J L = f_X12_run_134 k124 (zlp4 (f_X12_run_134 k124) f) (nI k) (nI pl) J L := rfl
    rw [e1]
    generalize zlp4 (f_X12_run_134 k124) f = k1 at ih ⊢
    have hm := dof_mono D (a := k + 1) (D 0 3) (by omega)
    have hd : dof D (k + 1) = dof D k + shk D (D 8 k) := rfl
    obtain ⟨J', L', a1, a2, a3, a4, a5, a6⟩ := m_dev (L := L) (k124 := k124) (k134 := k1) hv (h3.no hN) hk (show pl < shk D (D 8 k) by omega) (show dof D k + pl < 300 by omega) h1
    have v9 : ∀ k', k' < D 0 3 → D 9 k' ≤ 4 := fun k' h => (hv.2.2.2.2.1 k' h).2.2.1
    rw [a1]
    refine ih J' L' a2 ⟨fun k' pl' a b => (h2.1 k' pl' a b).om (v9 _ (by omega)) (by have := dof_lt a b; omega) a5, fun pl' a => ?_⟩ ⟨fun p hp => by rw [a3.1 p hp]; exact h3.1 p hp, fun i hi => by rw [a3.2 i hi]; exact h3.2 i hi⟩ (fun p hp => by rw [a4 p hp]; exact h4 p hp)
    by_cases z : pl' = pl
    · subst z; exact a6
    · exact (h2.2 pl' (by omega)).om (v9 _ hk) (by omega) a5
theorem m_124 {L0 : zL} (hv : DV D) (hN : RNo D J0) (hT : dof D (D 0 3) ≤ 300) : ∀ r k J L f, k + r = D 0 3 → r < f → J 97 39 = nI (dof D k) → DLM D J L k 0 → FW J0 J → (∀ p, p ≠ 129 → L p = L0 p) → ∃ J' L', zlp3 f_X12_run_124 f (nI k) J L = some (nI (dof D (D 0 3)), zu J' 97 30 1, L') ∧ J' 97 39 = nI (dof D (D 0 3)) ∧ DLM D J' L' (D 0 3) 0 ∧ FW J0 J' ∧ ∀ p, p ≠ 129 → L' p = L0 p
  | _, _, _, _, 0, _, h, _, _, _, _ => absurd h (by omega)
  | 0, k, J, L, f + 1, hk, _, h1, h2, h3, h4 => by
    have : k = D 0 3 := by omega
    subst this
    refine ⟨J, L, ?_, h1, h2, h3, h4⟩
    show f_X12_run_124 _ (nI _) J L = _
    unfold f_X12_run_124
    rw [(h3.no hN).1.1 3 (by omega), if_pos (Int32.le_refl _), zlt_b, zu_k _ _ (by decide), h1, zlt_b]
  | r + 1, k, J, L, f + 1, hk, hf, h1, h2, h3, h4 => by
    have ih := fun J L => m_124 (L0 := L0) hv hN hT r (k + 1) J L f (by omega) (by omega)
    have e1 : zlp3 f_X12_run_124 (f + 1) (nI k) J L = f_X12_run_124 (zlp3 f_X12_run_124 f) (nI k) J L := rfl
    rw [e1]
    generalize zlp3 f_X12_run_124 f = k1 at ih ⊢
    have v4 := hv.1.2.2.2.1
    obtain ⟨J', L', a1, a2, a3, a4, a5⟩ := m_134 (k124 := k1) (k := k) (L0 := L0) hv hN (by omega) hT (shk D (D 8 k)) 0 J L zF (by omega) (zF_lt (by have := shk_le D (D 8 k); omega)) h1 h2 h3 h4
    have a1 : zlp4 (f_X12_run_134 k1) zF (nI k) 0 J L = _ := a1
    unfold f_X12_run_124
    rw [(h3.no hN).1.1 3 (by omega), if_neg (nI_ge (by omega) (by omega)), a1]
    exact ih J' L' a2 a3 a4 a5
/-- what the reference holds when it has found all -/
def SpecM (D : Nat → Nat → Nat) (J : zI) (L : zL) : Prop := dof D (D 0 3) ≤ 300 ∧ J 97 39 = nI (dof D (D 0 3)) ∧ DLM D J L (D 0 3) 0 ∧ RNo D J ∧ RNt D J
/-- places that the reference's run leaves -/
def FZ (J0 J : zI) : Prop := (∀ p, p < 97 ∨ (98 ≤ p ∧ p ≤ 117) → J p = J0 p) ∧ ∀ i, i ≠ 0 → i ≠ 30 → i ≠ 35 → i ≠ 38 → i ≠ 39 → J 97 i = J0 97 i
theorem m_run {J : zI} {L : zL} {H : Nat → Nat → Prop} (hv : DV D) (hd : DM D J) (hE : HS D H) (h11 : J 97 11 = 1) : ∃ v J' L', f_X12_run J L = some (v, J', L') ∧ FZ J J' ∧ (∀ p, p ≠ 129 → L' p = L p) ∧ ((300 < dof D (D 0 3) ∧ J' 97 0 = 2 ∧ J' 97 30 = 0) ∨ (J' 97 0 = 0 ∧ J' 97 30 = 1 ∧ v = nI (dof D (D 0 3)) ∧ SpecM D J' L')) := by
  have hd1 : DM D (zu J 97 0 0) := hd.cg (fun p _ _ => zu_pf _ _ (by omega)) (fun j hj => zu_k _ _ (by omega) _)
  obtain ⟨J2, a1, a2, a3⟩ := m_27 (J0 := zu J 97 0 0) (L := L) hv hd1 hE (D 0 0) 0 (zu J 97 0 0) zF (by omega) (zF_lt (by have := hv.1.1; omega)) (fun k q h => absurd h (by omega)) (fun l h => absurd h (by omega)) (fun _ _ _ _ _ => rfl)
  have hd2 : DM D J2 := hd1.cg (fun p _ _ => a3 p (by omega) (by omega) (by omega) (by omega)) (fun _ _ => by rw [a3 97 (by decide) (by decide) (by decide) (by decide)])
  have e55 := m_55 (L := L) hv hd2 a2 (D 0 3) 0 zF (by omega) (zF_lt (by have := hv.1.2.2.2.1; omega))
  have e55 : zlp4 f_X12_run_55 zF 0 0 J2 L = _ := e55
  have a1 : zlp3 f_X12_run_27 zF 0 (zu J 97 0 0) L = _ := a1
  have f2 : ∀ p, p < 97 ∨ (98 ≤ p ∧ p ≤ 117) → J2 p = J p := fun p hp => by rw [a3 p (by omega) (by omega) (by omega) (by omega), zu_pf _ _ (by omega)]
  have f97 : ∀ i, i ≠ 0 → J2 97 i = J 97 i := fun i hi => by rw [a3 97 (by decide) (by decide) (by decide) (by decide), zu_k _ _ hi]
  have run : f_X12_run J L = if dof D (D 0 3) ≤ 300 then f_X12_run_101 0 (zu J2 97 30 0) L else f_X12_run_101 2 (zu J2 97 30 0) L := by
    unfold f_X12_run f_X12_run_13
    rw [if_neg (by rw [h11]; exact n10), zlt_b, zu_eq, if_pos (Int32.le_refl _), a1, e55]
  rw [run]
  by_cases z : dof D (D 0 3) ≤ 300
  · rw [if_pos z]
    have hd3 : DM D (zu (zu J2 97 30 0) 97 0 0) := hd2.cg (fun p _ _ => by rw [zu_pf _ _ (by omega), zu_pf _ _ (by omega)]) (fun j hj => by rw [zu_k _ _ (by omega), zu_k _ _ (by omega)])
    have hL3 : LSh D (zu (zu J2 97 30 0) 97 0 0) (D 0 0) := by
      unfold LSh
      rw [zu_pf _ _ (show 120 ≠ 97 by decide), zu_pf _ _ (show 120 ≠ 97 by decide), zu_pf _ _ (show 119 ≠ 97 by decide), zu_pf _ _ (show 119 ≠ 97 by decide)]; exact a2
    obtain ⟨J4, b1, b2, b3, b4⟩ := m_findNets hv hd3 hL3
    have hN5 : RNo D (zu J4 97 39 0) := b2.cg (fun p _ _ => zu_pf _ _ (by omega)) (fun j hj => zu_k _ _ (by omega) _)
    obtain ⟨J6, L6, c1, c2, c3, c4, c5⟩ := m_124 (J0 := zu J4 97 39 0) (L0 := L) hv hN5 z (D 0 3) 0 (zu J4 97 39 0) L zF (by omega) (zF_lt (by have := hv.1.2.2.2.1; omega)) (zu_eq _ _ _ _) ⟨fun k' _ h => absurd h (by omega), fun _ h => absurd h (by omega)⟩ ⟨fun _ _ => rfl, fun _ _ => rfl⟩ (fun _ _ => rfl)
    have c1 : zlp3 f_X12_run_124 zF 0 (zu J4 97 39 0) L = _ := c1
    have g6 : ∀ i, i ≠ 39 → J6 97 i = J4 97 i := fun i hi => by rw [c4.2 i hi, zu_k _ _ hi]
    have k0 : J4 97 0 = 0 := by rw [b4.2 0 (by decide) (by decide), zu_eq]
    refine ⟨nI (dof D (D 0 3)), zu J6 97 30 1, L6, ?_, ⟨fun p hp => ?_, fun i x y w u t => ?_⟩, c5, Or.inr ⟨?_, zu_eq _ _ _ _, rfl, z, ?_, ?_, ?_, ?_⟩⟩
    · unfold f_X12_run_101
      rw [zlt_b, zu_eq, if_pos (Int32.le_refl _), b1, zb1_b, zlt_b, c1]
    · rw [zu_pf _ _ (by omega), c4.1 p (by omega), zu_pf _ _ (by omega), b4.1 p (by omega) (by omega) (by omega) (by omega) (by omega), zu_pf _ _ (by omega), zu_pf _ _ (by omega), f2 p hp]
    · rw [zu_k _ _ y, g6 i t, b4.2 i w u, zu_k _ _ x, zu_k _ _ y, f97 i x]
    · rw [zu_k _ _ (by decide), g6 0 (by decide)]; exact k0
    · rw [zu_k _ _ (by decide)]; exact c2
    · have : ∀ p, p ≠ 97 → zu J6 97 30 1 p = J6 p := fun p hp => zu_pf _ _ hp
      refine ⟨fun k' pl a b => (c3.1 k' pl a b).om (hv.2.2.2.2.1 k' a).2.2.1 (Nat.lt_succ_self _) (fun d _ => ?_), fun pl a => absurd a (by omega)⟩
      rw [this 124 (by decide), this 125 (by decide), this 126 (by decide), this 127 (by decide), this 128 (by decide)]
      exact ⟨rfl, rfl, rfl, rfl, fun _ _ => rfl, fun _ _ => rfl⟩
    · exact (c4.no hN5).cg (fun p _ _ => zu_pf _ _ (by omega)) (fun j hj => zu_k _ _ (by omega) _)
    · refine ⟨fun n hn => ?_, ?_⟩
      · rw [zu_p _ _ (by decide), c4.1 123 (by omega), zu_p _ _ (by decide)]; exact b3.1 n hn
      · rw [zu_k _ _ (by decide), g6 38 (by decide)]; exact b3.2
  · rw [if_neg z]
    refine ⟨0, zu (zu J2 97 30 0) 97 0 2, L, ?_, ⟨fun p hp => by rw [zu_pf _ _ (by omega), zu_pf _ _ (by omega), f2 p hp], fun i x y _ _ _ => by rw [zu_k _ _ x, zu_k _ _ y, f97 i x]⟩, fun _ _ => rfl, Or.inl ⟨by omega, zu_eq _ _ _ _, by rw [zu_k _ _ (by decide), zu_eq]⟩⟩
    unfold f_X12_run_101
    rw [zlt_b, zu_eq, if_neg (by decide)]
end Ru
