/-! the reference's pins -/
def FQ (d : Nat) (J0 J : zI) : Prop := (∀ p, p ≠ 127 → p ≠ 128 → p ≠ 132 → J p = J0 p) ∧ (∀ e, e ≠ d → J 127 e = J0 127 e) ∧ ∀ i, i < 4 * d ∨ 4 * d + 4 ≤ i → J 128 i = J0 128 i
theorem FQ.refl (d : Nat) (J : zI) : FQ d J J := ⟨fun _ _ _ _ => rfl, fun _ _ => rfl, fun _ _ => rfl⟩
section Rp
variable {D : Nat → Nat → Nat} {A : Nat → Prop}
theorem tch_tS (hv : DV D) {w n : Nat} (hw : w < D 0 1) : tch D A w n ↔ ∃ x, x < shk D (D 4 w) ∧ n = fw D w + x ∧ tS D A (D 4 w) x := by
  have hnd := ndn_le hv
  constructor
  · rintro ⟨h1, b, b1, b2, b3⟩
    by_cases z : SqS D (D 4 w) b
    · have hlt := nod_lt hw z
      rw [nod_t z] at b3
      exact ⟨shf D (D 4 w) b, (sh_cls D (D 4 w)).1 b z, ((nI_eq (by omega) (by omega)).mp b3).symm, b, b1, b2, z, rfl⟩
    · rw [nod_f z] at b3
      exact absurd b3.symm (nI_m1 (by omega))
  · rintro ⟨x, x1, rfl, b, b1, b2, b3, rfl⟩
    exact ⟨nod_lt hw b3, b, b1, b2, nod_t b3⟩
theorem fm_63 {k11 : Int32 → Int32 → Int32 → Int32 → Int32 → zI → Option zI} {d k pl l i w : Nat} {J : zI} (hv : DV D) (hN : RNo D J) (hw : w < D 0 1) (hd : d < 300) (hi : i < 4) (h127 : J 127 d = 0 ∨ J 127 d = 1) (ht : ∀ x, x < shk D (D 4 w) → (J 132 x = 1 ∧ tS D A (D 4 w) x) ∨ (J 132 x = 0 ∧ ¬ tS D A (D 4 w) x)) : ∀ n v7 f, n ≤ shk D (D 4 w) → n < f → lFr (fun x => tch D A w x ∧ fw D w + n ≤ x) (fun j => J 128 (4 * d + j)) i v7 → ∃ v fl, zlp9 (f_X12_findPins_63 k11) f (nI d) (nI k) (nI pl) (nI l) (nI i) (nI w) v7 (nI n - 1) J = k11 (nI d) (nI k) (nI pl) (nI l) (nI (i + 1)) (zu (zu J 128 (4 * d + i) v) 127 d fl) ∧ lFr (tch D A w) (fun j => J 128 (4 * d + j)) i v ∧ ((fl = 1 ∧ (J 127 d = 1 ∨ v = -1)) ∨ (fl = 0 ∧ J 127 d = 0 ∧ v ≠ -1))
  | _, _, 0, _, h, _ => absurd h (by omega)
  | 0, v7, f + 1, _, _, hl => by
    have hlt : (nI 0 - 1 : Int32) < 0 := by decide
    have hl' : lFr (tch D A w) (fun j => J 128 (4 * d + j)) i v7 := LF_cg hl (fun x => ⟨fun h => h.1, fun h => ⟨h, by
      obtain ⟨y, _, rfl, _⟩ := (tch_tS hv hw).mp h
      omega⟩⟩) (fun _ _ => rfl)
    have e1 : zlp9 (f_X12_findPins_63 k11) (f + 1) (nI d) (nI k) (nI pl) (nI l) (nI i) (nI w) v7 (nI 0 - 1) J = f_X12_findPins_63 k11 (zlp9 (f_X12_findPins_63 k11) f) (nI d) (nI k) (nI pl) (nI l) (nI i) (nI w) v7 (nI 0 - 1) J := rfl
    rw [e1]
    generalize zlp9 (f_X12_findPins_63 k11) f = k1
    generalize (nI 0 - 1 : Int32) = v8 at hlt ⊢
    unfold f_X12_findPins_63 f_X12_findPins_154 f_X12_findPins_159
    have e127 : zu J 128 (4 * d + i) v7 127 d = J 127 d := zu_p _ _ (by decide) _
    rw [if_pos hlt, show (4 : Int32) = nI 4 from rfl, pk_mul, nI_add, zlt_b, zck_t _ (zbd_nI (by omega) (by decide)), nI_clamp (n := 4 * d + i) (by omega), zlt_b]
    simp only [zck_t _ (show zbd (nI d) 300 = true from zbd_nI hd (by decide)), zlt_b, nI_1, nI_clamp (show d < 2 ^ 31 by omega)]
    rw [e127]
    have n1 : vp_nar .boolean (1 : Int32) = 1 := by decide
    have n0 : vp_nar .boolean (0 : Int32) = 0 := by decide
    rw [n1, n0]
    rcases h127 with h | h
    · rw [if_pos h]
      by_cases z : v7 = -1
      · rw [if_pos z]; exact ⟨v7, 1, rfl, hl', Or.inl ⟨rfl, Or.inr z⟩⟩
      · rw [if_neg z]; exact ⟨v7, 0, rfl, hl', Or.inr ⟨rfl, h, z⟩⟩
    · rw [if_neg (by rw [h]; exact n10)]
      exact ⟨v7, 1, rfl, hl', Or.inl ⟨rfl, Or.inl h⟩⟩
  | n + 1, v7, f + 1, hn, hf, hl => by
    have ih := fun v7 => fm_63 (k11 := k11) (k := k) (pl := pl) (l := l) hv hN hw hd hi h127 ht n v7 f (by omega) (by omega)
    rw [nI_pred]
    have e1 : zlp9 (f_X12_findPins_63 k11) (f + 1) (nI d) (nI k) (nI pl) (nI l) (nI i) (nI w) v7 (nI n) J = f_X12_findPins_63 k11 (zlp9 (f_X12_findPins_63 k11) f) (nI d) (nI k) (nI pl) (nI l) (nI i) (nI w) v7 (nI n) J := rfl
    rw [e1]
    generalize zlp9 (f_X12_findPins_63 k11) f = k1 at ih ⊢
    have sk := shk_le D (D 4 w)
    have v2 := hv.1.2.1
    have hnd := ndn_le hv
    have em : nI n + (-1) = nI n - 1 := (Int32.sub_eq_add_neg _ _).symm
    have hmono := fw_mono D (a := w + 1) (D 0 1) (by omega)
    have hfw : fw D (w + 1) = fw D w + shk D (D 4 w) := rfl
    have hfn : fw D w + n < ndn D := by unfold ndn; omega
    have wid : ∀ x, (tch D A w x ∧ fw D w + n ≤ x) ↔ ((tch D A w x ∧ fw D w + (n + 1) ≤ x) ∨ (x = fw D w + n ∧ tS D A (D 4 w) n)) := fun x => by
      constructor
      · rintro ⟨a, b⟩
        by_cases z : x = fw D w + n
        · obtain ⟨y, y1, y2, y3⟩ := (tch_tS hv hw).mp a
          have : y = n := by omega
          subst this; exact Or.inr ⟨z, y3⟩
        · exact Or.inl ⟨a, by omega⟩
      · rintro (⟨a, b⟩ | ⟨rfl, b⟩)
        · exact ⟨a, by omega⟩
        · exact ⟨(tch_tS hv hw).mpr ⟨n, by omega, rfl, b⟩, Nat.le_refl _⟩
    have hadd := LF_add (N := ndn D) (n := fw D w + n) (by omega) (fun x (hx : tch D A w x ∧ fw D w + (n + 1) ≤ x) => hx.1.1) hfn hl
    unfold f_X12_findPins_63 f_X12_findPins_111 f_X12_findPins_113
    rw [if_neg (nI_pos (by omega)), zck_t _ (zbd_nI (by omega) (by decide)), nI_clamp (n := n) (by omega)]
    rcases ht n (by omega) with ⟨h1, h2⟩ | ⟨h1, h2⟩
    · have wid' : ∀ x, ((tch D A w x ∧ fw D w + (n + 1) ≤ x) ∨ x = fw D w + n) ↔ (tch D A w x ∧ fw D w + n ≤ x) := fun x => by
        rw [wid x]; exact or_congr Iff.rfl ⟨fun h => ⟨h, h2⟩, fun h => h.1⟩
      obtain ⟨b, g1, g2⟩ := m_isHad (J := J) (d := d) (mny := i) (nI (fw D w + n)) hd (by omega)
      have hz : ∀ x : Option zI, zck (zbd (nI w) 8) x = x := fun x => zck_t x (zbd_nI (by omega) (by decide))
      rw [if_neg (by rw [h1]; exact n10), hz, nI_clamp (n := w) (by omega), hN.2.2 w hw, nI_add, zlt_b, g1, zb1_b, hz, zlt_b, zlt_b, zlt_b, em]
      rcases g2 with ⟨rfl, g⟩ | ⟨rfl, g⟩
      · rw [if_neg n10]
        exact ih v7 (LF_cg (hadd.2 (Or.inr g)) wid' (fun _ _ => rfl))
      · rw [if_pos rfl]
        refine ih _ (LF_cg (hadd.1 ?_ g) wid' (fun _ _ => rfl))
        rcases hl with ⟨h, -⟩ | ⟨x, h, x1, -⟩
        · exact Or.inl h
        · refine Or.inr ?_
          rw [h]; exact nI_lt (by omega) (by have := x1.1.1; omega)
    · rw [if_pos h1, zlt_b, em]
      refine ih v7 (LF_cg hl (fun x => ?_) (fun _ _ => rfl))
      rw [wid x]
      exact ⟨fun h => Or.inl h, fun h => h.elim id (fun h => absurd h.2 h2)⟩
def BdP (D : Nat → Nat → Nat) (A : Nat → Prop) (k : Nat) (pn : Nat → Int32) (i : Nat) (X : Nat → Prop) : Prop := (∃ j, j < D 9 k ∧ pn j = -1) ∨ (∃ j, j < i ∧ ∃ x, tch D A (D 10 (4 * k + j)) x ∧ ∀ j', j' < D 9 k → pn j' ≠ nI x) ∨ ∃ x, X x ∧ ∀ j', j' < D 9 k → pn j' ≠ nI x
theorem BdP_cg {k i i' : Nat} {pn : Nat → Int32} {X Y : Nat → Prop} (e : ((∃ j, j < i ∧ ∃ x, tch D A (D 10 (4 * k + j)) x ∧ ∀ j', j' < D 9 k → pn j' ≠ nI x) ∨ ∃ x, X x ∧ ∀ j', j' < D 9 k → pn j' ≠ nI x) ↔ ((∃ j, j < i' ∧ ∃ x, tch D A (D 10 (4 * k + j)) x ∧ ∀ j', j' < D 9 k → pn j' ≠ nI x) ∨ ∃ x, Y x ∧ ∀ j', j' < D 9 k → pn j' ≠ nI x)) : BdP D A k pn i X ↔ BdP D A k pn i' Y := or_congr Iff.rfl e
theorem fm_205 {k169 : Int32 → Int32 → Int32 → Int32 → Int32 → zI → Option zI} {d k pl l i w : Nat} {J0 : zI} (hv : DV D) (hN : RNo D J0) (hk : k < D 0 3) (hw : w < D 0 1) (hd : d < 300) (ht : ∀ x, x < shk D (D 4 w) → (J0 132 x = 1 ∧ tS D A (D 4 w) x) ∨ (J0 132 x = 0 ∧ ¬ tS D A (D 4 w) x)) : ∀ r n J f, n + r = shk D (D 4 w) → r < f → (∀ p, p ≠ 127 → J p = J0 p) → (∀ e, e ≠ d → J 127 e = J0 127 e) → ((J 127 d = 1 ∧ BdP D A k (fun j => J0 128 (4 * d + j)) i (fun x => tch D A w x ∧ x < fw D w + n)) ∨ (J 127 d = 0 ∧ ¬ BdP D A k (fun j => J0 128 (4 * d + j)) i (fun x => tch D A w x ∧ x < fw D w + n))) → ∃ J', zlp8 (f_X12_findPins_205 k169) f (nI d) (nI k) (nI pl) (nI l) (nI i) (nI w) (nI n) J = k169 (nI d) (nI k) (nI pl) (nI l) (nI (i + 1)) J' ∧ (∀ p, p ≠ 127 → J' p = J0 p) ∧ (∀ e, e ≠ d → J' 127 e = J0 127 e) ∧ ((J' 127 d = 1 ∧ BdP D A k (fun j => J0 128 (4 * d + j)) i (tch D A w)) ∨ (J' 127 d = 0 ∧ ¬ BdP D A k (fun j => J0 128 (4 * d + j)) i (tch D A w)))
  | _, _, _, 0, _, h, _, _, _ => absurd h (by omega)
  | 0, n, J, f + 1, hn, _, h1, h2, h3 => by
    have : n = shk D (D 4 w) := by omega
    subst this
    have v2 := hv.1.2.1
    have v1 := hv.1.1
    have w3 := hv.2.2.1 w hw
    have eX : (fun x => tch D A w x ∧ x < fw D w + shk D (D 4 w)) = tch D A w := funext fun x => propext ⟨fun h => h.1, fun h => ⟨h, by
      obtain ⟨y, y1, rfl, _⟩ := (tch_tS hv hw).mp h
      omega⟩⟩
    rw [eX] at h3
    refine ⟨J, ?_, h1, h2, h3⟩
    show f_X12_findPins_205 k169 _ (nI d) (nI k) (nI pl) (nI l) (nI i) (nI w) (nI _) J = _
    unfold f_X12_findPins_205
    rw [zck_t _ (zbd_nI (by omega) (by decide)), nI_clamp (n := w) (by omega), h1 109 (by decide), hN.1.2.2.2.1 w hw, zlt_b, zck_t _ (zbd_nI (by omega) (by decide)), nI_clamp (n := D 4 w) (by omega), h1 120 (by decide), (hN.2.1 _ w3).1, if_pos (Int32.le_refl _), zlt_b, nI_1]
  | r + 1, n, J, f + 1, hn, hf, h1, h2, h3 => by
    have ih := fun J => fm_205 (k169 := k169) (k := k) (pl := pl) (l := l) (i := i) hv hN hk hw hd ht r (n + 1) J f (by omega) (by omega)
    have e1 : zlp8 (f_X12_findPins_205 k169) (f + 1) (nI d) (nI k) (nI pl) (nI l) (nI i) (nI w) (nI n) J = f_X12_findPins_205 k169 (zlp8 (f_X12_findPins_205 k169) f) (nI d) (nI k) (nI pl) (nI l) (nI i) (nI w) (nI n) J := rfl
    rw [e1]
    generalize zlp8 (f_X12_findPins_205 k169) f = k1 at ih ⊢
    have v2 := hv.1.2.1
    have v1 := hv.1.1
    have v4 := hv.1.2.2.2.1
    have w3 := hv.2.2.1 w hw
    have sk := shk_le D (D 4 w)
    have hnd := ndn_le hv
    obtain ⟨z1, z2, z3, z4⟩ := hv.2.2.2.2.1 k hk
    have hc := (hN.1.2.2.2.2.2.1 k hk).2.1
    have n1 : vp_nar .boolean (1 : Int32) = 1 := by decide
    have n0 : vp_nar .boolean (0 : Int32) = 0 := by decide
    have wid : ∀ x, (tch D A w x ∧ x < fw D w + (n + 1)) ↔ ((tch D A w x ∧ x < fw D w + n) ∨ (x = fw D w + n ∧ tS D A (D 4 w) n)) := fun x => by
      constructor
      · rintro ⟨a, b⟩
        by_cases z : x = fw D w + n
        · obtain ⟨y, y1, y2, y3⟩ := (tch_tS hv hw).mp a
          have : y = n := by omega
          subst this; exact Or.inr ⟨z, y3⟩
        · exact Or.inl ⟨a, by omega⟩
      · rintro (⟨a, b⟩ | ⟨rfl, b⟩)
        · exact ⟨a, by omega⟩
        · exact ⟨(tch_tS hv hw).mpr ⟨n, by omega, rfl, b⟩, by omega⟩
    have up : BdP D A k (fun j => J0 128 (4 * d + j)) i (fun x => tch D A w x ∧ x < fw D w + n) → BdP D A k (fun j => J0 128 (4 * d + j)) i (fun x => tch D A w x ∧ x < fw D w + (n + 1)) := fun h => h.imp id (fun h => h.imp id (fun ⟨x, a, b⟩ => ⟨x, (wid x).mpr (Or.inl a), b⟩))
    have nx : ∀ fl : Int32, ((fl = 1 ∧ BdP D A k (fun j => J0 128 (4 * d + j)) i (fun x => tch D A w x ∧ x < fw D w + (n + 1))) ∨ (fl = 0 ∧ ¬ BdP D A k (fun j => J0 128 (4 * d + j)) i (fun x => tch D A w x ∧ x < fw D w + (n + 1)))) → _ := fun fl hfl => ih (zu J 127 d fl) (fun p hp => by rw [zu_pf _ _ hp]; exact h1 p hp) (fun e he => by rw [zu_k _ _ he]; exact h2 e he) (by rw [zu_eq]; exact hfl)
    unfold f_X12_findPins_205 f_X12_findPins_270 f_X12_findPins_274 f_X12_findPins_275
    rw [zck_t _ (zbd_nI (by omega) (by decide)), nI_clamp (n := w) (by omega), h1 109 (by decide), hN.1.2.2.2.1 w hw, zlt_b, zck_t _ (zbd_nI (by omega) (by decide)), nI_clamp (n := D 4 w) (by omega), h1 120 (by decide), (hN.2.1 _ w3).1, if_neg (nI_ge (by omega) (by omega))]
    simp only [zck_t _ (show zbd (nI d) 300 = true from zbd_nI hd (by decide)), zck_t _ (show zbd (nI n) 4096 = true from zbd_nI (by omega) (by decide)), zck_t _ (show zbd (nI k) 16 = true from zbd_nI (by omega) (by decide)), zck_t _ (show zbd (nI w) 8 = true from zbd_nI (by omega) (by decide)), zlt_b, nI_1, nI_clamp (show d < 2 ^ 31 by omega), nI_clamp (show n < 2 ^ 31 by omega), nI_clamp (show k < 2 ^ 31 by omega), nI_clamp (show w < 2 ^ 31 by omega), n1, n0]
    rw [h1 132 (by decide), h1 115 (by decide), hc, h1 121 (by decide), hN.2.2 w hw, nI_add]
    rcases h3 with ⟨h3, h4⟩ | ⟨h3, h4⟩
    · rw [if_neg (by rw [h3]; exact n10)]
      exact nx 1 (Or.inl ⟨rfl, up h4⟩)
    · rw [if_pos h3]
      have no : ∀ fl, (¬ ∃ x, (x = fw D w + n ∧ tS D A (D 4 w) n) ∧ ∀ j', j' < D 9 k → J0 128 (4 * d + j') ≠ nI x) → fl = (0 : Int32) → ((fl = 1 ∧ BdP D A k (fun j => J0 128 (4 * d + j)) i (fun x => tch D A w x ∧ x < fw D w + (n + 1))) ∨ (fl = 0 ∧ ¬ BdP D A k (fun j => J0 128 (4 * d + j)) i (fun x => tch D A w x ∧ x < fw D w + (n + 1)))) := fun fl hno hfl => Or.inr ⟨hfl, fun h => h4 (h.imp id (fun h => h.imp id (fun ⟨x, a, b⟩ => ⟨x, ((wid x).mp a).elim id (fun y => absurd ⟨x, y, b⟩ hno), b⟩)))⟩
      rcases ht n (by omega) with ⟨t1, t2⟩ | ⟨t1, t2⟩
      · rw [if_neg (by rw [t1]; exact n10)]
        obtain ⟨b, g1, g2⟩ := m_isHad (J := J) (d := d) (mny := D 9 k) (nI (fw D w + n)) hd z3
        rw [g1, zb1_b]
        have e128 : J 128 = J0 128 := h1 128 (by decide)
        rw [e128] at g2
        rcases g2 with ⟨rfl, j, j1, j2⟩ | ⟨rfl, g⟩
        · rw [if_neg n10]
          exact nx 0 (no 0 (fun ⟨x, ⟨e, _⟩, y⟩ => y j j1 (by rw [e]; exact j2)) rfl)
        · rw [if_pos rfl]
          exact nx 1 (Or.inl ⟨rfl, Or.inr (Or.inr ⟨fw D w + n, (wid _).mpr (Or.inr ⟨rfl, t2⟩), g⟩)⟩)
      · rw [if_pos t1]
        exact nx 0 (no 0 (fun ⟨x, ⟨_, e⟩, _⟩ => t2 e) rfl)
end Rp
