/-! the class's pins, all of a device -/
theorem NW.cg {D : Nat → Nat → Nat} {I I' : zI} (h : NW D I) (hw : D 0 1 ≤ 8) (e : ∀ p, 61 ≤ p → p ≤ 72 → I' p = I p) : NW D I' := ⟨fun w q a b => by rw [e (63 + w) (by omega) (by omega)]; exact h.1 w q a b, by rw [e 72 (by omega) (by omega)]; exact h.2.1, by rw [e 61 (by omega) (by omega)]; exact h.2.2⟩
theorem HS_L {D : Nat → Nat → Nat} {L L' : zL} (hv : DV D) (hH : HS D (Hc L)) (e : ∀ l, l < 24 → L' (33 + l) = L (33 + l)) : HS D (Hc L') := by
  have v1 := hv.1.1
  have : ∀ l q, l < D 0 0 → (Hc L' l q ↔ Hc L l q) := fun l q hl => by unfold Hc; rw [e l (by omega)]
  intro l q hl hq
  obtain ⟨-, -, d⟩ := hv.2.1 l hl
  rw [this l q hl, hH l q hl hq]
  constructor
  · rintro (h | ⟨h, h1, h2⟩ | ⟨h, h1⟩ | ⟨h, h1, h2⟩)
    · exact Or.inl h
    · exact Or.inr (Or.inl ⟨h, (this _ _ (by have := d (by omega); omega)).mpr h1, (this _ _ (by have := d (by omega); omega)).mpr h2⟩)
    · exact Or.inr (Or.inr (Or.inl ⟨h, h1.imp (this _ _ (by have := d (by omega); omega)).mpr (this _ _ (by have := d (by omega); omega)).mpr⟩))
    · exact Or.inr (Or.inr (Or.inr ⟨h, (this _ _ (by have := d (by omega); omega)).mpr h1, fun w => h2 ((this _ _ (by have := d (by omega); omega)).mp w)⟩))
  · rintro (h | ⟨h, h1, h2⟩ | ⟨h, h1⟩ | ⟨h, h1, h2⟩)
    · exact Or.inl h
    · exact Or.inr (Or.inl ⟨h, (this _ _ (by have := d (by omega); omega)).mp h1, (this _ _ (by have := d (by omega); omega)).mp h2⟩)
    · exact Or.inr (Or.inr (Or.inl ⟨h, h1.imp (this _ _ (by have := d (by omega); omega)).mp (this _ _ (by have := d (by omega); omega)).mp⟩))
    · exact Or.inr (Or.inr (Or.inr ⟨h, (this _ _ (by have := d (by omega); omega)).mp h1, fun w => h2 ((this _ _ (by have := d (by omega); omega)).mpr w)⟩))
section Pm
variable {A : Nat → Prop} {lo hi : Nat} {D : Nat → Nat → Nat} {P w m k : Nat} {L : zL}
theorem ff_8 {I : zI} (hv : DV D) (hw : w < D 0 1) (hP : PA A lo hi I L) (hR : HR A lo hi L) (hd : DC P D I) (hH : HS D (Hc L)) (hN : NW D I) (hm : m ≤ 4) (h5 : I 74 5 = nI m) : ∀ r y v3 f, lo - 1 ≤ y → y + r = min 63 (hi + 1) + 1 → r < f → lFr (TC D A w (64 * y)) (I 75) m v3 → ∃ v, zlp5 (f_X6_firstFree_8 P) f (nI w) v3 (nI y) I L = some v ∧ lFr (tch D A w) (I 75) m v
  | _, _, _, 0, _, _, h, _ => absurd h (by omega)
  | 0, y, v3, f + 1, _, hy, _, hl => by
    refine ⟨v3, ?_, LF_cg hl (fun x => ⟨fun ⟨a, q, q1, q2⟩ => ⟨a, q, by omega, q2⟩, fun ⟨a, q, q1, q2, q3⟩ => ⟨a, q, ?_, q2, q3⟩⟩) (fun _ _ => rfl)⟩
    · show f_X6_firstFree_8 P _ (nI w) v3 (nI y) I L = _
      unfold f_X6_firstFree_8
      rw [e_highest hP, zb1_b, if_pos (nI_lt (by omega) (by omega))]
    · have := Hal_in hP q1 q2; omega
  | r + 1, y, v3, f + 1, hlo, hy, hf, hl => by
    have ih := fun v3 => ff_8 hv hw hP hR hd hH hN hm h5 r (y + 1) v3 f (by omega) (by omega) (by omega)
    have e1 : zlp5 (f_X6_firstFree_8 P) (f + 1) (nI w) v3 (nI y) I L = f_X6_firstFree_8 P (zlp5 (f_X6_firstFree_8 P) f) (nI w) v3 (nI y) I L := rfl
    rw [e1]
    generalize zlp5 (f_X6_firstFree_8 P) f = k1 at ih ⊢
    have v2 := hv.1.2.1
    have v1 := hv.1.1
    have w3 := hv.2.2.1 w hw
    have c1 := hd.2.2.2.1 w hw
    have hb : zbd (nI y) 64 = true := zbd_nI (by omega) (by decide)
    have hcl : (nI y).toNatClampNeg = y := nI_clamp (by omega)
    have eS := SS_eq hv hH w3
    unfold f_X6_firstFree_8
    rw [e_highest hP, zb1_b, if_neg (nI_nlt (by omega) (by omega)), zck_t _ hb, zck_t _ (zbd_nI (by omega) (by decide)), nI_clamp (n := w) (by omega), c1, zlt_b, zck_t _ (zbd_nI (by omega) (by decide)), zck_t _ hb, hcl, nI_clamp (n := D 4 w) (by omega), zlt_b, e_bitCount, zb1_b]
    obtain ⟨v3', a1, a2⟩ := ff_51 (k8 := k1) (P := P) (L := L) (y := y) hv hw hN hm h5 (by omega) (cnt (L 76 y &&& L (33 + D 4 w) y).toBitVec.toNat 64) (64 * y) v3 (L 76 y &&& L (33 + D 4 w) y) zF (zF_lt (by
      have : ∀ N k, cnt N k ≤ k := fun N k => by
        induction k with
        | zero => exact Nat.le_refl _
        | succ k ih => show cnt N k + _ ≤ _; split <;> omega
      have := this (L 76 y &&& L (33 + D 4 w) y).toBitVec.toNat 64; omega)) rfl (by omega) (by omega) (fun x hx => by
        rw [bt_and, Bool.and_eq_true, hR y x hlo (by omega) hx, eS]
        have : (bt (L (33 + D 4 w) y) x = true) ↔ Hc L (D 4 w) (64 * y + x) := by
          unfold Hc
          rw [show (64 * y + x) / 64 = y by omega, show (64 * y + x) % 64 = x by omega]
        rw [this]
        exact ⟨fun ⟨a, b⟩ => ⟨by omega, a, by omega, b⟩, fun ⟨_, a, _, b⟩ => ⟨a, b⟩⟩) hl
    rw [a1]
    exact ih v3' (by rw [show 64 * (y + 1) = 64 * y + 64 by omega]; exact a2)
theorem c_ff {I : zI} (hv : DV D) (hw : w < D 0 1) (hP : PA A lo hi I L) (hR : HR A lo hi L) (hd : DC P D I) (hH : HS D (Hc L)) (hN : NW D I) (hm : m ≤ 4) (h5 : I 74 5 = nI m) : ∃ v, f_X6_firstFree P (nI w) I L = some v ∧ lFr (tch D A w) (I 75) m v := by
  unfold f_X6_firstFree
  rw [e_lowest hP, zb1_b]
  have := hP.2.2.1; have := hP.2.2.2.1
  refine ff_8 hv hw hP hR hd hH hN hm h5 (min 63 (hi + 1) + 1 - (lo - 1)) (lo - 1) (-1) zF (Nat.le_refl _) (by omega) (zF_lt (by omega)) (Or.inl ⟨rfl, fun x ⟨_, q, q1, q2, _⟩ => ?_⟩)
  have := Hal_in hP (by omega) q2; omega
theorem fp_92 {I : zI} (hv : DV D) (hk : k < D 0 3) (hP : PA A lo hi I L) (hR : HR A lo hi L) (hd : DC P D I) (hH : HS D (Hc L)) (hN : NW D I) (h5 : I 74 5 = nI (D 9 k)) : ∀ r i b f, i + r = D 9 k → r < f → ((b = 1 ∧ ((∃ j, j < D 9 k ∧ I 75 j = -1) ∨ ∃ j, j < i ∧ ∃ x, tch D A (D 10 (4 * k + j)) x ∧ ∀ j', j' < D 9 k → I 75 j' ≠ nI x)) ∨ (b = 0 ∧ (∀ j, j < D 9 k → I 75 j ≠ -1) ∧ ∀ j, j < i → ∀ x, tch D A (D 10 (4 * k + j)) x → ∃ j', j' < D 9 k ∧ I 75 j' = nI x)) → ∃ b', zlp6 (f_X6_findPins_92 P) f (nI k) b (nI (4 * k)) (nI i) I L = some (b', I, L) ∧ ((b' = 1 ∧ BadS D A k (I 75)) ∨ (b' = 0 ∧ ¬ BadS D A k (I 75)))
  | _, _, _, 0, _, h, _ => absurd h (by omega)
  | 0, i, b, f + 1, hi', _, hb => by
    have : i = D 9 k := by omega
    subst this
    refine ⟨b, ?_, ?_⟩
    · show f_X6_findPins_92 P _ (nI k) b (nI (4 * k)) (nI (D 9 k)) I L = _
      unfold f_X6_findPins_92
      have := hv.1.2.2.2.1
      rw [zck_t _ (zbd_nI (by omega) (by decide)), nI_clamp (n := k) (by omega), (hd.2.2.2.2.2.1 k hk).2.1, if_pos (Int32.le_refl _)]
      rcases hb with ⟨rfl, -⟩ | ⟨rfl, -⟩ <;> rfl
    · rcases hb with ⟨rfl, h | ⟨j, j1, x, x1, x2⟩⟩ | ⟨rfl, h1, h2⟩
      · obtain ⟨j, j1, j2⟩ := h
        exact Or.inl ⟨rfl, j, j1, Or.inl j2⟩
      · exact Or.inl ⟨rfl, j, j1, Or.inr ⟨x, x1, x2⟩⟩
      · refine Or.inr ⟨rfl, ?_⟩
        rintro ⟨j, j1, h | ⟨x, x1, x2⟩⟩
        · exact h1 j j1 h
        · obtain ⟨j', a, b⟩ := h2 j j1 x x1
          exact x2 j' a b
  | r + 1, i, b, f + 1, hi', hf, hb => by
    have ih := fun b => fp_92 hv hk hP hR hd hH hN h5 r (i + 1) b f (by omega) (by omega)
    have e1 : zlp6 (f_X6_findPins_92 P) (f + 1) (nI k) b (nI (4 * k)) (nI i) I L = f_X6_findPins_92 P (zlp6 (f_X6_findPins_92 P) f) (nI k) b (nI (4 * k)) (nI i) I L := rfl
    rw [e1]
    generalize zlp6 (f_X6_findPins_92 P) f = k1 at ih ⊢
    have v4 := hv.1.2.2.2.1
    have v2 := hv.1.2.1
    obtain ⟨z1, z2, z3, z4⟩ := hv.2.2.2.2.1 k hk
    obtain ⟨c1, c2, c3⟩ := hd.2.2.2.2.2.1 k hk
    unfold f_X6_findPins_92 f_X6_findPins_126 f_X6_findPins_131
    rw [zck_t _ (zbd_nI (by omega) (by decide)), nI_clamp (n := k) (by omega), c2, if_neg (nI_ge (by omega) (by omega)), zlt_b, zlt_b, nI_1, nI_add, zck_t _ (zbd_nI (by omega) (by decide)), nI_clamp (n := 4 * k + i) (by omega), c3 i (by omega)]
    rcases hb with ⟨rfl, h⟩ | ⟨rfl, h1, h2⟩
    · rw [if_neg n10]
      exact ih 1 (Or.inl ⟨rfl, h.elim Or.inl (fun ⟨j, j1, j2⟩ => Or.inr ⟨j, by omega, j2⟩)⟩)
    · rw [if_pos rfl]
      obtain ⟨v, a1, a2⟩ := c_ff (w := D 10 (4 * k + i)) hv (z4 i (by omega)) hP hR hd hH hN (by omega) h5
      rw [a1, zb1_b]
      rcases a2 with ⟨rfl, a⟩ | ⟨x, rfl, x1, x2, x3⟩
      · rw [if_pos rfl]
        refine ih 0 (Or.inr ⟨rfl, h1, fun j hj x hx => ?_⟩)
        by_cases y : j = i
        · subst y; exact a x hx
        · exact h2 j (by omega) x hx
      · have := ndn_le hv
        rw [if_neg (nI_m1 (by have := x1.1; omega)), zlt_b]
        exact ih 1 (Or.inl ⟨rfl, Or.inr ⟨i, by omega, x, x1, x2⟩⟩)
theorem fp_19 {I0 : zI} (hPl : zpl P) (hv : DV D) (hk : k < D 0 3) (hP : PA A lo hi I0 L) (hR : HR A lo hi L) (hd : DC P D I0) (hH : HS D (Hc L)) (hN : NW D I0) : ∀ r i b I f, i + r = D 9 k → r < f → (∀ p, p ≠ 74 → p ≠ 75 → I p = I0 p) → (∀ j, j ≠ 5 → I 74 j = I0 74 j) → I 74 5 = nI i → (∀ j, j < i → lFr (tch D A (D 10 (4 * k + j))) (I 75) j (I 75 j)) → ((b = 1 ∧ ∃ j, j < i ∧ I 75 j = -1) ∨ (b = 0 ∧ ∀ j, j < i → I 75 j ≠ -1)) → ∃ b' I', zlp6 (f_X6_findPins_19 P) f (nI k) b (nI (4 * k)) (nI i) I L = some (b', I', L) ∧ (∀ p, p ≠ 74 → p ≠ 75 → I' p = I0 p) ∧ PinS D A k (I' 75) ∧ ((b' = 1 ∧ BadS D A k (I' 75)) ∨ (b' = 0 ∧ ¬ BadS D A k (I' 75)))
  | _, _, _, _, 0, _, h, _, _, _, _, _ => absurd h (by omega)
  | 0, i, b, I, f + 1, hi', _, h1, _, h5, hp, hb => by
    have : i = D 9 k := by omega
    subst this
    have hdI : DC P D I := hd.cg hPl (fun p _ _ => h1 p (by omega) (by omega)) (fun p _ _ => h1 p (by omega) (by omega))
    have hNI : NW D I := hN.cg hv.1.2.1 (fun p _ _ => h1 p (by omega) (by omega))
    have hPI : PA A lo hi I L := hP.cg (h1 57 (by decide) (by decide)) rfl
    obtain ⟨b', a1, a2⟩ := fp_92 hv hk hPI hR hdI hH hNI h5 (D 9 k) 0 b zF (by omega) (zF_lt (by have := (hv.2.2.2.2.1 k hk).2.2.1; omega)) (by
      rcases hb with ⟨rfl, h⟩ | ⟨rfl, h⟩
      · exact Or.inl ⟨rfl, Or.inl h⟩
      · exact Or.inr ⟨rfl, h, fun j hj => absurd hj (by omega)⟩)
    refine ⟨b', I, ?_, h1, hp, a2⟩
    show f_X6_findPins_19 P _ (nI k) b (nI (4 * k)) (nI (D 9 k)) I L = _
    unfold f_X6_findPins_19
    have := hv.1.2.2.2.1
    rw [zck_t _ (zbd_nI (by omega) (by decide)), nI_clamp (n := k) (by omega), (hdI.2.2.2.2.2.1 k hk).2.1, if_pos (Int32.le_refl _)]
    exact a1
  | r + 1, i, b, I, f + 1, hi', hf, h1, h1', h5, hp, hb => by
    have ih := fun b I => fp_19 hPl hv hk hP hR hd hH hN r (i + 1) b I f (by omega) (by omega)
    have e1 : zlp6 (f_X6_findPins_19 P) (f + 1) (nI k) b (nI (4 * k)) (nI i) I L = f_X6_findPins_19 P (zlp6 (f_X6_findPins_19 P) f) (nI k) b (nI (4 * k)) (nI i) I L := rfl
    rw [e1]
    generalize zlp6 (f_X6_findPins_19 P) f = k1 at ih ⊢
    have v4 := hv.1.2.2.2.1
    have v2 := hv.1.2.1
    have hdI : DC P D I := hd.cg hPl (fun p _ _ => h1 p (by omega) (by omega)) (fun p _ _ => h1 p (by omega) (by omega))
    have hNI : NW D I := hN.cg hv.1.2.1 (fun p _ _ => h1 p (by omega) (by omega))
    have hPI : PA A lo hi I L := hP.cg (h1 57 (by decide) (by decide)) rfl
    obtain ⟨z1, z2, z3, z4⟩ := hv.2.2.2.2.1 k hk
    obtain ⟨c1, c2, c3⟩ := hdI.2.2.2.2.2.1 k hk
    obtain ⟨v, a1, a2⟩ := c_ff (w := D 10 (4 * k + i)) hv (z4 i (by omega)) hPI hR hdI hH hNI (show i ≤ 4 by omega) h5
    have hor := LF_or (fun x (hx : tch D A (D 10 (4 * k + i)) x) => hx.1) a2
    have nx : ∀ b', ((b' = 1 ∧ ∃ j, j < i + 1 ∧ zu I 75 i v 75 j = -1) ∨ (b' = 0 ∧ ∀ j, j < i + 1 → zu I 75 i v 75 j ≠ -1)) → ∃ b'' I', zlt (zu I 75 i v 74 5 + 1) (fun x19 => zlt (zu (zu I 75 i v) 74 5 x19) (fun I20 => zlt (nI i + 1) (fun x21 => k1 (nI k) b' (nI (4 * k)) x21 I20 L))) = some (b'', I', L) ∧ (∀ p, p ≠ 74 → p ≠ 75 → I' p = I0 p) ∧ PinS D A k (I' 75) ∧ ((b'' = 1 ∧ BadS D A k (I' 75)) ∨ (b'' = 0 ∧ ¬ BadS D A k (I' 75))) := by
      intro b' hb'
      rw [zlt_b, zlt_b, zlt_b, nI_1, zu_p _ _ (by decide), h5, nI_1]
      have e75 : zu (zu I 75 i v) 74 5 (nI (i + 1)) 75 = zu I 75 i v 75 := zu_pf _ _ (by decide)
      refine ih b' _ (fun p x y => by rw [zu_pf _ _ x, zu_pf _ _ y]; exact h1 p x y) (fun j hj => by rw [zu_k _ _ hj, zu_p _ _ (by decide)]; exact h1' j hj) (zu_eq _ _ _ _) (fun j hj => ?_) (by rw [e75]; exact hb')
      rw [e75]
      by_cases y : j = i
      · subst y
        rw [zu_eq]
        exact LF_cg a2 (fun _ => Iff.rfl) (fun j' hj' => zu_k _ _ (by omega) _)
      · rw [zu_k _ _ y]
        exact LF_cg (hp j (by omega)) (fun _ => Iff.rfl) (fun j' hj' => zu_k _ _ (by omega) _)
    unfold f_X6_findPins_19 f_X6_findPins_67 f_X6_findPins_72
    rw [zck_t _ (zbd_nI (by omega) (by decide)), nI_clamp (n := k) (by omega), c2, if_neg (nI_ge (by omega) (by omega)), nI_add, zlt_b, zck_t _ (zbd_nI (by omega) (by decide)), nI_clamp (n := 4 * k + i) (by omega), c3 i (by omega), a1, zb1_b, zck_t _ (zbd_nI (by omega) (by decide)), nI_clamp (n := i) (by omega), zlt_b, zck_t _ (zbd_nI (by omega) (by decide)), zu_eq]
    rcases hb with ⟨rfl, j, j1, j2⟩ | ⟨rfl, h⟩
    · rw [if_neg n10]
      exact nx 1 (Or.inl ⟨rfl, j, by omega, by rw [zu_k _ _ (by omega)]; exact j2⟩)
    · rw [if_pos rfl]
      by_cases y : v = -1
      · rw [if_pos y]
        exact nx 1 (Or.inl ⟨rfl, i, by omega, by rw [zu_eq]; exact y⟩)
      · rw [if_neg y]
        exact nx 0 (Or.inr ⟨rfl, fun j hj => by
          by_cases y2 : j = i
          · subst y2; rw [zu_eq]; exact y
          · rw [zu_k _ _ y2]; exact h j (by omega)⟩)
theorem c_findPins {I : zI} (hPl : zpl P) (hv : DV D) (hk : k < D 0 3) (hP : PA A lo hi I L) (hd : DC P D I) (hH : HS D (Hc L)) (hN : NW D I) : ∃ b I' L', f_X6_findPins P (nI k) I L = some (b, I', L') ∧ (∀ p, p ≠ 74 → p ≠ 75 → I' p = I p) ∧ (∀ p, p ≠ 76 → L' p = L p) ∧ HR A lo hi L' ∧ PinS D A k (I' 75) ∧ ((b = 1 ∧ BadS D A k (I' 75)) ∨ (b = 0 ∧ ¬ BadS D A k (I' 75))) := by
  obtain ⟨L', a1, a2, a3⟩ := c_halo hP
  have v4 := hv.1.2.2.2.1
  have v1 := hv.1.1
  have hH' : HS D (Hc L') := HS_L hv hH (fun l _ => a2 (33 + l) (by omega))
  obtain ⟨b, I', b1, b2, b3, b4⟩ := fp_19 (I0 := I) hPl hv hk (hP.cg rfl (a2 58 (by decide))) a3 hd hH' hN (D 9 k) 0 0 (zu I 74 5 0) zF (by omega) (zF_lt (by have := (hv.2.2.2.2.1 k hk).2.2.1; omega)) (fun p x y => zu_pf _ _ x) (fun j hj => zu_k _ _ hj _) (zu_eq _ _ _ _) (fun j hj => absurd hj (by omega)) (Or.inr ⟨rfl, fun j hj => absurd hj (by omega)⟩)
  refine ⟨b, I', L', ?_, b2, a2, a3, b3, b4⟩
  unfold f_X6_findPins
  rw [a1, zb1_b, zlt_b, zlt_b, show (4 : Int32) = nI 4 from rfl, pk_mul, Nat.mul_comm]
  exact b1
end Pm
