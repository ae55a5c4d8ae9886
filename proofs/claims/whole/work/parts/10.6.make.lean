/-! the reference makes a layer -/
def b01 (b : Bool) : Int32 := if b = true then 1 else 0
theorem nar_b (b : Bool) : vp_nar .boolean (b01 b) = b01 b := by cases b <;> decide
theorem zbo_b (b : Bool) : zbo (b01 b) = true := by cases b <;> decide
theorem b01_0 (b : Bool) : b01 b = 0 ↔ b = false := by cases b <;> decide
theorem b01_1 (b : Bool) : b01 b = 1 ↔ b = true := by cases b <;> decide
section Mk2
variable {D : Nat → Nat → Nat} {J : zI}
theorem m_open {p : Nat} (hv : DV D) (hd : DM D J) (hp : p < D 0 4) : (clsd D p → f_X12_isOpen (nI p) J = some 0) ∧ (¬ clsd D p → f_X12_isOpen (nI p) J = some 1) := by
  obtain ⟨v1, v2, v3⟩ := hv.2.2.2.2.2 p hp
  obtain ⟨c1, c2, c3⟩ := hd.2.2.2.2.2.2 p hp
  have h60 := hv.1.2.2.2.2
  have hb : zbd (nI p) 60 = true := zbd_nI (by omega) (by decide)
  have hcl : (nI p).toNatClampNeg = p := nI_clamp (by omega)
  unfold f_X12_isOpen f_X12_isOpen_46 f_X12_isOpen_66 f_X12_isOpen_69 f_X12_isOpen_74
  simp only [zlt_b, zck_t _ hb, hcl, c2, zck_t _ zbo_1, zck_t _ zbo_0]
  rw [show (16 : Int32) * nI p = nI (16 * p) from by rw [show (16 : Int32) = nI 16 from rfl, pk_mul]]
  by_cases h4 : D 12 p < 4
  · rw [if_pos (show nI (D 12 p) < 4 from nI_lt (b := 4) h4 (by decide))]
    exact ⟨fun z => absurd z.1 (by omega), fun _ => rfl⟩
  · rw [if_neg (show ¬ nI (D 12 p) < 4 from nI_nlt (b := 4) (by omega) (by omega))]
    have ex : nI (16 * p) + nI (D 12 p) - 1 = nI (16 * p + (D 12 p - 1)) := by
      rw [nI_add, show (1 : Int32) = nI 1 from rfl, pk_sub (by omega)]; congr 1; omega
    rw [ex]
    have b1 : zbd (nI (16 * p)) 960 = true := zbd_nI (by omega) (by decide)
    have b2 : zbd (nI (16 * p + (D 12 p - 1))) 960 = true := zbd_nI (by omega) (by decide)
    have f0 := c3 0 (by omega)
    have fl := c3 (D 12 p - 1) (by omega)
    have g0 := v3 0 (by omega)
    have gl := v3 (D 12 p - 1) (by omega)
    rw [Nat.add_zero] at f0 g0
    rw [zck_t _ b1, zck_t _ b2, zck_t _ b1, zck_t _ b2, nI_clamp (show 16 * p < 2 ^ 31 by omega), nI_clamp (show 16 * p + (D 12 p - 1) < 2 ^ 31 by omega), f0.1, f0.2, fl.1, fl.2]
    unfold clsd
    have h4' : 4 ≤ D 12 p := by omega
    by_cases z1 : D 13 (16 * p) = D 13 (16 * p + (D 12 p - 1))
    · rw [if_pos (by rw [z1])]
      by_cases z2 : D 14 (16 * p) = D 14 (16 * p + (D 12 p - 1))
      · rw [if_pos (by rw [z2])]
        exact ⟨fun w => absurd ⟨fun _ => z2, fun _ => z1⟩ w.2, fun _ => by first | rfl | simp⟩
      · rw [if_neg (fun w => z2 ((nI_eq (by omega) (by omega)).mp w))]
        exact ⟨fun _ => by first | rfl | simp, fun w => absurd ⟨h4', fun y => z2 (y.mp z1)⟩ w⟩
    · rw [if_neg (fun w => z1 ((nI_eq (by omega) (by omega)).mp w))]
      rw [zck_t _ b1, zck_t _ b2]
      by_cases z2 : D 14 (16 * p) = D 14 (16 * p + (D 12 p - 1))
      · rw [if_pos (by rw [z2])]
        exact ⟨fun _ => by first | rfl | simp, fun w => absurd ⟨h4', fun y => z1 (y.mpr z2)⟩ w⟩
      · rw [if_neg (fun w => z2 ((nI_eq (by omega) (by omega)).mp w))]
        exact ⟨fun w => absurd ⟨fun y => absurd y z1, fun y => absurd y z2⟩ w.2, fun _ => by first | rfl | simp⟩
theorem m_cov {p x y : Nat} (hv : DV D) (hd : DM D J) (hp : p < D 0 4) (hx : x < 64) (hy : y < 64) : ∀ q k f, k + q = D 12 p → q < f → zlp6 f_X12_covers_6 f (nI p) (nI x) (nI y) (b01 (par D p x y k)) (nI k) J = some (b01 (par D p x y (D 12 p)))
  | _, _, 0, _, h => absurd h (by omega)
  | 0, k, f + 1, hk, _ => by
    have : k = D 12 p := by omega
    subst this
    have h60 := hv.1.2.2.2.2
    show f_X12_covers_6 _ (nI p) (nI x) (nI y) (b01 (par D p x y (D 12 p))) (nI (D 12 p)) J = _
    unfold f_X12_covers_6
    rw [zck_t _ (zbd_nI (by omega) (by decide)), nI_clamp (by omega), (hd.2.2.2.2.2.2 p hp).2.1, if_pos (Int32.le_refl _), zck_t _ (zbo_b _)]
  | q + 1, k, f + 1, hk, hf => by
    have ih := m_cov hv hd hp hx hy q (k + 1) f (by omega) (by omega)
    have e1 : zlp6 f_X12_covers_6 (f + 1) (nI p) (nI x) (nI y) (b01 (par D p x y k)) (nI k) J = f_X12_covers_6 (zlp6 f_X12_covers_6 f) (nI p) (nI x) (nI y) (b01 (par D p x y k)) (nI k) J := rfl
    rw [e1]
    generalize zlp6 f_X12_covers_6 f = k1 at ih ⊢
    obtain ⟨v1, v2, v3⟩ := hv.2.2.2.2.2 p hp
    obtain ⟨c1, c2, c3⟩ := hd.2.2.2.2.2.2 p hp
    have h60 := hv.1.2.2.2.2
    have hm : (k + 1) % D 12 p < D 12 p := Nat.mod_lt _ (by omega)
    obtain ⟨a1, a2⟩ := c3 k (by omega)
    obtain ⟨b1, b2⟩ := c3 ((k + 1) % D 12 p) hm
    obtain ⟨x1, x2⟩ := v3 k (by omega)
    obtain ⟨y1, y2⟩ := v3 ((k + 1) % D 12 p) hm
    have hb : zbd (nI p) 60 = true := zbd_nI (by omega) (by decide)
    have hcl : (nI p).toNatClampNeg = p := nI_clamp (by omega)
    have e16 : ∀ i, (16 : Int32) * nI p + nI i = nI (16 * p + i) := fun i => by rw [show (16 : Int32) = nI 16 from rfl, pk_mul, nI_add]
    unfold f_X12_covers_6 f_X12_covers_76
    simp only [zlt_b, zck_t _ hb, hcl, c2, nI_1]
    rw [if_neg (nI_ge (by omega) (by omega)), zck_t _ (decide_eq_true (nI_ne0 (by omega) (by omega))), pk_rem (by omega) (by omega) (by omega), e16, e16]
    have ba : zbd (nI (16 * p + k)) 960 = true := zbd_nI (by omega) (by decide)
    have bb : zbd (nI (16 * p + (k + 1) % D 12 p)) 960 = true := zbd_nI (by omega) (by decide)
    have ca : (nI (16 * p + k)).toNatClampNeg = 16 * p + k := nI_clamp (by omega)
    have cb : (nI (16 * p + (k + 1) % D 12 p)).toNatClampNeg = 16 * p + (k + 1) % D 12 p := nI_clamp (by omega)
    rw [zck_t _ ba, zck_t _ bb, zck_t _ ba, ca, cb, a1, b1]
    have ep : par D p x y (k + 1) = (par D p x y k ^^ sdB D p x y k ((k + 1) % D 12 p)) := rfl
    have keep : sdB D p x y k ((k + 1) % D 12 p) = false → f_X12_covers_132 k1 (nI p) (nI x) (nI y) (b01 (par D p x y k)) (nI k) J = some (b01 (par D p x y (D 12 p))) := by
      intro z
      unfold f_X12_covers_132 f_X12_covers_134
      rw [zlt_b, nI_1, ← ih, ep, z, Bool.xor_false]
    have flip : sdB D p x y k ((k + 1) % D 12 p) = true → (if b01 (par D p x y k) = 0 then (f_X12_covers_134 k1 (nI p) (nI x) (nI y) (nI k) (1 : Int32) J) else (f_X12_covers_134 k1 (nI p) (nI x) (nI y) (nI k) (0 : Int32) J)) = some (b01 (par D p x y (D 12 p))) := by
      intro z
      unfold f_X12_covers_134
      rw [zlt_b, zlt_b, nI_1, ← ih, ep, z]
      cases par D p x y k <;> rfl
    have keep0 : sdB D p x y k ((k + 1) % D 12 p) = false → f_X12_covers_77 k1 (nI p) (nI x) (nI y) (b01 (par D p x y k)) (nI k) (nI (16 * p + k)) (nI (16 * p + (k + 1) % D 12 p)) 0 J = some (b01 (par D p x y (D 12 p))) := by
      intro z; unfold f_X12_covers_77; rw [if_pos rfl]; exact keep z
    by_cases z1 : D 13 (16 * p + k) = D 13 (16 * p + (k + 1) % D 12 p)
    · rw [if_pos (by rw [z1])]
      by_cases z2 : x < D 13 (16 * p + k)
      · rw [if_neg (nI_ge z2 (by omega))]
        unfold f_X12_covers_77 f_X12_covers_100 f_X12_covers_116
        simp only [zck_t _ ba, zck_t _ bb, ca, cb, a2, b2]
        rw [if_neg n10]
        by_cases z3 : y < D 14 (16 * p + k)
        · rw [if_pos (nI_lt z3 (by omega))]
          by_cases z4 : y < D 14 (16 * p + (k + 1) % D 12 p)
          · rw [if_pos (nI_lt z4 (by omega)), if_pos (by first | rfl | trivial)]
            exact keep (by unfold sdB; simp; intro _ _; omega)
          · rw [if_neg (nI_nlt (by omega) (by omega)), if_neg (by decide)]
            exact flip (by unfold sdB; simp; exact ⟨z1, z2, by omega⟩)
        · rw [if_neg (nI_nlt (by omega) (by omega))]
          by_cases z4 : y < D 14 (16 * p + (k + 1) % D 12 p)
          · rw [if_pos (nI_lt z4 (by omega)), if_neg (by decide)]
            exact flip (by unfold sdB; simp; exact ⟨z1, z2, by omega⟩)
          · rw [if_neg (nI_nlt (by omega) (by omega)), if_pos (by first | rfl | trivial)]
            exact keep (by unfold sdB; simp; intro _ _; omega)
      · rw [if_pos (nI_le (by omega) (by omega))]
        exact keep0 (by unfold sdB; simp; intro _ _; omega)
    · rw [if_neg (fun w => z1 ((nI_eq (by omega) (by omega)).mp w))]
      exact keep0 (by unfold sdB; simp; intro w; exact absurd w z1)
/-- the reference's layer squares -/
def Hm (J : zI) (l q : Nat) : Prop := J 118 (4096 * l + q) = 1
theorem m_23 {k2 : Int32 → Int32 → zI → Option zI} {l s : Nat} (hv : DV D) (hd : DM D J) (hl : l < D 0 0) (hs : s < 4096) (hw : D 1 l = 0) : ∀ r p f b, p + r = D 0 4 → r < f → ((b = true ∧ Hp D p l s) ∨ (b = false ∧ ¬ Hp D p l s)) → ∃ b', zlp5 (f_X12_make_23 k2) f (nI l) (nI s) (b01 b) (nI p) J = f_X12_make_203 k2 (nI l) (nI s) (b01 b') J ∧ ((b' = true ∧ Hp D (D 0 4) l s) ∨ (b' = false ∧ ¬ Hp D (D 0 4) l s))
  | _, _, 0, _, _, h, _ => absurd h (by omega)
  | 0, p, f + 1, b, hp, _, hb => by
    have : p = D 0 4 := by omega
    subst this
    refine ⟨b, ?_, hb⟩
    show f_X12_make_23 k2 _ (nI l) (nI s) (b01 b) (nI (D 0 4)) J = _
    unfold f_X12_make_23 f_X12_make_90
    rw [hd.2.1, if_pos (Int32.le_refl _)]
  | r + 1, p, f + 1, b, hp, hf, hb => by
    have ih := fun b => m_23 (k2 := k2) hv hd hl hs hw r (p + 1) f b (by omega) (by omega)
    have e1 : zlp5 (f_X12_make_23 k2) (f + 1) (nI l) (nI s) (b01 b) (nI p) J = f_X12_make_23 k2 (zlp5 (f_X12_make_23 k2) f) (nI l) (nI s) (b01 b) (nI p) J := rfl
    rw [e1]
    generalize zlp5 (f_X12_make_23 k2) f = k1 at ih ⊢
    have h60 := hv.1.2.2.2.2
    have h24 := hv.1.1
    obtain ⟨v1, v2, v3⟩ := hv.2.2.2.2.2 p (by omega)
    obtain ⟨c1, c2, c3⟩ := hd.2.2.2.2.2.2 p (by omega)
    obtain ⟨u1, u2, u3⟩ := hv.2.1 l hl
    obtain ⟨d1, d2, d3⟩ := hd.2.2.1 l hl
    unfold f_X12_make_23 f_X12_make_90
    rw [hd.2.1, if_neg (nI_ge (by omega) (by omega))]
    rcases hb with ⟨rfl, w⟩ | ⟨rfl, w⟩
    · rw [if_neg (show ¬ b01 true = 0 by decide)]
      refine ⟨true, rfl, Or.inl ⟨rfl, ?_⟩⟩
      obtain ⟨q, q1, q2⟩ := w; exact ⟨q, by omega, q2⟩
    · rw [if_pos (show b01 false = 0 by decide), zck_t _ (zbd_nI (by omega) (by decide)), zck_t _ (zbd_nI (by omega) (by decide)), nI_clamp (show p < 2 ^ 31 by omega), nI_clamp (show l < 2 ^ 31 by omega), c1, d2]
      have no : ¬ (D 11 p = D 2 l ∧ inP D p (s % 64) (s / 64)) → ∃ b', f_X12_make_82 k2 k1 (nI l) (nI s) (nI p) J = f_X12_make_203 k2 (nI l) (nI s) (b01 b') J ∧ ((b' = true ∧ Hp D (D 0 4) l s) ∨ (b' = false ∧ ¬ Hp D (D 0 4) l s)) := by
        intro z
        unfold f_X12_make_82 f_X12_make_83
        rw [zlt_b, nI_1]
        refine ih false (Or.inr ⟨rfl, ?_⟩)
        rintro ⟨q, q1, q2, q3⟩
        by_cases y : q = p
        · subst y; exact z ⟨q2, q3⟩
        · exact w ⟨q, by omega, q2, q3⟩
      by_cases z1 : D 11 p = D 2 l
      · rw [if_pos (by rw [z1])]
        have op := m_open hv hd (show p < D 0 4 by omega)
        by_cases z2 : clsd D p
        · rw [op.1 z2, zb1_b, if_pos rfl]
          have cv := m_cov (x := s % 64) (y := s / 64) hv hd (show p < D 0 4 by omega) (Nat.mod_lt _ (by decide)) (by omega) (D 12 p) 0 zF (by omega) (zF_lt (by omega))
          have cv' : f_X12_covers (nI p) (nI (s % 64)) (nI (s / 64)) J = some (b01 (par D p (s % 64) (s / 64) (D 12 p))) := cv
          rw [show (64 : Int32) = nI 64 from rfl, pk_rem (by omega) (by decide) (by decide), pk_div (by omega) (by decide) (by decide), zlt_b, zlt_b, cv', zb1_b]
          by_cases z3 : par D p (s % 64) (s / 64) (D 12 p) = true
          · rw [if_neg (fun y => by rw [b01_0, z3] at y; exact absurd y (by decide))]
            unfold f_X12_make_83
            rw [zlt_b, nI_1]
            exact ih true (Or.inl ⟨rfl, p, by omega, z1, z2, z3⟩)
          · rw [if_pos ((b01_0 _).mpr (by simpa using z3))]
            exact no fun y => z3 y.2.2
        · rw [op.2 z2, zb1_b, if_neg n10]
          exact no fun y => z2 y.2.1
      · rw [if_neg (fun y => z1 ((nI_eq (by omega) (by omega)).mp y))]
        exact no fun y => z1 y.1
theorem m_make {l : Nat} {J0 : zI} (hv : DV D) (hd : DM D J0) (hl : l < D 0 0) (hB : ∀ k q, k < l → q < 4096 → J0 118 (4096 * k + q) = 0 ∨ J0 118 (4096 * k + q) = 1) : ∀ r s J f, s + r = 4096 → r < f → (∀ p, p ≠ 118 → p ≠ 119 → J p = J0 p) → (∀ i, ¬ (4096 * l ≤ i ∧ i < 4096 * l + s) → J 118 i = J0 118 i ∧ J 119 i = J0 119 i) → (∀ q, q < s → J 119 (4096 * l + q) = -1 ∧ (J 118 (4096 * l + q) = 0 ∨ J 118 (4096 * l + q) = 1) ∧ (Hm J l q ↔ ((D 1 l = 0 ∧ Hp D (D 0 4) l q) ∨ (D 1 l = 1 ∧ Hm J0 (D 2 l) q ∧ Hm J0 (D 3 l) q) ∨ (D 1 l = 2 ∧ (Hm J0 (D 2 l) q ∨ Hm J0 (D 3 l) q)) ∨ (D 1 l = 3 ∧ Hm J0 (D 2 l) q ∧ ¬ Hm J0 (D 3 l) q)))) →
    ∃ J', zlp3 f_X12_make_2 f (nI l) (nI s) J = some J' ∧ (∀ p, p ≠ 118 → p ≠ 119 → J' p = J0 p) ∧ (∀ i, ¬ (4096 * l ≤ i ∧ i < 4096 * l + 4096) → J' 118 i = J0 118 i ∧ J' 119 i = J0 119 i) ∧ (∀ q, q < 4096 → J' 119 (4096 * l + q) = -1 ∧ (J' 118 (4096 * l + q) = 0 ∨ J' 118 (4096 * l + q) = 1) ∧ (Hm J' l q ↔ ((D 1 l = 0 ∧ Hp D (D 0 4) l q) ∨ (D 1 l = 1 ∧ Hm J0 (D 2 l) q ∧ Hm J0 (D 3 l) q) ∨ (D 1 l = 2 ∧ (Hm J0 (D 2 l) q ∨ Hm J0 (D 3 l) q)) ∨ (D 1 l = 3 ∧ Hm J0 (D 2 l) q ∧ ¬ Hm J0 (D 3 l) q))))
  | _, _, _, 0, _, h, _, _, _ => absurd h (by omega)
  | 0, s, J, f + 1, hs, _, h1, h2, h3 => by
    have : s = 4096 := by omega
    subst this
    refine ⟨J, ?_, h1, h2, h3⟩
    show f_X12_make_2 _ (nI l) (nI 4096) J = _
    unfold f_X12_make_2
    rw [if_pos (by decide)]
  | r + 1, s, J, f + 1, hs, hf, h1, h2, h3 => by
    have ih := fun J => m_make (J0 := J0) hv hd hl hB r (s + 1) J f (by omega) (by omega)
    have e1 : zlp3 f_X12_make_2 (f + 1) (nI l) (nI s) J = f_X12_make_2 (zlp3 f_X12_make_2 f) (nI l) (nI s) J := rfl
    rw [e1]
    generalize zlp3 f_X12_make_2 f = k1 at ih ⊢
    have h24 := hv.1.1
    obtain ⟨u1, u2, u3⟩ := hv.2.1 l hl
    have hdJ : DM D J := by
      unfold DM
      rw [h1 97 (by decide) (by decide), h1 106 (by decide) (by decide), h1 107 (by decide) (by decide), h1 108 (by decide) (by decide), h1 109 (by decide) (by decide), h1 110 (by decide) (by decide), h1 111 (by decide) (by decide), h1 112 (by decide) (by decide), h1 114 (by decide) (by decide), h1 115 (by decide) (by decide), h1 116 (by decide) (by decide), h1 98 (by decide) (by decide), h1 99 (by decide) (by decide), h1 100 (by decide) (by decide), h1 101 (by decide) (by decide)]
      exact hd
    obtain ⟨d1, d2, d3⟩ := hdJ.2.2.1 l hl
    have hb : zbd (nI l) 48 = true := zbd_nI (by omega) (by decide)
    have hcl : (nI l).toNatClampNeg = l := nI_clamp (by omega)
    have e40 : ∀ k, (4096 : Int32) * nI k + nI s = nI (4096 * k + s) := fun k => by rw [show (4096 : Int32) = nI 4096 from rfl, pk_mul, nI_add]
    have put : ∀ (b : Bool), (b = true ↔ ((D 1 l = 0 ∧ Hp D (D 0 4) l s) ∨ (D 1 l = 1 ∧ Hm J0 (D 2 l) s ∧ Hm J0 (D 3 l) s) ∨ (D 1 l = 2 ∧ (Hm J0 (D 2 l) s ∨ Hm J0 (D 3 l) s)) ∨ (D 1 l = 3 ∧ Hm J0 (D 2 l) s ∧ ¬ Hm J0 (D 3 l) s))) → ∃ J', f_X12_make_203 k1 (nI l) (nI s) (b01 b) J = some J' ∧ (∀ p, p ≠ 118 → p ≠ 119 → J' p = J0 p) ∧ (∀ i, ¬ (4096 * l ≤ i ∧ i < 4096 * l + 4096) → J' 118 i = J0 118 i ∧ J' 119 i = J0 119 i) ∧ (∀ q, q < 4096 → J' 119 (4096 * l + q) = -1 ∧ (J' 118 (4096 * l + q) = 0 ∨ J' 118 (4096 * l + q) = 1) ∧ (Hm J' l q ↔ ((D 1 l = 0 ∧ Hp D (D 0 4) l q) ∨ (D 1 l = 1 ∧ Hm J0 (D 2 l) q ∧ Hm J0 (D 3 l) q) ∨ (D 1 l = 2 ∧ (Hm J0 (D 2 l) q ∨ Hm J0 (D 3 l) q)) ∨ (D 1 l = 3 ∧ Hm J0 (D 2 l) q ∧ ¬ Hm J0 (D 3 l) q)))) := by
      intro b hbv
      unfold f_X12_make_203
      simp only [zlt_b, e40, nI_1]
      rw [zck_t _ (zbd_nI (show 4096 * l + s < 98304 by omega) (by decide)), zck_t _ (zbd_nI (show 4096 * l + s < 98304 by omega) (by decide)), nI_clamp (show 4096 * l + s < 2 ^ 31 by omega), nar_b]
      refine ih _ (fun p a b => by rw [zu_pf _ _ b, zu_pf _ _ a, h1 p a b]) (fun i hi => ?_) (fun q hq => ?_)
      · obtain ⟨x1, x2⟩ := h2 i (by omega)
        rw [zu_p _ _ (by decide), zu_k _ _ (by omega), zu_k _ _ (by omega), zu_p _ _ (by decide)]
        exact ⟨x1, x2⟩
      · by_cases z : q = s
        · subst z
          refine ⟨zu_eq _ _ _ _, ?_, ?_⟩
          · rw [zu_p _ _ (by decide), zu_eq]; cases b <;> simp [b01]
          · unfold Hm at hbv ⊢
            rw [zu_p _ _ (by decide), zu_eq, b01_1]; exact hbv
        · obtain ⟨x1, x2, x3⟩ := h3 q (by omega)
          refine ⟨by rw [zu_k _ _ (by omega), zu_p _ _ (by decide)]; exact x1, by rw [zu_p _ _ (by decide), zu_k _ _ (by omega)]; exact x2, ?_⟩
          unfold Hm at x3 ⊢
          rw [zu_p _ _ (by decide), zu_k _ _ (by omega)]; exact x3
    unfold f_X12_make_2
    rw [if_neg (show ¬ (4096 : Int32) ≤ nI s from nI_ge (b := 4096) (by omega) (by decide)), zck_t _ hb, hcl, d1]
    by_cases z0 : D 1 l = 0
    · rw [if_pos (show nI (D 1 l) = 0 by rw [z0]; rfl)]
      obtain ⟨b', q1, q2⟩ := m_23 (k2 := k1) (l := l) (s := s) hv hdJ hl (by omega) z0 (D 0 4) 0 zF false (by omega) (zF_lt (by have := hv.1.2.2.2.2; omega)) (Or.inr ⟨rfl, fun ⟨q, q1, _⟩ => absurd q1 (by omega)⟩)
      have q1' : zlp5 (f_X12_make_23 k1) zF (nI l) (nI s) 0 0 J = _ := q1
      rw [q1']
      refine put b' ?_
      rcases q2 with ⟨rfl, w⟩ | ⟨rfl, w⟩
      · exact ⟨fun _ => Or.inl ⟨z0, w⟩, fun _ => rfl⟩
      · refine ⟨fun y => absurd y (by decide), fun y => ?_⟩
        rcases y with y | y | y | y
        · exact absurd y.2 w
        · exact absurd y.1 (by omega)
        · exact absurd y.1 (by omega)
        · exact absurd y.1 (by omega)
    · rw [if_neg (show ¬ nI (D 1 l) = 0 from nI_ne0 (by omega) (by omega))]
      obtain ⟨s1, s2⟩ := u3 z0
      have ga : J 118 (4096 * D 2 l + s) = J0 118 (4096 * D 2 l + s) := (h2 _ (by omega)).1
      have gb : J 118 (4096 * D 3 l + s) = J0 118 (4096 * D 3 l + s) := (h2 _ (by omega)).1
      have ba := hB (D 2 l) s s1 (by omega)
      have bb := hB (D 3 l) s s2 (by omega)
      have xa : zbd (nI (4096 * D 2 l + s)) 98304 = true := zbd_nI (by omega) (by decide)
      have xb : zbd (nI (4096 * D 3 l + s)) 98304 = true := zbd_nI (by omega) (by decide)
      simp only [zlt_b, zck_t _ hb, d2, d3 z0, e40, zck_t _ xa, zck_t _ xb, nI_clamp (show 4096 * D 2 l + s < 2 ^ 31 by omega), nI_clamp (show 4096 * D 3 l + s < 2 ^ 31 by omega), ga, gb, f_X12_make_155, f_X12_make_179, f_X12_make_201, f_X12_make_202]
      have P0 := put false
      have P1 := put true
      unfold Hm at P0 P1
      have b0 : b01 false = 0 := rfl
      have b1 : b01 true = 1 := rfl
      rw [b0] at P0
      rw [b1] at P1
      have : D 1 l = 1 ∨ D 1 l = 2 ∨ D 1 l = 3 := by omega
      rcases this with w | w | w
      · rw [if_pos (show nI (D 1 l) = 1 by rw [w]; rfl)]
        rw [w] at P0 P1
        rcases ba with ba | ba <;> rcases bb with bb | bb <;> rw [ba, bb] at P0 P1 ⊢ <;> simp [w] at P0 P1 ⊢
        · exact P0
        · exact P0
        · exact P0
        · exact P1
      · rw [if_neg (show ¬ nI (D 1 l) = 1 by rw [w]; decide), if_pos (show nI (D 1 l) = 2 by rw [w]; rfl)]
        rw [w] at P0 P1
        rcases ba with ba | ba <;> rcases bb with bb | bb <;> rw [ba, bb] at P0 P1 ⊢ <;> simp [w] at P0 P1 ⊢
        · exact P0
        · exact P1
        · exact P1
        · exact P1
      · rw [if_neg (show ¬ nI (D 1 l) = 1 by rw [w]; decide), if_neg (show ¬ nI (D 1 l) = 2 by rw [w]; decide)]
        rw [w] at P0 P1
        rcases ba with ba | ba <;> rcases bb with bb | bb <;> rw [ba, bb] at P0 P1 ⊢ <;> simp [w] at P0 P1 ⊢
        · exact P0
        · exact P0
        · exact P1
        · exact P0
end Mk2
