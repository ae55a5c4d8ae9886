/-! the class draws -/
theorem zmx_n {a b : Nat} (ha : a < 2 ^ 31) (hb : b < 2 ^ 31) : zmx (nI a) (nI b) = nI (max a b) := by
  unfold zmx
  by_cases h : a < b
  · rw [if_pos (nI_lt h hb)]; congr 1; omega
  · rw [if_neg (nI_nlt (by omega) ha)]; congr 1; omega
theorem zmn_n {a b : Nat} (ha : a < 2 ^ 31) (hb : b < 2 ^ 31) : zmn (nI a) (nI b) = nI (min a b) := by
  unfold zmn
  by_cases h : b < a
  · rw [if_pos (nI_lt h ha)]; congr 1; omega
  · rw [if_neg (nI_nlt (by omega) hb)]; congr 1; omega
theorem e_fill {r : Nat} {v : Int64} {L0 : zL} : ∀ q y L f, y + q = 64 → q < f → (∀ p, p ≠ r → L p = L0 p) → (∀ x, x < y → L r x = v) → ∃ L', zlp4 (f_J7_fill_d0a16_6 r) f v (nI y) (64 : Int32) L = some L' ∧ (∀ p, p ≠ r → L' p = L0 p) ∧ ∀ x, x < 64 → L' r x = v
  | _, _, _, 0, _, h, _, _ => absurd h (by omega)
  | 0, y, L, f + 1, hy, _, h1, h2 => by
    have : y = 64 := by omega
    subst this
    refine ⟨L, ?_, h1, h2⟩
    show f_J7_fill_d0a16_6 r _ v (nI 64) 64 L = _
    unfold f_J7_fill_d0a16_6
    rw [if_pos (by decide)]
  | q + 1, y, L, f + 1, hy, hf, h1, h2 => by
    have ih := fun L => e_fill (r := r) (v := v) (L0 := L0) q (y + 1) L f (by omega) (by omega)
    have e1 : zlp4 (f_J7_fill_d0a16_6 r) (f + 1) v (nI y) 64 L = f_J7_fill_d0a16_6 r (zlp4 (f_J7_fill_d0a16_6 r) f) v (nI y) 64 L := rfl
    rw [e1]
    generalize zlp4 (f_J7_fill_d0a16_6 r) f = k1 at ih ⊢
    unfold f_J7_fill_d0a16_6
    rw [if_neg (show ¬ (64 : Int32) ≤ nI y from nI_ge (b := 64) (by omega) (by decide)), zck_t _ (zbd_nI (by omega) (by decide)), nI_clamp (by omega), zlt_b, zlt_b, nI_1]
    refine ih _ (fun p hp => by rw [zul_pf _ _ hp]; exact h1 p hp) (fun x hx => ?_)
    by_cases z : x = y
    · subst z; exact zul_eq _ _ _ _
    · rw [zul_k _ _ z]; exact h2 x (by omega)
theorem c_fill0 (r : Nat) (v : Int64) (L : zL) : ∃ L', f_J7_fill_d0a16 r v L = some L' ∧ (∀ p, p ≠ r → L' p = L p) ∧ ∀ x, x < 64 → L' r x = v :=
  e_fill (L0 := L) 64 0 L zF (by omega) (zF_lt (by omega)) (fun _ _ => rfl) (fun x hx => absurd hx (by omega))
/-- made[y] = way(first[y], second[y]) -/
def opW (w : Nat) (a b : Int64) : Int64 := if w = 1 then a &&& b else if w = 2 then a ||| b else a &&& (b ^^^ -1)
theorem e_make {r0 r2 r3 w : Nat} {L0 : zL} (hw : w ≤ 3) (h3 : r3 ≠ r0) : ∀ q y L f, y + q = 64 → q < f → (∀ p, p ≠ r0 → L p = L0 p) → (∀ x, x < y → L r0 x = opW w (L0 r2 x) (L0 r3 x)) → (∀ x, y ≤ x → L r0 x = L0 r0 x) → ∃ L', zlp3 (f_X2_make_3 r0 r2 r3) f (nI w) (nI y) L = some L' ∧ (∀ p, p ≠ r0 → L' p = L0 p) ∧ ∀ x, x < 64 → L' r0 x = opW w (L0 r2 x) (L0 r3 x)
  | _, _, _, 0, _, h, _, _, _ => absurd h (by omega)
  | 0, y, L, f + 1, hy, _, h1, h2, _ => by
    have : y = 64 := by omega
    subst this
    refine ⟨L, ?_, h1, h2⟩
    show f_X2_make_3 r0 r2 r3 _ (nI w) (nI 64) L = _
    unfold f_X2_make_3
    rw [if_pos (by decide)]
  | q + 1, y, L, f + 1, hy, hf, h1, h2, h4 => by
    have ih := fun L => e_make (r0 := r0) (r2 := r2) (r3 := r3) (L0 := L0) hw h3 q (y + 1) L f (by omega) (by omega)
    have e1 : zlp3 (f_X2_make_3 r0 r2 r3) (f + 1) (nI w) (nI y) L = f_X2_make_3 r0 r2 r3 (zlp3 (f_X2_make_3 r0 r2 r3) f) (nI w) (nI y) L := rfl
    rw [e1]
    generalize zlp3 (f_X2_make_3 r0 r2 r3) f = k1 at ih ⊢
    have hb : zbd (nI y) 64 = true := zbd_nI (by omega) (by decide)
    have hcl : (nI y).toNatClampNeg = y := nI_clamp (by omega)
    have l2 : L r2 y = L0 r2 y := by
      by_cases z : r2 = r0
      · rw [z]; exact h4 y (Nat.le_refl _)
      · rw [h1 r2 z]
    have l3 : L r3 y = L0 r3 y := by rw [h1 r3 h3]
    have key : f_X2_make_3 r0 r2 r3 k1 (nI w) (nI y) L = k1 (nI w) (nI (y + 1)) (zul L r0 y (opW w (L0 r2 y) (L0 r3 y))) := by
      unfold f_X2_make_3 f_X2_make_69 opW
      rw [if_neg (show ¬ (64 : Int32) ≤ nI y from nI_ge (b := 64) (by omega) (by decide))]
      simp only [zlt_b, nI_1, zck_t _ hb, hcl, l2, l3]
      by_cases w1 : w = 1
      · rw [if_pos (show nI w = 1 by rw [w1]; rfl), if_pos w1]
      · rw [if_neg (show ¬ nI w = 1 from fun z => w1 ((nI_eq (b := 1) (by omega) (by decide)).mp z)), if_neg w1]
        by_cases w2 : w = 2
        · rw [if_pos (show nI w = 2 by rw [w2]; rfl), if_pos w2]
        · rw [if_neg (show ¬ nI w = 2 from fun z => w2 ((nI_eq (b := 2) (by omega) (by decide)).mp z)), if_neg w2]
    rw [key]
    refine ih _ (fun p hp => by rw [zul_pf _ _ hp]; exact h1 p hp) (fun x hx => ?_) (fun x hx => by rw [zul_k _ _ (by omega)]; exact h4 x (by omega))
    by_cases z : x = y
    · subst z; exact zul_eq _ _ _ _
    · rw [zul_k _ _ z]; exact h2 x (by omega)
theorem c_make {r0 r2 r3 w : Nat} (L : zL) (hw : w ≤ 3) (h3 : r3 ≠ r0) : ∃ L', f_X2_make r0 r2 r3 (nI w) L = some L' ∧ (∀ p, p ≠ r0 → L' p = L p) ∧ ∀ x, x < 64 → L' r0 x = opW w (L r2 x) (L r3 x) :=
  e_make (L0 := L) hw h3 64 0 L zF (by omega) (zF_lt (by omega)) (fun _ _ => rfl) (fun x hx => absurd hx (by omega)) (fun _ _ => rfl)
section Dr
variable {P : Nat} {D : Nat → Nat → Nat} {I : zI}
theorem c_meet78 {m : Int64} {hi lo : Nat} {L0 : zL} (hh : hi ≤ 64) : ∀ q y L f, y + q = hi → lo ≤ y → q < f → (∀ p, p ≠ 25 → L p = L0 p) → (∀ x, x < 64 → L 25 x = if lo ≤ x ∧ x < y then L0 25 x ^^^ m else L0 25 x) → ∃ L', zlp5 f_X1_meetSide_78 f m (nI hi) (nI y) I L = some L' ∧ (∀ p, p ≠ 25 → L' p = L0 p) ∧ ∀ x, x < 64 → L' 25 x = if lo ≤ x ∧ x < hi then L0 25 x ^^^ m else L0 25 x
  | _, _, _, 0, _, _, h, _, _ => absurd h (by omega)
  | 0, y, L, f + 1, hy, _, _, h1, h2 => by
    have : y = hi := by omega
    subst this
    refine ⟨L, ?_, h1, h2⟩
    show f_X1_meetSide_78 _ m (nI y) (nI y) I L = _
    unfold f_X1_meetSide_78
    rw [if_pos (Int32.le_refl _)]
  | q + 1, y, L, f + 1, hy, hl, hf, h1, h2 => by
    have ih := fun L => c_meet78 (m := m) (hi := hi) (lo := lo) (L0 := L0) hh q (y + 1) L f (by omega) (by omega) (by omega)
    have e1 : zlp5 f_X1_meetSide_78 (f + 1) m (nI hi) (nI y) I L = f_X1_meetSide_78 (zlp5 f_X1_meetSide_78 f) m (nI hi) (nI y) I L := rfl
    rw [e1]
    generalize zlp5 f_X1_meetSide_78 f = k1 at ih ⊢
    have hb : zbd (nI y) 64 = true := zbd_nI (by omega) (by decide)
    have hcl : (nI y).toNatClampNeg = y := nI_clamp (by omega)
    unfold f_X1_meetSide_78
    rw [if_neg (nI_ge (by omega) (by omega)), zck_t _ hb, hcl, zlt_b, zck_t _ hb, zlt_b, zlt_b, nI_1, h2 y (by omega), if_neg (by omega)]
    refine ih _ (fun p hp => by rw [zul_pf _ _ hp]; exact h1 p hp) (fun x hx => ?_)
    by_cases z : x = y
    · subst z; rw [zul_eq, if_pos (by omega)]
    · rw [zul_k _ _ z, h2 x hx]
      by_cases w : lo ≤ x ∧ x < y
      · rw [if_pos w, if_pos (by omega)]
      · rw [if_neg w, if_neg (by omega)]
theorem c_meet {L : zL} {a b xa ya xb yb : Nat} (ha : a < 960) (hb : b < 960) (h1 : I 23 a = nI xa) (h2 : I 24 a = nI ya) (h3 : I 23 b = nI xb) (h4 : I 24 b = nI yb) (l1 : xa ≤ 64) (l2 : ya ≤ 64) (l3 : xb ≤ 64) (l4 : yb ≤ 64) : ∃ L', f_X1_meetSide (nI a) (nI b) I L = some L' ∧ (∀ p, p ≠ 25 → L' p = L p) ∧ ∀ y x, y < 64 → x < 64 → bt (L' 25 y) x = (bt (L 25 y) x ^^ decide (xa = xb ∧ x < xa ∧ ¬ (ya ≤ y ↔ yb ≤ y))) := by
  have ba : zbd (nI a) 960 = true := zbd_nI ha (by decide)
  have bb : zbd (nI b) 960 = true := zbd_nI hb (by decide)
  have ca : (nI a).toNatClampNeg = a := nI_clamp (by omega)
  have cb : (nI b).toNatClampNeg = b := nI_clamp (by omega)
  unfold f_X1_meetSide
  rw [zck_t _ ba, zck_t _ bb, ca, cb, h1, h3]
  by_cases hx : xa = xb
  · subst hx
    rw [if_pos rfl, zck_t _ ba]
    have go : ∀ m : Int64, (∀ x, x < 64 → bt m x = decide (x < xa)) → ∃ L', f_X1_meetSide_43 (nI a) (nI b) m I L = some L' ∧ (∀ p, p ≠ 25 → L' p = L p) ∧ ∀ y x, y < 64 → x < 64 → bt (L' 25 y) x = (bt (L 25 y) x ^^ decide (xa = xa ∧ x < xa ∧ ¬ (ya ≤ y ↔ yb ≤ y))) := by
      intro m hm
      obtain ⟨L', g1, g2, g3⟩ := c_meet78 (I := I) (m := m) (hi := max ya yb) (lo := min ya yb) (L0 := L) (by omega) (max ya yb - min ya yb) (min ya yb) L zF (by omega) (Nat.le_refl _) (zF_lt (by omega)) (fun _ _ => rfl) (fun x _ => by rw [if_neg (by omega)])
      refine ⟨L', ?_, g2, fun y x hy hx => ?_⟩
      · unfold f_X1_meetSide_43
        rw [zck_t _ ba, zck_t _ bb, ca, cb, h2, h4, zmx_n (by omega) (by omega), zlt_b, zck_t _ ba, zck_t _ bb, zmn_n (by omega) (by omega), zlt_b]
        exact g1
      · rw [g3 y hy]
        by_cases w : min ya yb ≤ y ∧ y < max ya yb
        · rw [if_pos w, bt_xor, hm x hx]
          congr 1
          have : ¬ (ya ≤ y ↔ yb ≤ y) := by omega
          simp [this]
        · rw [if_neg w]
          have : (ya ≤ y ↔ yb ≤ y) := by omega
          simp [this]
    by_cases h64 : xa < 64
    · rw [if_pos (show nI xa < 64 from nI_lt (b := 64) h64 (by decide)), zck_t _ ba, zlt_b]
      exact go _ (fun x _ => bt_mask h64)
    · rw [if_neg (show ¬ nI xa < 64 from nI_nlt (b := 64) (by omega) (by omega))]
      exact go _ (fun x hx => by rw [bt_m1 hx]; simp; omega)
  · rw [if_neg (fun z => hx ((nI_eq (by omega) (by omega)).mp z))]
    exact ⟨L, rfl, fun _ _ => rfl, fun y x _ _ => by simp [hx]⟩
theorem c_open {p : Nat} (hv : DV D) (hd : DC P D I) (hp : p < D 0 4) : (clsd D p → f_X1_isOpen (nI p) I = some 0) ∧ (¬ clsd D p → f_X1_isOpen (nI p) I = some 1) := by
  obtain ⟨v1, v2, v3⟩ := hv.2.2.2.2.2 p hp
  obtain ⟨c1, c2, c3⟩ := hd.2.2.2.2.2.2 p hp
  have h60 := hv.1.2.2.2.2
  have hb : zbd (nI p) 60 = true := zbd_nI (by omega) (by decide)
  have hcl : (nI p).toNatClampNeg = p := nI_clamp (by omega)
  unfold f_X1_isOpen f_X1_isOpen_33 f_X1_isOpen_38
  simp only [zlt_b]
  rw [zck_t _ hb, zck_t _ hb, hcl, c2, zck_t _ zbo_1, zck_t _ zbo_0, show nI p * 16 = nI (16 * p) from by rw [show (16 : Int32) = nI 16 from rfl, pk_mul, Nat.mul_comm]]
  by_cases h4 : D 12 p < 4
  · rw [if_pos (show nI (D 12 p) < 4 from nI_lt (b := 4) h4 (by decide))]
    exact ⟨fun z => absurd z.1 (by omega), fun _ => rfl⟩
  · rw [if_neg (show ¬ nI (D 12 p) < 4 from nI_nlt (b := 4) (by omega) (by omega)), nI_add, show (1 : Int32) = nI 1 from rfl, pk_sub (by omega), show 16 * p + D 12 p - 1 = 16 * p + (D 12 p - 1) by omega]
    have df := e_differ (I := I) (a := 16 * p) (b := 16 * p + (D 12 p - 1)) (by omega) (by omega)
    have f0 := c3 0 (by omega)
    have fl := c3 (D 12 p - 1) (by omega)
    have g0 := v3 0 (by omega)
    have gl := v3 (D 12 p - 1) (by omega)
    rw [Nat.add_zero] at f0 g0
    rw [f0.1, f0.2, fl.1, fl.2, nI_eq (by omega) (by omega), nI_eq (by omega) (by omega)] at df
    by_cases z : D 13 (16 * p) = D 13 (16 * p + (D 12 p - 1)) ↔ D 14 (16 * p) = D 14 (16 * p + (D 12 p - 1))
    · rw [df.2 z, zb1_b, if_pos rfl]
      exact ⟨fun y => absurd z y.2, fun _ => rfl⟩
    · rw [df.1 z, zb1_b, if_neg n10]
      exact ⟨fun _ => rfl, fun y => absurd ⟨by omega, z⟩ y⟩
theorem c_fill36 {p : Nat} {L0 : zL} (hv : DV D) (hd : DC P D I) (hp : p < D 0 4) (hc : 1 ≤ D 12 p) : ∀ q k L f, k + q = D 12 p → q < f → (∀ p, p ≠ 25 → L p = L0 p) → (∀ y x, y < 64 → x < 64 → bt (L 25 y) x = pcl D p x y k) → ∃ L', zlp6 f_X1_fill_36 f (nI p) (nI (16 * p)) (nI (16 * p + (if k = 0 then D 12 p - 1 else k - 1))) (nI k) I L = some L' ∧ (∀ p, p ≠ 25 → L' p = L0 p) ∧ ∀ y x, y < 64 → x < 64 → bt (L' 25 y) x = pcl D p x y (D 12 p)
  | _, _, _, 0, _, h, _, _ => absurd h (by omega)
  | 0, k, L, f + 1, hk, _, h1, h2 => by
    have : k = D 12 p := by omega
    subst this
    have h60 := hv.1.2.2.2.2
    refine ⟨L, ?_, h1, h2⟩
    show f_X1_fill_36 _ (nI p) _ _ (nI (D 12 p)) I L = _
    unfold f_X1_fill_36
    rw [zck_t _ (zbd_nI (by omega) (by decide)), nI_clamp (by omega), (hd.2.2.2.2.2.2 p hp).2.1, if_pos (Int32.le_refl _)]
  | q + 1, k, L, f + 1, hk, hf, h1, h2 => by
    have ih := fun L => c_fill36 (L0 := L0) hv hd hp hc q (k + 1) L f (by omega) (by omega)
    obtain ⟨v1, v2, v3⟩ := hv.2.2.2.2.2 p hp
    obtain ⟨c1, c2, c3⟩ := hd.2.2.2.2.2.2 p hp
    have h60 := hv.1.2.2.2.2
    have e1 : ∀ x, zlp6 f_X1_fill_36 (f + 1) (nI p) (nI (16 * p)) x (nI k) I L = f_X1_fill_36 (zlp6 f_X1_fill_36 f) (nI p) (nI (16 * p)) x (nI k) I L := fun _ => rfl
    rw [e1]
    rw [if_neg (by omega), Nat.add_sub_cancel] at ih
    generalize zlp6 f_X1_fill_36 f = k1 at ih ⊢
    generalize hpv : (if k = 0 then D 12 p - 1 else k - 1) = pv
    have hpv2 : pv < D 12 p := by rw [← hpv]; split <;> omega
    obtain ⟨a1, a2⟩ := c3 pv hpv2
    obtain ⟨b1, b2⟩ := c3 k (by omega)
    obtain ⟨x1, x2⟩ := v3 pv hpv2
    obtain ⟨y1, y2⟩ := v3 k (by omega)
    obtain ⟨L', g1, g2, g3⟩ := c_meet (I := I) (L := L) (a := 16 * p + pv) (b := 16 * p + k) (by omega) (by omega) a1 a2 b1 b2 x1 x2 y1 y2
    unfold f_X1_fill_36
    rw [zck_t _ (zbd_nI (by omega) (by decide)), nI_clamp (by omega), c2, if_neg (nI_ge (by omega) (by omega)), nI_add, g1, zb1_b, zlt_b, zlt_b, nI_1]
    refine ih L' (fun p hp => by rw [g2 p hp]; exact h1 p hp) (fun y x hy hx => ?_)
    rw [g3 y x hy hx, h2 y x hy hx]
    show _ = (pcl D p x y k ^^ sdB D p x y (if k = 0 then D 12 p - 1 else k - 1) k)
    rw [hpv]; rfl
theorem c_fillP {p : Nat} {L : zL} (hv : DV D) (hd : DC P D I) (hp : p < D 0 4) : ∃ L', f_X1_fill (nI p) I L = some L' ∧ (∀ p, p ≠ 25 → L' p = L p) ∧ ∀ y x, y < 64 → x < 64 → (bt (L' 25 y) x = true ↔ inP D p x y) := by
  obtain ⟨L1, a1, a2, a3⟩ := c_fill0 25 0 L
  have op := c_open hv hd hp
  obtain ⟨v1, v2, v3⟩ := hv.2.2.2.2.2 p hp
  have h60 := hv.1.2.2.2.2
  unfold f_X1_fill
  rw [a1, zb1_b]
  by_cases z : clsd D p
  · rw [op.1 z, zb1_b, if_pos rfl]
    simp only [zlt_b]
    rw [zck_t _ (zbd_nI (by omega) (by decide)), nI_clamp (by omega), (hd.2.2.2.2.2.2 p hp).2.1, show nI p * 16 = nI (16 * p) from by rw [show (16 : Int32) = nI 16 from rfl, pk_mul, Nat.mul_comm], nI_add, show (1 : Int32) = nI 1 from rfl, pk_sub (by have := z.1; omega)]
    have hc : 1 ≤ D 12 p := by have := z.1; omega
    obtain ⟨L', g1, g2, g3⟩ := c_fill36 (L0 := L1) hv hd hp hc (D 12 p) 0 L1 zF (by omega) (zF_lt (by omega)) (fun _ _ => rfl) (fun y x hy _ => by rw [a3 y hy]; exact bt_0 x)
    rw [if_pos rfl, show 16 * p + (D 12 p - 1) = 16 * p + D 12 p - 1 by omega] at g1
    refine ⟨L', g1, fun q hq => by rw [g2 q hq, a2 q hq], fun y x hy hx => ?_⟩
    rw [g3 y x hy hx, pcl_par hc]
    exact ⟨fun w => ⟨z, w⟩, fun w => w.2⟩
  · rw [op.2 z, zb1_b, if_neg n10]
    refine ⟨L1, rfl, a2, fun y x hy hx => ?_⟩
    rw [a3 y hy, bt_0]
    exact ⟨fun w => absurd w (by decide), fun w => absurd w.1 z⟩
/-- a layer's square, as the class holds it -/
def Hc (L : zL) (l q : Nat) : Prop := bt (L (33 + l) (q / 64)) (q % 64) = true
theorem c_addP {inp : Nat} {L0 : zL} (hv : DV D) (hd : DC P D I) (hi : inp < 65536) (S : Nat → Prop) (hS : ∀ q, q < 4096 → (bt (L0 25 (q / 64)) (q % 64) = true ↔ S q)) : ∀ r l L f, l + r = D 0 0 → r < f → (∀ p, ¬ (33 ≤ p ∧ p < 33 + D 0 0) → L p = L0 p) → (∀ k, l ≤ k → k < D 0 0 → L (33 + k) = L0 (33 + k)) → (∀ k q, k < l → q < 4096 → (Hc L k q ↔ Hc L0 k q ∨ (D 1 k = 0 ∧ D 2 k = inp ∧ S q))) → ∃ L', zlp4 (f_X2_addPolygon_3 P) f (nI inp) (nI l) I L = some L' ∧ (∀ p, ¬ (33 ≤ p ∧ p < 33 + D 0 0) → L' p = L0 p) ∧ ∀ k q, k < D 0 0 → q < 4096 → (Hc L' k q ↔ Hc L0 k q ∨ (D 1 k = 0 ∧ D 2 k = inp ∧ S q))
  | _, _, _, 0, _, h, _, _, _ => absurd h (by omega)
  | 0, l, L, f + 1, hl, _, h1, _, h3 => by
    have : l = D 0 0 := by omega
    subst this
    refine ⟨L, ?_, h1, h3⟩
    show f_X2_addPolygon_3 P _ (nI inp) (nI (D 0 0)) I L = _
    unfold f_X2_addPolygon_3
    have := hd.1 0 (by decide)
    rw [show I P 12 = nI (D 0 0) from this, if_pos (Int32.le_refl _)]
  | r + 1, l, L, f + 1, hl, hf, h1, h2, h3 => by
    have ih := fun L => c_addP (L0 := L0) hv hd hi S hS r (l + 1) L f (by omega) (by omega)
    have e1 : zlp4 (f_X2_addPolygon_3 P) (f + 1) (nI inp) (nI l) I L = f_X2_addPolygon_3 P (zlp4 (f_X2_addPolygon_3 P) f) (nI inp) (nI l) I L := rfl
    rw [e1]
    generalize zlp4 (f_X2_addPolygon_3 P) f = k1 at ih ⊢
    have h24 := hv.1.1
    obtain ⟨v1, v2, v3⟩ := hv.2.1 l (by omega)
    obtain ⟨c1, c2, c3⟩ := hd.2.2.1 l (by omega)
    have hb : zbd (nI l) 24 = true := zbd_nI (by omega) (by decide)
    have hcl : (nI l).toNatClampNeg = l := nI_clamp (by omega)
    have skip : ¬ (D 1 l = 0 ∧ D 2 l = inp) → ∃ L', k1 (nI inp) (nI (l + 1)) I L = some L' ∧ (∀ p, ¬ (33 ≤ p ∧ p < 33 + D 0 0) → L' p = L0 p) ∧ ∀ k q, k < D 0 0 → q < 4096 → (Hc L' k q ↔ Hc L0 k q ∨ (D 1 k = 0 ∧ D 2 k = inp ∧ S q)) := by
      intro z
      refine ih L h1 (fun k k1 k2 => h2 k (by omega) k2) (fun k q hk hq => ?_)
      by_cases y : k = l
      · subst y
        unfold Hc
        rw [h2 k (Nat.le_refl _) (by omega)]
        exact ⟨Or.inl, fun w => w.elim id (fun w => absurd ⟨w.1, w.2.1⟩ z)⟩
      · exact h3 k q (by omega) hq
    unfold f_X2_addPolygon_3 f_X2_addPolygon_55
    rw [show I P 12 = nI (D 0 0) from hd.1 0 (by decide), if_neg (nI_ge (by omega) (by omega))]
    simp only [zlt_b, nI_1, zck_t _ hb, hcl]
    rw [c1, c2]
    by_cases z1 : D 1 l = 0
    · rw [if_pos (show nI (D 1 l) = 0 by rw [z1]; rfl)]
      by_cases z2 : D 2 l = inp
      · rw [if_pos (by rw [z2])]
        obtain ⟨L1, g1, g2, g3⟩ := c_make (r0 := 33 + l) (r2 := 33 + l) (r3 := 25) (w := 2) L (by decide) (by omega)
        have g1' : f_X2_make (33 + l) (33 + l) 25 2 L = some L1 := g1
        rw [g1', zb1_b]
        refine ih L1 (fun p hp => by rw [g2 p (by omega)]; exact h1 p hp) (fun k k1 k2 => by rw [g2 _ (by omega)]; exact h2 k (by omega) k2) (fun k q hk hq => ?_)
        by_cases y : k = l
        · subst y
          unfold Hc
          rw [g3 (q / 64) (by omega)]
          show bt (L (33 + k) (q / 64) ||| L 25 (q / 64)) (q % 64) = true ↔ _
          rw [bt_or, h2 k (Nat.le_refl _) (by omega), h1 25 (by omega), Bool.or_eq_true, hS q hq]
          exact ⟨fun w => w.elim Or.inl (fun w => Or.inr ⟨z1, z2, w⟩), fun w => w.elim Or.inl (fun w => Or.inr w.2.2)⟩
        · have := h3 k q (by omega) hq
          unfold Hc at this ⊢
          rw [g2 _ (by omega)]; exact this
      · rw [if_neg (fun w => z2 ((nI_eq (by omega) (by omega)).mp w))]
        exact skip fun w => z2 w.2
    · rw [if_neg (show ¬ nI (D 1 l) = 0 from nI_ne0 (by omega) (by omega))]
      exact skip fun w => z1 w.1
/-- one input layer's squares after p polygons -/
def Hp (D : Nat → Nat → Nat) (p l q : Nat) : Prop := ∃ r, r < p ∧ D 11 r = D 2 l ∧ inP D r (q % 64) (q / 64)
theorem c_draw28 {L0 : zL} (hv : DV D) (hd : DC P D I) : ∀ r p L f, p + r = D 0 4 → r < f → (∀ a, a ≠ 25 → ¬ (33 ≤ a ∧ a < 33 + D 0 0) → L a = L0 a) → (∀ k q, k < D 0 0 → q < 4096 → (Hc L k q ↔ D 1 k = 0 ∧ Hp D p k q)) → ∃ L', zlp3 (f_X2_draw_28 P) f (nI p) I L = zlp3 (f_X2_draw_61 P) zF (0 : Int32) I L' ∧ (∀ a, a ≠ 25 → ¬ (33 ≤ a ∧ a < 33 + D 0 0) → L' a = L0 a) ∧ ∀ k q, k < D 0 0 → q < 4096 → (Hc L' k q ↔ D 1 k = 0 ∧ Hp D (D 0 4) k q)
  | _, _, _, 0, _, h, _, _ => absurd h (by omega)
  | 0, p, L, f + 1, hp, _, h1, h2 => by
    have : p = D 0 4 := by omega
    subst this
    refine ⟨L, ?_, h1, h2⟩
    show f_X2_draw_28 P _ (nI (D 0 4)) I L = _
    unfold f_X2_draw_28
    rw [hd.2.1, if_pos (Int32.le_refl _)]
  | r + 1, p, L, f + 1, hp, hf, h1, h2 => by
    have ih := fun L => c_draw28 (L0 := L0) hv hd r (p + 1) L f (by omega) (by omega)
    have e1 : zlp3 (f_X2_draw_28 P) (f + 1) (nI p) I L = f_X2_draw_28 P (zlp3 (f_X2_draw_28 P) f) (nI p) I L := rfl
    rw [e1]
    generalize zlp3 (f_X2_draw_28 P) f = k1 at ih ⊢
    have h60 := hv.1.2.2.2.2
    have h24 := hv.1.1
    obtain ⟨v1, v2, v3⟩ := hv.2.2.2.2.2 p (by omega)
    obtain ⟨L1, a1, a2, a3⟩ := c_fillP (L := L) hv hd (show p < D 0 4 by omega)
    obtain ⟨L2, b1, b2, b3⟩ := c_addP (L0 := L1) hv hd v1 (fun q => inP D p (q % 64) (q / 64)) (fun q hq => a3 (q / 64) (q % 64) (by omega) (by omega)) (D 0 0) 0 L1 zF (by omega) (zF_lt (by omega)) (fun _ _ => rfl) (fun _ _ _ => rfl) (fun k q hk => absurd hk (by omega))
    have b1' : f_X2_addPolygon P (nI (D 11 p)) I L1 = some L2 := b1
    unfold f_X2_draw_28
    rw [hd.2.1, if_neg (nI_ge (by omega) (by omega)), a1, zb1_b, zck_t _ (zbd_nI (by omega) (by decide)), nI_clamp (by omega), (hd.2.2.2.2.2.2 p (by omega)).1, b1', zb1_b, zlt_b, nI_1]
    refine ih L2 (fun a x y => by rw [b2 a y, a2 a x]; exact h1 a x y) (fun k q hk hq => ?_)
    rw [b3 k q hk hq]
    have e : Hc L1 k q ↔ Hc L k q := by unfold Hc; rw [a2 _ (by omega)]
    rw [e, h2 k q hk hq]
    constructor
    · rintro (⟨w, s, s1, s2⟩ | ⟨w1, w2, w3⟩)
      · exact ⟨w, s, by omega, s2⟩
      · exact ⟨w1, p, by omega, w2.symm, w3⟩
    · rintro ⟨w, s, s1, s2, s3⟩
      by_cases y : s = p
      · subst y; exact Or.inr ⟨w, s2.symm, s3⟩
      · exact Or.inl ⟨w, s, by omega, s2, s3⟩
theorem c_draw61 {L0 : zL} (hv : DV D) (hd : DC P D I) : ∀ r l L f, l + r = D 0 0 → r < f → (∀ a, a ≠ 25 → ¬ (33 ≤ a ∧ a < 33 + D 0 0) → L a = L0 a) → (∀ k q, l ≤ k → k < D 0 0 → q < 4096 → (Hc L k q ↔ D 1 k = 0 ∧ Hp D (D 0 4) k q)) → (∀ k q, k < l → q < 4096 → (Hc L k q ↔ ((D 1 k = 0 ∧ Hp D (D 0 4) k q) ∨ (D 1 k = 1 ∧ Hc L (D 2 k) q ∧ Hc L (D 3 k) q) ∨ (D 1 k = 2 ∧ (Hc L (D 2 k) q ∨ Hc L (D 3 k) q)) ∨ (D 1 k = 3 ∧ Hc L (D 2 k) q ∧ ¬ Hc L (D 3 k) q)))) → ∃ L', zlp3 (f_X2_draw_61 P) f (nI l) I L = some L' ∧ (∀ a, a ≠ 25 → ¬ (33 ≤ a ∧ a < 33 + D 0 0) → L' a = L0 a) ∧ HS D (Hc L')
  | _, _, _, 0, _, h, _, _, _ => absurd h (by omega)
  | 0, l, L, f + 1, hl, _, h1, _, h3 => by
    have : l = D 0 0 := by omega
    subst this
    refine ⟨L, ?_, h1, fun k q hk hq => h3 k q hk hq⟩
    show f_X2_draw_61 P _ (nI (D 0 0)) I L = _
    unfold f_X2_draw_61
    rw [show I P 12 = nI (D 0 0) from hd.1 0 (by decide), if_pos (Int32.le_refl _)]
  | r + 1, l, L, f + 1, hl, hf, h1, h2, h3 => by
    have ih := fun L => c_draw61 (L0 := L0) hv hd r (l + 1) L f (by omega) (by omega)
    have e1 : zlp3 (f_X2_draw_61 P) (f + 1) (nI l) I L = f_X2_draw_61 P (zlp3 (f_X2_draw_61 P) f) (nI l) I L := rfl
    rw [e1]
    generalize zlp3 (f_X2_draw_61 P) f = k1 at ih ⊢
    have h24 := hv.1.1
    obtain ⟨v1, v2, v3⟩ := hv.2.1 l (by omega)
    obtain ⟨c1, c2, c3⟩ := hd.2.2.1 l (by omega)
    have hb : zbd (nI l) 24 = true := zbd_nI (by omega) (by decide)
    have hcl : (nI l).toNatClampNeg = l := nI_clamp (by omega)
    unfold f_X2_draw_61 f_X2_draw_115
    rw [show I P 12 = nI (D 0 0) from hd.1 0 (by decide), if_neg (nI_ge (by omega) (by omega))]
    simp only [zlt_b, nI_1, zck_t _ hb, hcl]
    rw [c1]
    by_cases z1 : D 1 l = 0
    · rw [if_pos (show nI (D 1 l) = 0 by rw [z1]; rfl)]
      refine ih L h1 (fun k q k1 k2 hq => h2 k q (by omega) k2 hq) (fun k q hk hq => ?_)
      by_cases y : k = l
      · subst y
        rw [h2 k q (Nat.le_refl _) (by omega) hq]
        constructor
        · exact Or.inl
        · rintro (w | w | w | w)
          · exact w
          · exact absurd w.1 (by omega)
          · exact absurd w.1 (by omega)
          · exact absurd w.1 (by omega)
      · exact h3 k q (by omega) hq
    · rw [if_neg (show ¬ nI (D 1 l) = 0 from nI_ne0 (by omega) (by omega)), c2, c3 z1]
      obtain ⟨s1, s2⟩ := v3 z1
      rw [zck_t _ (zbd_nI (show D 2 l < 24 by omega) (by decide)), zck_t _ (zbd_nI (show D 3 l < 24 by omega) (by decide)), nI_clamp (show D 2 l < 2 ^ 31 by omega), nI_clamp (show D 3 l < 2 ^ 31 by omega)]
      obtain ⟨L1, g1, g2, g3⟩ := c_make (r0 := 33 + l) (r2 := 33 + D 2 l) (r3 := 33 + D 3 l) (w := D 1 l) L v1 (by omega)
      rw [g1, zb1_b]
      have hne : ∀ k q, k ≠ l → (Hc L1 k q ↔ Hc L k q) := fun k q hk => by unfold Hc; rw [g2 _ (by omega)]
      refine ih L1 (fun a x y => by rw [g2 a (by omega)]; exact h1 a x y) (fun k q k1 k2 hq => by rw [hne k q (by omega)]; exact h2 k q (by omega) k2 hq) (fun k q hk hq => ?_)
      by_cases y : k = l
      · subst y
        rw [hne (D 2 k) q (by omega), hne (D 3 k) q (by omega)]
        have e : Hc L1 k q ↔ bt (opW (D 1 k) (L (33 + D 2 k) (q / 64)) (L (33 + D 3 k) (q / 64))) (q % 64) = true := by
          unfold Hc; rw [g3 (q / 64) (by omega)]
        rw [e]
        unfold opW Hc
        have : D 1 k = 1 ∨ D 1 k = 2 ∨ D 1 k = 3 := by omega
        rcases this with w | w | w
        · rw [if_pos w, bt_and, w]; simp
        · rw [if_neg (by omega), if_pos w, bt_or, w]; simp
        · rw [if_neg (by omega), if_neg (by omega), bt_and, bt_not (by omega), w]; simp
      · have hk' : k < l := by omega
        obtain ⟨u1, u2, u3⟩ := hv.2.1 k (by omega)
        rw [hne k q y, h3 k q hk' hq]
        by_cases u0 : D 1 k = 0
        · simp [u0]
        · obtain ⟨t1, t2⟩ := u3 u0
          rw [hne (D 2 k) q (by omega), hne (D 3 k) q (by omega)]
theorem c_draw {L : zL} (hv : DV D) (hd : DC P D I) : ∃ L', f_X2_draw P I L = some L' ∧ (∀ a, a ≠ 25 → ¬ (33 ≤ a ∧ a < 33 + D 0 0) → L' a = L a) ∧ HS D (Hc L') := by
  have h24 := hv.1.1
  have cl : ∀ r l L1 f, l + r = D 0 0 → r < f → (∀ a, a ≠ 25 → ¬ (33 ≤ a ∧ a < 33 + D 0 0) → L1 a = L a) → (∀ k q, k < l → q < 4096 → ¬ Hc L1 k q) → ∃ L2, zlp3 (f_X2_draw_2 P) f (nI l) I L1 = zlp3 (f_X2_draw_28 P) zF (0 : Int32) I L2 ∧ (∀ a, a ≠ 25 → ¬ (33 ≤ a ∧ a < 33 + D 0 0) → L2 a = L a) ∧ ∀ k q, k < D 0 0 → q < 4096 → ¬ Hc L2 k q := by
    intro r
    induction r with
    | zero =>
      intro l L1 f hl hf h1 h2
      obtain ⟨f, rfl⟩ : ∃ x, f = x + 1 := ⟨f - 1, by omega⟩
      have : l = D 0 0 := by omega
      subst this
      refine ⟨L1, ?_, h1, h2⟩
      show f_X2_draw_2 P _ (nI (D 0 0)) I L1 = _
      unfold f_X2_draw_2
      rw [show I P 12 = nI (D 0 0) from hd.1 0 (by decide), if_pos (Int32.le_refl _)]
    | succ r ih =>
      intro l L1 f hl hf h1 h2
      obtain ⟨f, rfl⟩ : ∃ x, f = x + 1 := ⟨f - 1, by omega⟩
      obtain ⟨L2, a1, a2, a3⟩ := c_fill0 (33 + l) 0 L1
      have e1 : zlp3 (f_X2_draw_2 P) (f + 1) (nI l) I L1 = zlp3 (f_X2_draw_2 P) f (nI (l + 1)) I L2 := by
        show f_X2_draw_2 P _ (nI l) I L1 = _
        unfold f_X2_draw_2
        rw [show I P 12 = nI (D 0 0) from hd.1 0 (by decide), if_neg (nI_ge (by omega) (by omega)), zck_t _ (zbd_nI (by omega) (by decide)), nI_clamp (by omega), a1, zb1_b, zlt_b, nI_1]
      rw [e1]
      refine ih (l + 1) L2 f (by omega) (by omega) (fun a x y => by rw [a2 a (by omega)]; exact h1 a x y) (fun k q hk hq => ?_)
      by_cases y : k = l
      · subst y; unfold Hc; rw [a3 _ (by omega), bt_0]; decide
      · have := h2 k q (by omega) hq
        unfold Hc at this ⊢
        rw [a2 _ (by omega)]; exact this
  obtain ⟨L2, a1, a2, a3⟩ := cl (D 0 0) 0 L zF (by omega) (zF_lt (by omega)) (fun _ _ _ => rfl) (fun k q hk => absurd hk (by omega))
  obtain ⟨L3, b1, b2, b3⟩ := c_draw28 (L0 := L) hv hd (D 0 4) 0 L2 zF (by omega) (zF_lt (by have := hv.1.2.2.2.2; omega)) a2 (fun k q hk hq => ⟨fun w => absurd w (a3 k q hk hq), fun w => by obtain ⟨-, s, s1, -⟩ := w; exact absurd s1 (by omega)⟩)
  obtain ⟨L4, c1, c2, c3⟩ := c_draw61 (L0 := L) hv hd (D 0 0) 0 L3 zF (by omega) (zF_lt (by omega)) b2 (fun k q _ hk hq => b3 k q hk hq) (fun k q hk => absurd hk (by omega))
  have a1' : f_X2_draw P I L = _ := a1
  have b1' : zlp3 (f_X2_draw_28 P) zF 0 I L2 = _ := b1
  exact ⟨L4, by rw [a1', b1']; exact c1, c2, c3⟩
end Dr
