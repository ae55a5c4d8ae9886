/-! corner -/
theorem lN_of64 {x : Int64} {m : Nat} {y : Int64} (hy : y.toInt = m) (hm : m < 2 ^ 31) (h1 : ¬ x < 0) (h2 : x ≤ y) : ∃ n, n ≤ m ∧ x = lN n := by
  rw [Int64.lt_iff_toInt_lt] at h1
  rw [Int64.le_iff_toInt_le, hy] at h2
  have h0 : (0 : Int64).toInt = 0 := by decide
  refine ⟨x.toInt.toNat, by omega, Int64.toInt_inj.mp ?_⟩
  rw [lN_toInt (by omega)]
  omega
def cGood (I : zI) (p c X Y : Nat) : Prop := c = 0 ∨ ¬ (I 23 (16 * p + (c - 1)) = nI X ↔ I 24 (16 * p + (c - 1)) = nI Y)
theorem e_differ {I : zI} {a b : Nat} (ha : a < 960) (hb : b < 960) : (¬ (I 23 a = I 23 b ↔ I 24 a = I 24 b) → f_X1_differInOne (nI a) (nI b) I = some 1) ∧ ((I 23 a = I 23 b ↔ I 24 a = I 24 b) → f_X1_differInOne (nI a) (nI b) I = some 0) := by
  simp only [f_X1_differInOne, f_X1_differInOne_20, f_X1_differInOne_40, f_X1_differInOne_48, zck_t _ (zbd_nI ha (by decide)), zck_t _ (zbd_nI hb (by decide)), nI_clamp (show a < 2 ^ 31 by omega), nI_clamp (show b < 2 ^ 31 by omega), zck_t _ zbo_0, zck_t _ zbo_1]
  by_cases h1 : I 23 a = I 23 b <;> by_cases h2 : I 24 a = I 24 b <;> simp [h1, h2]
theorem e_addCorner {I : zI} {p c X Y : Nat} (hp : p < 60) (hc : c < 16) (h : I 22 p = nI c) : (cGood I p c X Y → f_X1_addCorner (nI p) (nI X) (nI Y) I = some (1, zu (zu (zu I 23 (16 * p + c) (nI X)) 24 (16 * p + c) (nI Y)) 22 p (nI (c + 1)))) ∧ (¬ cGood I p c X Y → f_X1_addCorner (nI p) (nI X) (nI Y) I = some (0, zu (zu I 23 (16 * p + c) (nI X)) 24 (16 * p + c) (nI Y))) := by
  have e1 : nI p * 16 + nI c = nI (16 * p + c) := by rw [show (16 : Int32) = nI 16 from rfl, pk_mul, nI_add, Nat.mul_comm]
  simp only [f_X1_addCorner, f_X1_addCorner_53, zlt, zck_t _ (zbd_nI hp (by decide)), nI_clamp (show p < 2 ^ 31 by omega), h, e1, zck_t _ (zbd_nI (show 16 * p + c < 960 by omega) (by decide)), nI_clamp (show 16 * p + c < 2 ^ 31 by omega)]
  have e2 : zu (zu I 23 (16 * p + c) (nI X)) 24 (16 * p + c) (nI Y) 22 p = nI c := by simp [zu_r, h]
  rw [e2, nI_1]
  unfold cGood
  by_cases h0 : c = 0
  · subst h0
    rw [if_pos (by decide)]
    exact ⟨fun _ => rfl, fun z => absurd (Or.inl rfl) z⟩
  · obtain ⟨d, rfl⟩ : ∃ d, c = d + 1 := ⟨c - 1, by omega⟩
    rw [if_neg (nI_nle (by omega) (by omega))]
    have e3 : nI (16 * p + (d + 1)) - 1 = nI (16 * p + d) := by rw [show 16 * p + (d + 1) = 16 * p + d + 1 by omega, nI_pred]
    have dd := e_differ (I := zu (zu I 23 (16 * p + (d + 1)) (nI X)) 24 (16 * p + (d + 1)) (nI Y)) (a := 16 * p + d) (b := 16 * p + (d + 1)) (by omega) (by omega)
    have q1 : zu (zu I 23 (16 * p + (d + 1)) (nI X)) 24 (16 * p + (d + 1)) (nI Y) 23 (16 * p + d) = I 23 (16 * p + d) := by simp [zu_r]
    have q2 : zu (zu I 23 (16 * p + (d + 1)) (nI X)) 24 (16 * p + (d + 1)) (nI Y) 24 (16 * p + d) = I 24 (16 * p + d) := by simp [zu_r]
    have q3 : zu (zu I 23 (16 * p + (d + 1)) (nI X)) 24 (16 * p + (d + 1)) (nI Y) 23 (16 * p + (d + 1)) = nI X := by simp [zu_r]
    have q4 : zu (zu I 23 (16 * p + (d + 1)) (nI X)) 24 (16 * p + (d + 1)) (nI Y) 24 (16 * p + (d + 1)) = nI Y := by simp [zu_r]
    rw [q1, q2, q3, q4] at dd
    rw [e3, show d + 1 - 1 = d from rfl]
    constructor
    · intro z
      rw [dd.1 (z.resolve_left h0)]
      simp only [zb1, Option.bind_some]
      rw [if_neg (by decide)]
    · intro z
      rw [dd.2 (Classical.not_not.mp fun y => z (Or.inr y))]
      simp only [zb1, Option.bind_some, if_true]
theorem e_mcorner {I : zI} {p c X Y : Nat} (hp : p < 60) (hc : c < 16) (hX : X ≤ 64) (hY : Y ≤ 64) (h : I 99 p = nI c) (hk : c ≠ 0 → ∃ x y, x ≤ 64 ∧ y ≤ 64 ∧ I 100 (16 * p + (c - 1)) = nI x ∧ I 101 (16 * p + (c - 1)) = nI y) (G : Prop) (hG : G ↔ (c = 0 ∨ ¬ (I 100 (16 * p + (c - 1)) = nI X ↔ I 101 (16 * p + (c - 1)) = nI Y))) :
    (G → f_X12_corner_67 (nI p) (lN X) (lN Y) 0 I = some (1, zu (zu (zu (zu (zu I 97 0 0) 100 (16 * p + c) (nI X)) 101 (16 * p + c) (nI Y)) 99 p (nI (c + 1))) 97 30 0)) ∧ (¬ G → f_X12_corner_67 (nI p) (lN X) (lN Y) 0 I = some (0, zu I 97 0 0)) := by
  have e1 : (16 : Int32) * nI p + nI c = nI (16 * p + c) := by rw [show (16 : Int32) = nI 16 from rfl, pk_mul, nI_add]
  have e0 : zu I 97 0 0 99 p = nI c := by simp [zu_r, h]
  simp only [f_X12_corner_67, zlt, zu_eq, e0, zck_t _ (zbd_nI hp (by decide)), nI_clamp (show p < 2 ^ 31 by omega), e1]
  rw [if_pos (by decide)]
  have e147 : f_X12_corner_147 (nI p) (lN X) (lN Y) (nI (16 * p + c)) (zu I 97 0 0) = some (1, zu (zu (zu (zu (zu I 97 0 0) 100 (16 * p + c) (nI X)) 101 (16 * p + c) (nI Y)) 99 p (nI (c + 1))) 97 30 0) := by
    simp only [f_X12_corner_147, zlt, zck_t _ (zbd_nI hp (by decide)), nI_clamp (show p < 2 ^ 31 by omega), zck_t _ (zbd_nI (show 16 * p + c < 960 by omega) (by decide)), nI_clamp (show 16 * p + c < 2 ^ 31 by omega), lN_i]
    have : zu (zu (zu I 97 0 0) 100 (16 * p + c) (nI X)) 101 (16 * p + c) (nI Y) 99 p = nI c := by simp [zu_r, h]
    rw [this, nI_1]
  by_cases h0 : c = 0
  · have hg : G := hG.mpr (Or.inl h0)
    subst h0
    rw [if_pos (by decide), e147]
    exact ⟨fun _ => rfl, fun z => absurd hg z⟩
  · rw [if_neg (nI_nle (by omega) (by omega))]
    obtain ⟨x, y, hx, hy, ex, ey⟩ := hk h0
    obtain ⟨d, rfl⟩ : ∃ d, c = d + 1 := ⟨c - 1, by omega⟩
    rw [show d + 1 - 1 = d from rfl] at *
    have e3 : nI (16 * p + (d + 1)) - 1 = nI (16 * p + d) := by rw [show 16 * p + (d + 1) = 16 * p + d + 1 by omega, nI_pred]
    have r1 : zu I 97 0 0 100 (16 * p + d) = nI x := by simp [zu_r, ex]
    have r2 : zu I 97 0 0 101 (16 * p + d) = nI y := by simp [zu_r, ey]
    simp only [f_X12_corner_121, f_X12_corner_142, zlt, e3, zck_t _ (zbd_nI (show 16 * p + d < 960 by omega) (by decide)), nI_clamp (show 16 * p + d < 2 ^ 31 by omega), r1, r2, nI_l (show x < 2 ^ 31 by omega), nI_l (show y < 2 ^ 31 by omega), e147, lN_eq (show x < 2 ^ 31 by omega) (show X < 2 ^ 31 by omega), lN_eq (show y < 2 ^ 31 by omega) (show Y < 2 ^ 31 by omega)]
    rw [ex, ey, nI_eq (by omega) (by omega), nI_eq (by omega) (by omega)] at hG
    by_cases hx1 : x = X <;> by_cases hy1 : y = Y <;> simp [hx1, hy1] at hG <;> simp [hx1, hy1, hG]
theorem e_corner_67 {v1 w1 : Int32} {a b : Int64} {I : zI} (h : ¬ w1 ≤ 0) : f_X12_corner_67 v1 a b w1 I = some (0, zu I 97 0 w1) := by
  simp only [f_X12_corner_67, zlt, zu_eq]
  rw [if_neg h]
theorem sx_corner : Sx_corner zInv := by
  rintro I L x a b ⟨P, Q, hp, h⟩
  obtain ⟨n, a1, a2, a3, a5, a4⟩ := h.2.2.2.2.1
  rcases pk_ix x (n := n) (by omega) with hx | hx | ⟨p, hpn, rfl⟩
  · refine ⟨1, 1, I, L, 0, zu I 97 0 1, by omega, ?_, ?_, e_thr _, fun z => absurd z (by decide), inv_thr' hp h 1⟩
    · simp only [w_corner, f_X11_corner, e_below_f (Or.inl hx), zb1, zb2, zsm, Option.bind_some, if_true]
    · unfold f_X12_corner f_X12_corner_13; rw [if_pos hx, e_corner_67 zi_01]
  · have hx0 : I 20 5 ≤ x := by rw [a2]; exact hx
    refine ⟨1, 1, I, L, 0, zu I 97 0 1, by omega, ?_, ?_, e_thr _, fun z => absurd z (by decide), inv_thr' hp h 1⟩
    · simp only [w_corner, f_X11_corner, e_below_f (Or.inr hx0), zb1, zb2, zsm, Option.bind_some, if_true]
    · unfold f_X12_corner f_X12_corner_13; rw [a3, e_corner_67 zi_01, if_neg (Int32.not_lt.mpr hx), ite_self]
  · have e1 : f_X11_mustBeBelow (nI p) (I 20 5) = some (.inl ()) := by rw [a2]; exact e_below_t hpn (by omega)
    obtain ⟨-, c, c1, c2, c3, c4⟩ := a4 p hpn
    have hb : zbd (nI p) 60 = true := zbd_nI (by omega) (by decide)
    have hcl : (nI p).toNatClampNeg = p := nI_clamp (by omega)
    rcases Nat.lt_or_ge c 16 with hc | hc
    · have l1 : ¬ (16 : Int32) ≤ nI c := nI_ge (b := 16) hc (by decide)
      have l2 : ¬ nI c = 16 := fun z => by have := (nI_eq (b := 16) (by omega) (by decide)).mp z; omega
      by_cases hr : ¬ a < 0 ∧ ¬ 64 < a ∧ ¬ b < 0 ∧ b ≤ 64
      · obtain ⟨r1, r2, r3, r4⟩ := hr
        obtain ⟨X, hX, rfl⟩ := lN_of64 (m := 64) (y := 64) (by decide) (by decide) r1 (Int64.not_lt.mp r2)
        obtain ⟨Y, hY, rfl⟩ := lN_of64 (m := 64) (y := 64) (by decide) (by decide) r3 r4
        have ec : f_X11_corner (nI p) (lN X) (lN Y) I = zb2 (f_X1_addCorner (nI p) (nI X) (nI Y) I) (fun x11 I12 => if x11 = 0 then (some (.inl (0 : Int32), I12)) else (zlt (zu I12 0 10 (0 : Int32)) (fun I13 => some (.inl (1 : Int32), I13)))) := by
          simp only [f_X11_corner, e1, zb1, zsm, Option.bind_some, zck_t _ hb, hcl, c2, if_neg l1, f_X11_corner_30, e_true_1, if_neg r1, if_neg r2, if_neg r3, if_pos r4, lN_i]
        have em : ∀ J : zI, J 97 2 = nI n → J 99 p = nI c → f_X12_corner (nI p) (lN X) (lN Y) J = f_X12_corner_67 (nI p) (lN X) (lN Y) 0 J := by
          intro J j1 j2
          unfold f_X12_corner
          rw [if_neg (nI_pos (by omega)), j1, if_pos (nI_lt hpn (by omega)), zck_t _ hb, hcl, j2, if_neg l2, if_neg r1, if_neg r2, if_neg r3, if_pos r4]
        have hk : ∀ J : zI, J 100 = I 100 → J 101 = I 101 → c ≠ 0 → ∃ x y, x ≤ 64 ∧ y ≤ 64 ∧ J 100 (16 * p + (c - 1)) = nI x ∧ J 101 (16 * p + (c - 1)) = nI y := by
          intro J j1 j2 h0
          obtain ⟨⟨x, x1, -, x2⟩, ⟨y, y1, -, y2⟩⟩ := c4 (c - 1) (by omega)
          exact ⟨x, y, x1, y1, by rw [j1]; exact x2, by rw [j2]; exact y2⟩
        have hG : ∀ J : zI, J 100 = I 100 → J 101 = I 101 → (cGood I p c X Y ↔ (c = 0 ∨ ¬ (J 100 (16 * p + (c - 1)) = nI X ↔ J 101 (16 * p + (c - 1)) = nI Y))) := by
          intro J j1 j2
          unfold cGood
          by_cases h0 : c = 0
          · simp [h0]
          · obtain ⟨⟨x, x1, x3, x2⟩, ⟨y, y1, y3, y2⟩⟩ := c4 (c - 1) (by omega)
            rw [j1, j2, x3, x2, y3, y2]
        by_cases hg : cGood I p c X Y
        · have w := (e_addCorner (I := I) (X := X) (Y := Y) (by omega : p < 60) hc c2).1 hg
          let J := zu (zu (zu (zu I 23 (16 * p + c) (nI X)) 24 (16 * p + c) (nI Y)) 22 p (nI (c + 1))) 0 10 0
          have hJ : J = zu (zu (zu (zu I 23 (16 * p + c) (nI X)) 24 (16 * p + c) (nI Y)) 22 p (nI (c + 1))) 0 10 0 := rfl
          have j100 : J 100 = I 100 := by rw [hJ]; funext k; simp [zu]
          have j101 : J 101 = I 101 := by rw [hJ]; funext k; simp [zu]
          have m := (e_mcorner (I := J) (by omega : p < 60) hc hX hY (by rw [hJ]; simp [zu, c3]) (hk J j100 j101) _ (hG J j100 j101)).1 hg
          refine ⟨0, 0, J, zul L 133 0 1, 1, _, by omega, ?_, (em J (by rw [hJ]; simp [zu, a3]) (by rw [hJ]; simp [zu, c3])).trans m, ?_, fun _ => zul_eq _ _ _ _, P, Q, hp, inv_draw hp h ?_ ?_ ?_ ?_ ?_ ?_ ?_ ?_⟩
          · unfold w_corner
            rw [ec, w]
            simp only [zb2, Option.bind_some, zlt, zsm]
            rw [if_neg (by decide)]
            rfl
          · simp [f_X12_thrown, zlt, zu]
          · intro q d1 d2 d3; rw [hJ]; funext k; simp only [zu]; simp [d1, show q ≠ 97 by omega, show q ≠ 99 by omega, show q ≠ 100 by omega, show q ≠ 101 by omega, show q ≠ 22 by omega, show q ≠ 23 by omega, show q ≠ 24 by omega]
          · intro k hk; rw [hJ]; simp [zu, hk]
          · intro k d1 d2 d3 d4; rw [hJ]; simp [zu, d1, d4]
          · intro q hq; funext k; simp [zul, hq]
          · rw [hJ]; simp [zu]
          · simp [zu]
          · refine ⟨n, a1, by rw [hJ]; simp [zu, a2], by rw [hJ]; simp [zu, a3], ?_, ?_⟩
            · intro q q1 q2
              have := a5 q q1 q2
              have ne : q ≠ p := by omega
              rw [hJ]
              simpa [zu, ne] using this
            · intro q hq
              obtain ⟨g1, cq, g2, g3, g4, g5⟩ := a4 q hq
              refine ⟨by rw [hJ]; simpa [zu] using g1, ?_⟩
              by_cases hqp : q = p
              · subst hqp
                refine ⟨c + 1, by omega, by rw [hJ]; simp [zu], by simp [zu], fun k hk => ?_⟩
                by_cases hkc : k = c
                · subst hkc
                  exact ⟨⟨X, hX, by rw [hJ]; simp [zu], by rw [hJ]; simp [zu]⟩, ⟨Y, hY, by rw [hJ]; simp [zu], by rw [hJ]; simp [zu]⟩⟩
                · have := c4 k (by omega)
                  rw [hJ]
                  simpa [zu, hkc] using this
              · refine ⟨cq, g2, by rw [hJ]; simpa [zu, hqp] using g3, by rw [hJ]; simpa [zu, hqp] using g4, fun k hk => ?_⟩
                have := g5 k hk
                have ne : 16 * q + k ≠ 16 * p + c := by omega
                rw [hJ]
                simpa [zu, ne] using this
          · exact h.2.2.2.2.2.1.cg (by rw [hJ]; simp [zu]) (by rw [hJ]; simp [zu]) (fun q hq => by rw [hJ]; funext k; simp only [zu]; simp [show q ≠ 97 by omega, show q ≠ 99 by omega, show q ≠ 100 by omega, show q ≠ 101 by omega, show q ≠ 22 by omega, show q ≠ 23 by omega, show q ≠ 24 by omega, show q ≠ 0 by omega])
        · have w := (e_addCorner (I := I) (X := X) (Y := Y) (by omega : p < 60) hc c2).2 hg
          let J := zu (zu I 23 (16 * p + c) (nI X)) 24 (16 * p + c) (nI Y)
          have hJ : J = zu (zu I 23 (16 * p + c) (nI X)) 24 (16 * p + c) (nI Y) := rfl
          have j100 : J 100 = I 100 := by rw [hJ]; funext k; simp [zu]
          have j101 : J 101 = I 101 := by rw [hJ]; funext k; simp [zu]
          have m := (e_mcorner (I := J) (by omega : p < 60) hc hX hY (by rw [hJ]; simp [zu, c3]) (hk J j100 j101) _ (hG J j100 j101)).2 hg
          refine ⟨0, 0, J, zul L 133 0 0, 0, zu J 97 0 0, by omega, ?_, (em J (by rw [hJ]; simp [zu, a3]) (by rw [hJ]; simp [zu, c3])).trans m, e_thr _, fun _ => zul_eq _ _ _ _, ?_⟩
          · unfold w_corner
            rw [ec, w]
            simp only [zb2, Option.bind_some, zlt, zsm, if_true]
            rfl
          · have hd : RDraw J := by
              refine ⟨n, a1, by rw [hJ]; simp [zu, a2], by rw [hJ]; simp [zu, a3], by rw [hJ]; simpa [zu] using a5, fun q hq => ?_⟩
              obtain ⟨g1, cq, g2, g3, g4, g5⟩ := a4 q hq
              refine ⟨by rw [hJ]; simpa [zu] using g1, cq, g2, by rw [hJ]; simpa [zu] using g3, by rw [hJ]; simpa [zu] using g4, fun k hk => ?_⟩
              have ne : 16 * q + k ≠ 16 * p + c := by
                by_cases hqp : q = p
                · subst hqp
                  have : cq = c := by rw [c2] at g3; exact ((nI_eq (by omega) (by omega)).mp g3).symm
                  omega
                · omega
              have := g5 k hk
              rw [hJ]
              simpa [zu, ne] using this
            have hz : zInvP P Q J L := by
              obtain ⟨h1, h2, h3, h4, h5, h6, h7, h8, h9, h10⟩ := h
              have g : ∀ q, q ≠ 23 → q ≠ 24 → J q = I q := fun q d1 d2 => by rw [hJ]; funext k; simp [zu, d1, d2]
              have hP : (P ≠ 23 ∧ P ≠ 24) ∧ ∀ k, k < 12 → (P + 1 + k ≠ 23 ∧ P + 1 + k ≠ 24) := by rcases hp with ⟨rfl, -⟩ | ⟨rfl, -⟩ <;> (refine ⟨by omega, fun k hk => ?_⟩; omega)
              refine ⟨by rw [g 0 (by decide) (by decide)]; exact h1, by rw [g 3 (by decide) (by decide)]; exact h2, h3.cg (by rw [g 0 (by decide) (by decide)]) (by rw [g 97 (by decide) (by decide)]) (by rw [g 3 (by decide) (by decide)]), h4.cg (by rw [g 1 (by decide) (by decide)]) (by rw [g 97 (by decide) (by decide)]) (g 2 (by decide) (by decide)) (g 117 (by decide) (by decide)), hd, h6.cg (by rw [g 26 (by decide) (by decide)]) (by rw [g 97 (by decide) (by decide)]) (fun q hq => g q (by omega) (by omega)),
                h7.cg (fun k _ _ => by rw [g P hP.1.1 hP.1.2]) (fun k _ _ => by rw [g 97 (by decide) (by decide)]) (fun k hk => g _ (hP.2 k hk).1 (hP.2 k hk).2) (fun q d1 d2 d3 => g q (by omega) (by omega)), h8.cg (by rw [g 0 (by decide) (by decide)]) (by rw [g 97 (by decide) (by decide)]) (by rw [g 0 (by decide) (by decide)]) (by rw [g 97 (by decide) (by decide)]), h9.cg (by rw [g 57 (by decide) (by decide)]) (by rw [g 57 (by decide) (by decide)]) rfl, ?_⟩
              rw [g 0 (by decide) (by decide)]
              intro hf
              refine ⟨(h10 hf).1.cg (by rw [g 97 (by decide) (by decide)]) (by rw [g 97 (by decide) (by decide)]) (by rw [g P hP.1.1 hP.1.2]) (by rw [g P hP.1.1 hP.1.2]) (by rw [g 26 (by decide) (by decide)]) (by rw [g 73 (by decide) (by decide)]) (by rw [g 61 (by decide) (by decide)]) (fun q hq => g q (by omega) (by omega)) rfl, (h10 hf).2.cg (fun q hq => g q (by omega) (by omega)) (fun D dv dc => ?_)⟩
              have gP : ∀ k, k < 12 → J (P + 1 + k) = I (P + 1 + k) := fun k hk => g _ (hP.2 k hk).1 (hP.2 k hk).2
              obtain ⟨x1, x2, x3, x4, x5, x6, x7⟩ := dc
              refine ⟨by rw [g P hP.1.1 hP.1.2]; exact x1, by rw [g 20 (by decide) (by decide)]; exact x2, by rw [gP 1 (by omega), gP 2 (by omega), gP 3 (by omega)]; exact x3, by rw [gP 4 (by omega)]; exact x4, by rw [gP 5 (by omega), gP 6 (by omega), gP 7 (by omega)]; exact x5, by rw [gP 9 (by omega), gP 10 (by omega), gP 11 (by omega)]; exact x6, fun q hq => ?_⟩
              obtain ⟨y1, y2, y3⟩ := x7 q hq
              refine ⟨by rw [g 21 (by decide) (by decide)]; exact y1, by rw [g 22 (by decide) (by decide)]; exact y2, fun k hk => ?_⟩
              have hv := dv.2.2.2.2.2 q hq
              have ne : 16 * q + k ≠ 16 * p + c := by
                by_cases hqp : q = p
                · subst hqp
                  have : D 12 q = c := by rw [c2] at y2; exact ((nI_eq (by omega) (by omega)).mp y2).symm
                  omega
                · omega
              have := y3 k hk
              rw [hJ]
              simpa [zu, ne] using this
            exact inv_thr hp hz 0 0
      · refine ⟨3, 1, I, L, 0, zu I 97 0 3, by omega, ?_, ?_, e_thr _, fun z => absurd z (by decide), inv_thr' hp h 3⟩
        · have : f_X11_corner (nI p) a b I = some (.inr 2, I) := by
            simp only [f_X11_corner, e1, zb1, zsm, Option.bind_some, zck_t _ hb, hcl, c2, if_neg l1, f_X11_corner_30, e_true_1, f_X11_corner_63]
            by_cases r1 : a < 0
            · rw [if_pos r1]
            · by_cases r2 : 64 < a
              · rw [if_neg r1, if_pos r2]
              · by_cases r3 : b < 0
                · rw [if_neg r1, if_neg r2, if_pos r3]
                · rw [if_neg r1, if_neg r2, if_neg r3, if_neg (fun z => hr ⟨r1, r2, r3, z⟩)]
          simp only [w_corner, this, zb2, Option.bind_some, zsm]
          rfl
        · unfold f_X12_corner f_X12_corner_62
          rw [if_neg (nI_pos (by omega)), a3, if_pos (nI_lt hpn (by omega)), zck_t _ hb, hcl, c3, if_neg l2, e_corner_67 zi_03]
          by_cases r1 : a < 0
          · rw [if_pos r1]
          · by_cases r2 : 64 < a
            · rw [if_neg r1, if_pos r2]
            · by_cases r3 : b < 0
              · rw [if_neg r1, if_neg r2, if_pos r3]
              · rw [if_neg r1, if_neg r2, if_neg r3, if_neg (fun z => hr ⟨r1, r2, r3, z⟩)]
    · have : c = 16 := by omega
      subst this
      refine ⟨2, 1, I, L, 0, zu I 97 0 2, by omega, ?_, ?_, e_thr _, fun z => absurd z (by decide), inv_thr' hp h 2⟩
      · simp only [w_corner, f_X11_corner, e1, zb1, zb2, zsm, Option.bind_some, zck_t _ hb, hcl, c2, if_pos (show (16 : Int32) ≤ nI 16 by decide), f_X11_corner_30, e_true_0]
        rfl
      · unfold f_X12_corner; rw [if_neg (nI_pos (by omega)), a3, if_pos (nI_lt hpn (by omega)), zck_t _ hb, hcl, c3, if_pos (show nI 16 = 16 from rfl), e_corner_67 zi_02]
