/-! the class's pins -/
def PA (A : Nat → Prop) (lo hi : Nat) (I : zI) (L : zL) : Prop := I 57 3 = nI lo ∧ I 57 4 = nI hi ∧ lo ≤ hi ∧ hi < 64 ∧ (∀ q, A q → q < 4096 ∧ lo ≤ q / 64 ∧ q / 64 ≤ hi) ∧ ∀ q, q < 4096 → (bt (L 58 (q / 64)) (q % 64) = true ↔ A q)
theorem PA.cg {A : Nat → Prop} {lo hi : Nat} {I I' : zI} {L L' : zL} (h : PA A lo hi I L) (e1 : I' 57 = I 57) (e2 : L' 58 = L 58) : PA A lo hi I' L' := by
  unfold PA at *; rw [e1, e2]; exact h
section Pn
variable {A : Nat → Prop} {lo hi : Nat}
theorem e_lowest {I : zI} {L : zL} (h : PA A lo hi I L) : f_X6_lowest I = some (nI (lo - 1)) := by
  unfold f_X6_lowest
  rw [h.1, zlt_b, zlt_b]
  have := h.2.2.1; have := h.2.2.2.1
  rcases nI_pm (x := lo) (by omega) with ⟨-, rfl⟩ | ⟨z1, z2⟩
  · exact congrArg some (show zmx 0 (nI 0 - 1) = nI (0 - 1) by decide)
  · rw [z2, ← nI_0, zmx_n (by omega) (by omega), Nat.max_eq_right (by omega)]
theorem e_highest {I : zI} {L : zL} (h : PA A lo hi I L) : f_X6_highest I = some (nI (min 63 (hi + 1))) := by
  unfold f_X6_highest
  have := h.2.2.2.1
  rw [h.2.1, zlt_b, zlt_b, nI_1, show (63 : Int32) = nI 63 from rfl, zmn_n (by omega) (by omega)]
theorem e_rowdn {y : Nat} (hy : y < 64) (L : zL) : f_X11_rowAt 58 (nI y - 1) L = some (if y = 0 then 0 else L 58 (y - 1)) := by
  unfold f_X11_rowAt f_X11_rowAt_10 f_X11_rowAt_17
  rcases nI_pm hy with ⟨z, rfl⟩ | ⟨z1, z2⟩
  · rw [if_pos z, if_pos rfl]
  · rw [z2, if_neg (nI_pos (by omega)), if_pos (show nI (y - 1) < 64 from nI_lt (b := 64) (by omega) (by omega)), zck_t _ (zbd_nI (by omega) (by decide)), nI_clamp (by omega), if_neg (by omega)]
theorem e_rowup {y : Nat} (hy : y < 64) (L : zL) : f_X11_rowAt 58 (nI y + 1) L = some (if y = 63 then 0 else L 58 (y + 1)) := by
  unfold f_X11_rowAt f_X11_rowAt_10 f_X11_rowAt_17
  rw [nI_1, if_neg (nI_pos (by omega))]
  by_cases z : y = 63
  · subst z
    rw [if_neg (show ¬ nI (63 + 1) < 64 by decide), if_pos rfl]
  · rw [if_pos (show nI (y + 1) < 64 from nI_lt (b := 64) (by omega) (by omega)), zck_t _ (zbd_nI (by omega) (by decide)), nI_clamp (by omega), if_neg z]
theorem rb {I : zI} {L : zL} (h : PA A lo hi I L) {y x : Nat} (hy : y < 64) (hx : x < 64) : (bt (L 58 y) x = true ↔ A (64 * y + x)) ∧ (bt (L 58 y <<< ((1 : Int32).toInt64 &&& 63)) x = true ↔ A (bsd (64 * y + x) 1)) ∧ (bt ((L 58 y).toUInt64 >>> ((1 : Int32).toInt64.toUInt64 &&& Int64.toUInt64 63)).toInt64 x = true ↔ A (bsd (64 * y + x) 0)) ∧ (bt (if y = 0 then 0 else L 58 (y - 1)) x = true ↔ A (bsd (64 * y + x) 3)) ∧ (bt (if y = 63 then 0 else L 58 (y + 1)) x = true ↔ A (bsd (64 * y + x) 2)) := by
  have n4 : ¬ A 4096 := fun w => absurd (h.2.2.2.2.1 _ w).1 (by omega)
  have key : ∀ y x, y < 64 → x < 64 → (bt (L 58 y) x = true ↔ A (64 * y + x)) := fun y x hy hx => by
    have := h.2.2.2.2.2 (64 * y + x) (by omega)
    rw [show (64 * y + x) / 64 = y by omega, show (64 * y + x) % 64 = x by omega] at this; exact this
  refine ⟨key y x hy hx, ?_, ?_, ?_, ?_⟩
  · rw [bt_shl1, bsd_1]
    by_cases z : x = 0
    · subst z
      rw [if_pos (by omega)]
      exact ⟨fun w => absurd w (by simp), fun w => absurd w n4⟩
    · rw [if_neg (by omega), show 64 * y + x - 1 = 64 * y + (x - 1) by omega, ← key y (x - 1) hy (by omega)]
      simp [hx]; omega
  · have e := bt_ushr (X := 1) (by decide) (L 58 y) x
    rw [show nI 1 = 1 from rfl] at e
    rw [e, bsd_0]
    by_cases z : x = 63
    · subst z
      rw [if_pos (by omega), bt_ge (by omega)]
      exact ⟨fun w => absurd w (by decide), fun w => absurd w n4⟩
    · rw [if_neg (by omega), show 64 * y + x + 1 = 64 * y + (1 + x) by omega]
      exact key y (1 + x) hy (by omega)
  · rw [bsd_3]
    by_cases z : y = 0
    · rw [if_pos z, if_pos (by omega), bt_0]
      exact ⟨fun w => absurd w (by decide), fun w => absurd w n4⟩
    · rw [if_neg z, if_neg (by omega), show 64 * y + x - 64 = 64 * (y - 1) + x by omega]
      exact key (y - 1) x (by omega) hx
  · rw [bsd_2]
    by_cases z : y = 63
    · rw [if_pos z, if_pos (by omega), bt_0]
      exact ⟨fun w => absurd w (by decide), fun w => absurd w n4⟩
    · rw [if_neg z, if_neg (by omega), show 64 * y + x + 64 = 64 * (y + 1) + x by omega]
      exact key (y + 1) x (by omega) hx
theorem Hal_4 (q : Nat) : Hal A q ↔ A q ∨ A (bsd q 1) ∨ A (bsd q 0) ∨ A (bsd q 3) ∨ A (bsd q 2) := by
  constructor
  · rintro (h | ⟨w, w1, w2⟩)
    · exact Or.inl h
    · have : w = 0 ∨ w = 1 ∨ w = 2 ∨ w = 3 := by omega
      rcases this with rfl | rfl | rfl | rfl
      · exact Or.inr (Or.inr (Or.inl w2))
      · exact Or.inr (Or.inl w2)
      · exact Or.inr (Or.inr (Or.inr (Or.inr w2)))
      · exact Or.inr (Or.inr (Or.inr (Or.inl w2)))
  · rintro (h | h | h | h | h)
    · exact Or.inl h
    · exact Or.inr ⟨1, by omega, h⟩
    · exact Or.inr ⟨0, by omega, h⟩
    · exact Or.inr ⟨3, by omega, h⟩
    · exact Or.inr ⟨2, by omega, h⟩
theorem Hal_in {I : zI} {L : zL} (h : PA A lo hi I L) {q : Nat} (hq : q < 4096) (g : Hal A q) : lo - 1 ≤ q / 64 ∧ q / 64 ≤ min 63 (hi + 1) := by
  have n4 : ¬ A 4096 := fun w => absurd (h.2.2.2.2.1 _ w).1 (by omega)
  rcases g with g | ⟨w, w1, w2⟩
  · have := h.2.2.2.2.1 q g; omega
  · have a := h.2.2.2.2.1 _ w2
    by_cases z : bsd q w = 4096
    · rw [z] at w2; exact absurd w2 n4
    · obtain ⟨b1, b2⟩ := bsd_adj hq w1 z
      generalize bsd q w = b at *
      unfold adjS at b2
      omega
/-- rows of the halo -/
def HR (A : Nat → Prop) (lo hi : Nat) (L : zL) : Prop := ∀ y x, lo - 1 ≤ y → y ≤ min 63 (hi + 1) → x < 64 → (bt (L 76 y) x = true ↔ Hal A (64 * y + x))
theorem ha_5 {I : zI} {L0 : zL} (h : PA A lo hi I L0) : ∀ r y L f, y + r = min 63 (hi + 1) + 1 → r < f → (∀ p, p ≠ 76 → L p = L0 p) → (∀ y' x, lo - 1 ≤ y' → y' < y → x < 64 → (bt (L 76 y') x = true ↔ Hal A (64 * y' + x))) → ∃ L', zlp3 f_X6_layHalo_5 f (nI y) I L = some L' ∧ (∀ p, p ≠ 76 → L' p = L0 p) ∧ HR A lo hi L'
  | _, _, _, 0, _, hf, _, _ => absurd hf (by omega)
  | 0, y, L, f + 1, hy, _, h1, h2 => by
    refine ⟨L, ?_, h1, fun y' x a b c => h2 y' x a (by omega) c⟩
    show f_X6_layHalo_5 _ (nI y) I L = _
    unfold f_X6_layHalo_5
    rw [e_highest h, zb1_b, if_pos (nI_lt (by omega) (by omega))]
  | r + 1, y, L, f + 1, hy, hf, h1, h2 => by
    have ih := fun L => ha_5 h r (y + 1) L f (by omega) (by omega)
    have e1 : zlp3 f_X6_layHalo_5 (f + 1) (nI y) I L = f_X6_layHalo_5 (zlp3 f_X6_layHalo_5 f) (nI y) I L := rfl
    rw [e1]
    generalize zlp3 f_X6_layHalo_5 f = k1 at ih ⊢
    have hb : zbd (nI y) 64 = true := zbd_nI (by omega) (by decide)
    have hcl : (nI y).toNatClampNeg = y := nI_clamp (by omega)
    have h' : PA A lo hi I L := h.cg rfl (h1 58 (by decide))
    unfold f_X6_layHalo_5
    rw [e_highest h, zb1_b, if_neg (nI_nlt (by omega) (by omega)), zck_t _ hb, hcl, zlt_b, zlt_b, zlt_b, zlt_b, e_rowdn (by omega), zb1_b, e_rowup (by omega), zb1_b, zlt_b, zck_t _ hb, zlt_b, zlt_b, nI_1]
    refine ih _ (fun p hp => by rw [zul_pf _ _ hp]; exact h1 p hp) (fun y' x a b c => ?_)
    by_cases z : y' = y
    · subst z
      obtain ⟨r1, r2, r3, r4, r5⟩ := rb h' (y := y') (x := x) (by omega) c
      rw [zul_eq, Hal_4, bt_or, bt_or, bt_or, bt_or, Bool.or_eq_true, Bool.or_eq_true, Bool.or_eq_true, Bool.or_eq_true, r1, r2, r3, r4, r5, or_assoc, or_assoc, or_assoc]
    · rw [zul_k _ _ z]; exact h2 y' x a (by omega) c
theorem c_halo {I : zI} {L : zL} (h : PA A lo hi I L) : ∃ L', f_X6_layHalo I L = some L' ∧ (∀ p, p ≠ 76 → L' p = L p) ∧ HR A lo hi L' := by
  unfold f_X6_layHalo
  rw [e_lowest h, zb1_b]
  have := h.2.2.1; have := h.2.2.2.1
  exact ha_5 h (min 63 (hi + 1) + 1 - (lo - 1)) (lo - 1) L zF (by omega) (zF_lt (by omega)) (fun _ _ => rfl) (fun y' x a b => absurd b (by omega))
theorem fr_2 {I : zI} {m : Nat} {v : Int32} (hm : m ≤ 4) (h5 : I 74 5 = nI m) : ∀ r i f, i + r = m → r < f → (∀ j, j < i → I 75 j ≠ v) → ((∀ j, j < m → I 75 j ≠ v) ∧ zlp3 f_X6_isFree_2 f v (nI i) I = some 1) ∨ ((∃ j, j < m ∧ I 75 j = v) ∧ zlp3 f_X6_isFree_2 f v (nI i) I = some 0)
  | _, _, 0, _, h, _ => absurd h (by omega)
  | 0, i, f + 1, hi, _, h1 => by
    have : i = m := by omega
    subst this
    refine Or.inl ⟨h1, ?_⟩
    show f_X6_isFree_2 _ v (nI i) I = _
    unfold f_X6_isFree_2
    rw [h5, if_pos (Int32.le_refl _)]
  | r + 1, i, f + 1, hi, hf, h1 => by
    have ih := fr_2 (v := v) hm h5 r (i + 1) f (by omega) (by omega)
    have e1 : zlp3 f_X6_isFree_2 (f + 1) v (nI i) I = f_X6_isFree_2 (zlp3 f_X6_isFree_2 f) v (nI i) I := rfl
    rw [e1]
    generalize zlp3 f_X6_isFree_2 f = k1 at ih ⊢
    unfold f_X6_isFree_2
    rw [h5, if_neg (nI_ge (by omega) (by omega)), zck_t _ (zbd_nI (by omega) (by decide)), nI_clamp (by omega)]
    by_cases z : I 75 i = v
    · rw [if_pos z]; exact Or.inr ⟨⟨i, by omega, z⟩, rfl⟩
    · rw [if_neg z, zlt_b, nI_1]
      exact ih (fun j hj => by
        by_cases y : j = i
        · subst y; exact z
        · exact h1 j (by omega))
theorem e_isFree {I : zI} {m : Nat} (v : Int32) (hm : m ≤ 4) (h5 : I 74 5 = nI m) : ((∀ j, j < m → I 75 j ≠ v) ∧ f_X6_isFree v I = some 1) ∨ ((∃ j, j < m ∧ I 75 j = v) ∧ f_X6_isFree v I = some 0) := fr_2 hm h5 m 0 zF (by omega) (zF_lt (by omega)) (fun j h => absurd h (by omega))
/-- nodes of a wire touched so far -/
def TC (D : Nat → Nat → Nat) (A : Nat → Prop) (w c x : Nat) : Prop := x < ndn D ∧ ∃ q, q < c ∧ Hal A q ∧ nod D w q = nI x
variable {D : Nat → Nat → Nat} {P w m : Nat} {I : zI} {L : zL}
theorem sq_n (X Y : Nat) : f_X11_squareAt (nI X) (nI Y) = some (nI (64 * Y + X)) := by
  unfold f_X11_squareAt
  rw [zlt_b, show (64 : Int32) = nI 64 from rfl, pk_mul, nI_add, Nat.mul_comm]
theorem ff_51 {k8 : Int32 → Int32 → Int32 → zI → zL → Option Int32} {y : Nat} (hv : DV D) (hw : w < D 0 1) (hN : NW D I) (hm : m ≤ 4) (h5 : I 74 5 = nI m) (hy : y < 64) : ∀ n c v3 v5 f, n < f → cnt v5.toBitVec.toNat 64 = n → 64 * y ≤ c → c ≤ 64 * y + 64 → (∀ x, x < 64 → (bt v5 x = true ↔ c ≤ 64 * y + x ∧ Hal A (64 * y + x) ∧ SqS D (D 4 w) (64 * y + x))) → lFr (TC D A w c) (I 75) m v3 → ∃ v3', zlp7 (f_X6_firstFree_51 k8 P) f (nI w) v3 (nI y) v5 (nI n) I L = k8 (nI w) v3' (nI (y + 1)) I L ∧ lFr (TC D A w (64 * y + 64)) (I 75) m v3'
  | _, _, _, _, 0, h, _, _, _, _, _ => absurd h (by omega)
  | 0, c, v3, v5, f + 1, _, hc, c1, c2, hb, hl => by
    have z5 := cnt_0 hc
    refine ⟨v3, ?_, LF_cg hl (fun x => ⟨fun ⟨a, q, q1, q2⟩ => ⟨a, q, by omega, q2⟩, fun ⟨a, q, q1, q2, q3⟩ => ⟨a, q, ?_, q2, q3⟩⟩) (fun _ _ => rfl)⟩
    · show f_X6_firstFree_51 k8 P _ (nI w) v3 (nI y) v5 (nI 0) I L = _
      unfold f_X6_firstFree_51
      rw [if_pos (by rw [nI_0]; exact Int32.le_refl _), zlt_b, nI_1]
    · refine Nat.lt_of_not_le fun u => ?_
      have hS : SqS D (D 4 w) q := by
        by_cases s : SqS D (D 4 w) q
        · exact s
        · rw [nod_f s] at q3
          have := ndn_le hv
          exact absurd q3.symm (nI_m1 (by omega))
      have := (hb (q - 64 * y) (by omega)).mpr ⟨by omega, by rw [show 64 * y + (q - 64 * y) = q by omega]; exact ⟨q2, hS⟩⟩
      rw [z5, bt_0] at this
      exact absurd this (by decide)
  | n + 1, c, v3, v5, f + 1, hf, hc, c1, c2, hb, hl => by
    have ih := fun c v3 v5 => ff_51 (k8 := k8) hv hw hN hm h5 hy n c v3 v5 f (by omega)
    have e1 : zlp7 (f_X6_firstFree_51 k8 P) (f + 1) (nI w) v3 (nI y) v5 (nI (n + 1)) I L = f_X6_firstFree_51 k8 P (zlp7 (f_X6_firstFree_51 k8 P) f) (nI w) v3 (nI y) v5 (nI (n + 1)) I L := rfl
    rw [e1]
    generalize zlp7 (f_X6_firstFree_51 k8 P) f = k1 at ih ⊢
    have n5 : v5 ≠ 0 := fun z => by
      subst z
      exact absurd hc (by rw [show cnt (0 : Int64).toBitVec.toNat 64 = 0 from by decide]; omega)
    obtain ⟨t, t1, t2, t3, t4, t5, t6⟩ := e_leftmost n5
    obtain ⟨u1, u2, u3⟩ := (hb t t1).mp t2
    have hnd := ndn_le hv
    have v2 := hv.1.2.1
    have hlt := nod_lt hw u3
    have hno := nod_t u3
    have hn8 : n + 1 ≤ 64 := by
      have : ∀ N k, cnt N k ≤ k := fun N k => by
        induction k with
        | zero => exact Nat.le_refl _
        | succ k ih => show cnt N k + _ ≤ _; split <;> omega
      have := this v5.toBitVec.toNat 64; omega
    have nx : ∀ v3', lFr (fun x => TC D A w c x ∨ x = fw D w + shf D (D 4 w) (64 * y + t)) (I 75) m v3' → ∃ v3'', k1 (nI w) v3' (nI y) (v5 &&& (v5 - 1)) (nI n) I L = k8 (nI w) v3'' (nI (y + 1)) I L ∧ lFr (TC D A w (64 * y + 64)) (I 75) m v3'' := by
      intro v3' h'
      refine ih (64 * y + t + 1) v3' _ (by omega) (by omega) (by omega) (fun x hx => ?_) (LF_cg h' (fun x => ⟨?_, ?_⟩) (fun _ _ => rfl))
      · rw [t5 x, Bool.and_eq_true, hb x hx, decide_eq_true_eq]
        constructor
        · rintro ⟨⟨a, b⟩, d⟩
          refine ⟨?_, b⟩
          have : ¬ x < t := fun q => by
            have := t3 x q
            rw [(hb x hx).mpr ⟨a, b⟩] at this; exact absurd this (by decide)
          omega
        · rintro ⟨a, b⟩
          exact ⟨⟨by omega, b⟩, by omega⟩
      · rintro (⟨a, q, q1, q2⟩ | rfl)
        · exact ⟨a, q, by omega, q2⟩
        · exact ⟨hlt, 64 * y + t, by omega, u2, hno⟩
      · rintro ⟨a, q, q1, q2, q3⟩
        by_cases z : q < c
        · exact Or.inl ⟨a, q, z, q2, q3⟩
        · by_cases z2 : q = 64 * y + t
          · subst z2
            rw [hno] at q3
            exact Or.inr ((nI_eq (by omega) (by omega)).mp q3).symm
          · have hS : SqS D (D 4 w) q := by
              by_cases s : SqS D (D 4 w) q
              · exact s
              · rw [nod_f s] at q3
                exact absurd q3.symm (nI_m1 (by omega))
            have b1 := (hb (q - 64 * y) (by omega)).mpr ⟨by omega, by rw [show 64 * y + (q - 64 * y) = q by omega]; exact ⟨q2, hS⟩⟩
            rw [t3 (q - 64 * y) (by omega)] at b1
            exact absurd b1 (by decide)
    have hadd := LF_add (N := ndn D) (n := fw D w + shf D (D 4 w) (64 * y + t)) (by omega) (fun x hx => hx.1) hlt hl
    unfold f_X6_firstFree_51 f_X6_firstFree_98 f_X6_firstFree_110
    rw [if_neg (nI_nle (by omega) (by omega)), zck_t _ (zbd_nI (by omega) (by decide)), t4, zb1_b, sq_n, zb1_b, zck_t _ (zbd_nI (by omega) (by decide)), nI_clamp (by omega), nI_clamp (by omega), hN.1 w _ hw (by omega), hno, zlt_b, zlt_b]
    have tk : (v3 = -1 ∨ nI (fw D w + shf D (D 4 w) (64 * y + t)) < v3) → ∃ v3'', (zb1 (f_X6_isFree (nI (fw D w + shf D (D 4 w) (64 * y + t))) I) fun x23 => if x23 = 0 then zlt (nI (n + 1) + -1) fun x24 => k1 (nI w) v3 (nI y) (v5 &&& (v5 - 1)) x24 I L else zlt (nI (n + 1) + -1) fun x24 => k1 (nI w) (nI (fw D w + shf D (D 4 w) (64 * y + t))) (nI y) (v5 &&& (v5 - 1)) x24 I L) = k8 (nI w) v3'' (nI (y + 1)) I L ∧ lFr (TC D A w (64 * y + 64)) (I 75) m v3'' := by
      intro hlt3
      rcases e_isFree (nI (fw D w + shf D (D 4 w) (64 * y + t))) hm h5 with ⟨g1, g2⟩ | ⟨g1, g2⟩
      · rw [g2, zb1_b, if_neg n10, zlt_b, pk_m1]
        exact nx _ (hadd.1 hlt3 g1)
      · rw [g2, zb1_b, if_pos rfl, zlt_b, pk_m1]
        exact nx _ (hadd.2 (Or.inr g1))
    by_cases z : v3 = -1
    · rw [if_pos z]; exact tk (Or.inl z)
    · rw [if_neg z]
      by_cases z2 : v3 ≤ nI (fw D w + shf D (D 4 w) (64 * y + t))
      · rw [if_pos z2, zlt_b, pk_m1]
        exact nx _ (hadd.2 (Or.inl ⟨z, z2⟩))
      · rw [if_neg z2]; exact tk (Or.inr (Int32.not_le.mp z2))
end Pn
