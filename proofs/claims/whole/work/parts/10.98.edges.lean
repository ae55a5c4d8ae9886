/-! the class's measures -/
theorem cnt_smm (N : Nat) : ∀ n, cnt N n = smm (fun x => ivp (N.testBit x = true)) n
  | 0 => rfl
  | n + 1 => by
    show cnt N n + _ = smm _ n + ivp (N.testBit n = true)
    rw [cnt_smm N n]
    by_cases z : N.testBit n = true
    · rw [iv_t z]; simp [z]
    · rw [iv_f z]; simp [z]
theorem e_bc (a : Int64) {p : Nat → Prop} (h : ∀ x, x < 64 → (bt a x = true ↔ p x)) : f_J13_bitCount_95d88 a = some (nI (smm (fun x => ivp (p x)) 64)) := by
  rw [e_bitCount, cnt_smm]
  exact congrArg (fun n => some (nI n)) (sm_cg 64 (fun i hi => iv_cg (h i hi)))
theorem sm_z {f : Nat → Nat} {a b : Nat} (hab : a ≤ b) (h : ∀ i, a ≤ i → i < b → f i = 0) : smm f b = smm f a := by
  obtain ⟨c, rfl⟩ : ∃ c, b = a + c := ⟨b - a, by omega⟩
  rw [sm_app, sm_0 c (fun i hi => h (a + i) (by omega) (by omega))]; rfl
section Ed
variable {A : Nat → Prop} {lo hi : Nat}
theorem ed_10 {I : zI} {L : zL} (h : PA A lo hi I L) : ∀ r y f, y + r = hi + 1 → r < f → zlp4 f_X6_edges_10 f (nI (smm (fun s => wy4 (fun w => A s ∧ ¬ A (bsd s w))) (64 * y))) (nI y) I L = some (nI (smm (fun s => wy4 (fun w => A s ∧ ¬ A (bsd s w))) (64 * (hi + 1))))
  | _, _, 0, _, h => absurd h (by omega)
  | 0, y, f + 1, hy, _ => by
    have : y = hi + 1 := by omega
    subst this
    show f_X6_edges_10 _ _ (nI (hi + 1)) I L = _
    unfold f_X6_edges_10
    have := h.2.2.2.1
    rw [h.2.1, if_pos (nI_lt (by omega) (by omega))]
  | r + 1, y, f + 1, hy, hf => by
    have ih := ed_10 h r (y + 1) f (by omega) (by omega)
    generalize hv : smm (fun s => wy4 (fun w => A s ∧ ¬ A (bsd s w))) (64 * y) = v
    have e1 : zlp4 f_X6_edges_10 (f + 1) (nI v) (nI y) I L = f_X6_edges_10 (zlp4 f_X6_edges_10 f) (nI v) (nI y) I L := rfl
    rw [e1]
    generalize zlp4 f_X6_edges_10 f = k1 at ih ⊢
    have := h.2.2.2.1
    have hb : zbd (nI y) 64 = true := zbd_nI (by omega) (by decide)
    have hcl : (nI y).toNatClampNeg = y := nI_clamp (by omega)
    have bits : ∀ (a : Int64) (w : Nat), (∀ x, x < 64 → (bt a x = true ↔ A (bsd (64 * y + x) w))) → f_J13_bitCount_95d88 (L 58 y &&& (a ^^^ -1)) = some (nI (smm (fun x => ivp (A (64 * y + x) ∧ ¬ A (bsd (64 * y + x) w))) 64)) := by
      intro a w ha
      refine e_bc _ (fun x hx => ?_)
      rw [bt_and, bt_not hx, Bool.and_eq_true, (rb h (y := y) (by omega) hx).1, Bool.not_eq_true', ← ha x hx, Bool.not_eq_true]
    unfold f_X6_edges_10
    rw [h.2.1, if_neg (nI_nlt (by omega) (by omega)), zck_t _ hb, hcl, zlt_b, zlt_b, zlt_b, bits _ 1 (fun x hx => (rb h (y := y) (by omega) hx).2.1), zb1_b, zlt_b, zlt_b, zlt_b, bits _ 0 (fun x hx => (rb h (y := y) (by omega) hx).2.2.1), zb1_b, zlt_b, e_rowdn (by omega), zb1_b, zlt_b, bits _ 3 (fun x hx => (rb h (y := y) (by omega) hx).2.2.2.1), zb1_b, zlt_b, e_rowup (by omega), zb1_b, zlt_b, bits _ 2 (fun x hx => (rb h (y := y) (by omega) hx).2.2.2.2), zb1_b, zlt_b, zlt_b, nI_1, nI_add, nI_add, nI_add, nI_add, ← ih]
    congr 2
    rw [show 64 * (y + 1) = 64 * y + 64 by omega, sm_app, hv]
    have : smm (fun x => wy4 (fun w => A (64 * y + x) ∧ ¬ A (bsd (64 * y + x) w))) 64 = smm (fun x => ivp (A (64 * y + x) ∧ ¬ A (bsd (64 * y + x) 0))) 64 + smm (fun x => ivp (A (64 * y + x) ∧ ¬ A (bsd (64 * y + x) 1))) 64 + smm (fun x => ivp (A (64 * y + x) ∧ ¬ A (bsd (64 * y + x) 2))) 64 + smm (fun x => ivp (A (64 * y + x) ∧ ¬ A (bsd (64 * y + x) 3))) 64 := by
      rw [← sm_add, ← sm_add, ← sm_add]; rfl
    rw [this]; omega
theorem c_edges {I : zI} {L : zL} (h : PA A lo hi I L) : f_X6_edges I L = some (nI (sz1 A)) := by
  have h4 := h.2.2.1; have h5 := h.2.2.2.1
  have z : ∀ s, ¬ A s → wy4 (fun w => A s ∧ ¬ A (bsd s w)) = 0 := fun s hs => by
    unfold wy4
    rw [iv_f (fun w => hs w.1), iv_f (fun w => hs w.1), iv_f (fun w => hs w.1), iv_f (fun w => hs w.1)]
  have e0 : smm (fun s => wy4 (fun w => A s ∧ ¬ A (bsd s w))) (64 * lo) = 0 := sm_0 _ (fun i hi' => z i (fun w => by have := h.2.2.2.2.1 i w; omega))
  have e1 : sz1 A = smm (fun s => wy4 (fun w => A s ∧ ¬ A (bsd s w))) (64 * (hi + 1)) := sm_z (by omega) (fun i a b => z i (fun w => by have := h.2.2.2.2.1 i w; omega))
  have := ed_10 h (hi + 1 - lo) lo zF (by omega) (zF_lt (by omega))
  unfold f_X6_edges
  rw [h.1, zlt_b, e1]
  rw [e0] at this
  exact this
theorem c_around {I : zI} {L : zL} (h : PA A lo hi I L) {x y : Nat} (hx : x < 64) (hy : y < 64) : f_X6_edgesAround (nI x) (nI y) L = some (nI (wy4 (fun w => A (bsd (64 * y + x) w)))) := by
  have n4 : ¬ A 4096 := fun w => absurd (h.2.2.2.2.1 _ w).1 (by omega)
  unfold f_X6_edgesAround
  have b5 : f_J13_bitCount_95d88 (L 58 y &&& ((1 : Int64) <<< ((nI x).toInt64 &&& 63) <<< ((1 : Int32).toInt64 &&& 63) ||| (((1 : Int64) <<< ((nI x).toInt64 &&& 63)).toUInt64 >>> ((1 : Int32).toInt64.toUInt64 &&& Int64.toUInt64 63)).toInt64)) = some (nI (ivp (A (bsd (64 * y + x) 0)) + ivp (A (bsd (64 * y + x) 1)))) := by
    rw [e_bc _ (p := fun x' => (x' = x + 1 ∧ A (bsd (64 * y + x) 0)) ∨ (x' = x - 1 ∧ (1 ≤ x ∧ A (bsd (64 * y + x) 1)))) (fun x' hx' => ?_)]
    · have e : (fun x' => ivp ((x' = x + 1 ∧ A (bsd (64 * y + x) 0)) ∨ (x' = x - 1 ∧ (1 ≤ x ∧ A (bsd (64 * y + x) 1))))) = fun x' => ivp (x' = x + 1 ∧ A (bsd (64 * y + x) 0)) + ivp (x' = x - 1 ∧ (1 ≤ x ∧ A (bsd (64 * y + x) 1))) := funext fun x' => iv_or (fun ⟨a, b⟩ => by omega)
      rw [e, sm_add, sm_one, sm_one, if_pos (show x - 1 < 64 by omega)]
      congr 3
      · by_cases z : x + 1 < 64
        · rw [if_pos z]
        · rw [if_neg z, bsd_0, if_pos (by omega), iv_f n4]
      · refine iv_cg ⟨fun w => w.2, fun w => ⟨?_, w⟩⟩
        refine Nat.lt_of_not_le fun u => ?_
        rw [bsd_1, if_pos (by omega)] at w
        exact n4 w
    · have e2 := bt_ushr (X := 1) (by decide) ((1 : Int64) <<< ((nI x).toInt64 &&& 63)) x'
      rw [show nI 1 = 1 from rfl] at e2
      rw [bt_and, bt_or, bt_shl1, e2, bt_one hx, bt_one hx, Bool.and_eq_true, Bool.or_eq_true, (rb h hy hx').1]
      simp only [Bool.and_eq_true, decide_eq_true_eq, Bool.not_eq_true', decide_eq_false_iff_not]
      constructor
      · rintro ⟨a, ⟨⟨-, c⟩, d⟩ | d⟩
        · refine Or.inl ⟨by omega, ?_⟩
          rw [bsd_0, if_neg (by omega), show 64 * y + x + 1 = 64 * y + x' by omega]; exact a
        · refine Or.inr ⟨by omega, by omega, ?_⟩
          rw [bsd_1, if_neg (by omega), show 64 * y + x - 1 = 64 * y + x' by omega]; exact a
      · rintro (⟨a, b⟩ | ⟨a, b, c⟩)
        · rw [bsd_0, if_neg (by omega)] at b
          exact ⟨by rw [show 64 * y + x' = 64 * y + x + 1 by omega]; exact b, Or.inl ⟨⟨hx', by omega⟩, by omega⟩⟩
        · rw [bsd_1, if_neg (by omega)] at c
          exact ⟨by rw [show 64 * y + x' = 64 * y + x - 1 by omega]; exact c, Or.inr (by omega)⟩
  have b1 : ∀ (a : Int64) (w : Nat), (∀ x, x < 64 → (bt a x = true ↔ A (bsd (64 * y + x) w))) → f_J13_bitCount_95d88 (a &&& (1 : Int64) <<< ((nI x).toInt64 &&& 63)) = some (nI (ivp (A (bsd (64 * y + x) w)))) := by
    intro a w ha
    rw [e_bc _ (p := fun x' => x' = x ∧ A (bsd (64 * y + x) w)) (fun x' hx' => ?_), sm_one, if_pos hx]
    rw [bt_and, bt_one hx, Bool.and_eq_true, decide_eq_true_eq, ha x' hx']
    exact ⟨fun ⟨p, q⟩ => ⟨q, q ▸ p⟩, fun ⟨p, q⟩ => ⟨p ▸ q, p⟩⟩
  rw [zlt_b, zck_t _ (zbd_nI hy (by decide)), zlt_b, zlt_b, nI_clamp (n := y) (by omega), zlt_b, b5, zb1_b, e_rowdn hy, zb1_b, b1 _ 3 (fun x' hx' => (rb h hy hx').2.2.2.1), zb1_b, e_rowup hy, zb1_b, b1 _ 2 (fun x' hx' => (rb h hy hx').2.2.2.2), zb1_b, zlt_b, nI_add, nI_add]
  congr 2
  show _ = ivp (A (bsd (64 * y + x) 0)) + ivp (A (bsd (64 * y + x) 1)) + ivp (A (bsd (64 * y + x) 2)) + ivp (A (bsd (64 * y + x) 3))
  omega
/-- squares beside a place that are the first pin's -/
def PinQ (D : Nat → Nat → Nat) (A : Nat → Prop) (k : Nat) (v : Int32) (b : Nat) : Prop := b < 4096 ∧ ¬ A b ∧ v ≠ -1 ∧ nod D (D 10 (4 * k)) b = v
variable {D : Nat → Nat → Nat} {P k : Nat} {I : zI} {L : zL}
theorem eg_88 {k30 : Int32 → Int32 → Int32 → zI → zL → Option Int32} {w y : Nat} (hv : DV D) (hw : w < D 0 1) (hwk : w = D 10 (4 * k)) (hP : PA A lo hi I L) (hN : NW D I) (hn1 : I 75 0 ≠ -1) (hy : y < 64) : ∀ n c v5 f, n < f → cnt v5.toBitVec.toNat 64 = n → 64 * y ≤ c → c ≤ 64 * y + 64 → (∀ x, x < 64 → (bt v5 x = true ↔ c ≤ 64 * y + x ∧ Hal A (64 * y + x) ∧ ¬ A (64 * y + x) ∧ SqS D (D 4 w) (64 * y + x))) → zlp7 (f_X6_edgesToFirstPin_88 k30 P) f (nI w) (nI (smm (fun b => wy4 (fun w => PinQ D A k (I 75 0) b ∧ A (bsd b w))) c)) (nI y) v5 (nI n) I L = k30 (nI w) (nI (smm (fun b => wy4 (fun w => PinQ D A k (I 75 0) b ∧ A (bsd b w))) (64 * y + 64))) (nI (y + 1)) I L
  | _, _, _, 0, h, _, _, _, _ => absurd h (by omega)
  | n, c, v5, f + 1, hf, hc, c1, c2, hb => by
    have zero : ∀ b, c ≤ b → b < 64 * y + 64 → ¬ (bt v5 (b - 64 * y) = true) → wy4 (fun w => PinQ D A k (I 75 0) b ∧ A (bsd b w)) = 0 := by
      intro b b1 b2 b3
      have no : ∀ u, u < 4 → ¬ (PinQ D A k (I 75 0) b ∧ A (bsd b u)) := fun u hu ⟨⟨q1, q2, q3, q4⟩, q5⟩ => b3 ((hb (b - 64 * y) (by omega)).mpr (by
        rw [show 64 * y + (b - 64 * y) = b by omega]
        refine ⟨b1, Or.inr ⟨u, hu, q5⟩, q2, ?_⟩
        by_cases s : SqS D (D 4 w) b
        · exact s
        · rw [← hwk, nod_f s] at q4; exact absurd q4.symm q3))
      unfold wy4
      rw [iv_f (no 0 (by omega)), iv_f (no 1 (by omega)), iv_f (no 2 (by omega)), iv_f (no 3 (by omega))]
    have e1 : ∀ v, zlp7 (f_X6_edgesToFirstPin_88 k30 P) (f + 1) (nI w) v (nI y) v5 (nI n) I L = f_X6_edgesToFirstPin_88 k30 P (zlp7 (f_X6_edgesToFirstPin_88 k30 P) f) (nI w) v (nI y) v5 (nI n) I L := fun _ => rfl
    rw [e1]
    by_cases n0 : n = 0
    · subst n0
      have z5 := cnt_0 hc
      unfold f_X6_edgesToFirstPin_88
      rw [if_pos (by rw [nI_0]; exact Int32.le_refl _), zlt_b, nI_1, sm_z (a := c) (b := 64 * y + 64) c2 (fun i a b => zero i a b (by rw [z5, bt_0]; decide))]
    · obtain ⟨n, rfl⟩ : ∃ q, n = q + 1 := ⟨n - 1, by omega⟩
      have ih := fun c v5 => eg_88 (k30 := k30) hv hw hwk hP hN hn1 hy n c v5 f (by omega)
      generalize zlp7 (f_X6_edgesToFirstPin_88 k30 P) f = k1 at ih ⊢
      have n5 : v5 ≠ 0 := fun z => by
        subst z
        exact absurd hc (by rw [show cnt (0 : Int64).toBitVec.toNat 64 = 0 from by decide]; omega)
      obtain ⟨t, t1, t2, t3, t4, t5, t6⟩ := e_leftmost n5
      obtain ⟨u1, u2, u3, u4⟩ := (hb t t1).mp t2
      have hn8 : n + 1 ≤ 64 := by
        have : ∀ N k, cnt N k ≤ k := fun N k => by
          induction k with
          | zero => exact Nat.le_refl _
          | succ k ih => show cnt N k + _ ≤ _; split <;> omega
        have := this v5.toBitVec.toNat 64; omega
      have v2 := hv.1.2.1
      have es : smm (fun b => wy4 (fun w => PinQ D A k (I 75 0) b ∧ A (bsd b w))) (64 * y + t + 1) = smm (fun b => wy4 (fun w => PinQ D A k (I 75 0) b ∧ A (bsd b w))) c + wy4 (fun w => PinQ D A k (I 75 0) (64 * y + t) ∧ A (bsd (64 * y + t) w)) := by
        show smm _ (64 * y + t) + _ = _
        rw [sm_z (a := c) (b := 64 * y + t) (by omega) (fun i a b => zero i a (by omega) (by rw [t3 (i - 64 * y) (by omega)]; decide))]
      have nx := ih (64 * y + t + 1) (v5 &&& (v5 - 1)) (by omega) (by omega) (by omega) (fun x hx => by
        rw [t5 x, Bool.and_eq_true, hb x hx, decide_eq_true_eq]
        constructor
        · rintro ⟨⟨a, b⟩, d⟩
          refine ⟨?_, b⟩
          have : ¬ x < t := fun q => by
            have := t3 x q
            rw [(hb x hx).mpr ⟨a, b⟩] at this; exact absurd this (by decide)
          omega
        · rintro ⟨a, b⟩
          exact ⟨⟨by omega, b⟩, by omega⟩)
      rw [es] at nx
      unfold f_X6_edgesToFirstPin_88 f_X6_edgesToFirstPin_148
      rw [if_neg (nI_nle (by omega) (by omega)), t4, zb1_b, zlt_b, zck_t _ (zbd_nI (by omega) (by decide)), sq_n, zb1_b, zck_t _ (zbd_nI (by omega) (by decide)), zck_t _ (zbd_0 (by decide) (by decide)), nI_clamp (n := w) (by omega), nI_clamp (n := 64 * y + t) (by omega), show (0 : Int32).toNatClampNeg = 0 from rfl, hN.1 w _ hw (by omega)]
      by_cases z : nod D w (64 * y + t) = I 75 0
      · rw [if_pos z, c_around hP t1 hy, zb1_b, zlt_b, nI_add, zlt_b, pk_m1, ← nx]
        have : wy4 (fun w => PinQ D A k (I 75 0) (64 * y + t) ∧ A (bsd (64 * y + t) w)) = wy4 (fun w => A (bsd (64 * y + t) w)) := w4_cg (fun u _ => ⟨fun q => q.2, fun q => ⟨⟨by omega, u3, hn1, by rw [← hwk]; exact z⟩, q⟩⟩)
        rw [this]
      · rw [if_neg z, zlt_b, pk_m1, ← nx]
        have no : ∀ u, ¬ (PinQ D A k (I 75 0) (64 * y + t) ∧ A (bsd (64 * y + t) u)) := fun u q => z (by rw [hwk]; exact q.1.2.2.2)
        have : wy4 (fun w => PinQ D A k (I 75 0) (64 * y + t) ∧ A (bsd (64 * y + t) w)) = 0 := by
          unfold wy4
          rw [iv_f (no 0), iv_f (no 1), iv_f (no 2), iv_f (no 3)]
        rw [this, Nat.add_zero]
theorem eg_30 {w : Nat} (hv : DV D) (hw : w < D 0 1) (hwk : w = D 10 (4 * k)) (hP : PA A lo hi I L) (hR : HR A lo hi L) (hd : DC P D I) (hH : HS D (Hc L)) (hN : NW D I) (hn1 : I 75 0 ≠ -1) : ∀ r y f, lo - 1 ≤ y → y + r = min 63 (hi + 1) + 1 → r < f → zlp5 (f_X6_edgesToFirstPin_30 P) f (nI w) (nI (smm (fun b => wy4 (fun w => PinQ D A k (I 75 0) b ∧ A (bsd b w))) (64 * y))) (nI y) I L = some (nI (smm (fun b => wy4 (fun w => PinQ D A k (I 75 0) b ∧ A (bsd b w))) (64 * (min 63 (hi + 1) + 1))))
  | _, _, 0, _, _, h => absurd h (by omega)
  | 0, y, f + 1, _, hy, _ => by
    have : y = min 63 (hi + 1) + 1 := by omega
    subst this
    show f_X6_edgesToFirstPin_30 P _ (nI w) _ (nI _) I L = _
    unfold f_X6_edgesToFirstPin_30
    rw [e_highest hP, zb1_b, if_pos (nI_lt (by omega) (by omega))]
  | r + 1, y, f + 1, hlo, hy, hf => by
    have ih := eg_30 hv hw hwk hP hR hd hH hN hn1 r (y + 1) f (by omega) (by omega) (by omega)
    have e1 : ∀ v, zlp5 (f_X6_edgesToFirstPin_30 P) (f + 1) (nI w) v (nI y) I L = f_X6_edgesToFirstPin_30 P (zlp5 (f_X6_edgesToFirstPin_30 P) f) (nI w) v (nI y) I L := fun _ => rfl
    rw [e1]
    generalize zlp5 (f_X6_edgesToFirstPin_30 P) f = k1 at ih ⊢
    have v2 := hv.1.2.1
    have v1 := hv.1.1
    have w3 := hv.2.2.1 w hw
    have c1 := hd.2.2.2.1 w hw
    have hb : zbd (nI y) 64 = true := zbd_nI (by omega) (by decide)
    have hcl : (nI y).toNatClampNeg = y := nI_clamp (by omega)
    have eS := SS_eq hv hH w3
    unfold f_X6_edgesToFirstPin_30
    rw [e_highest hP, zb1_b, if_neg (nI_nlt (by omega) (by omega)), zck_t _ hb, zck_t _ hb, hcl, zlt_b, zlt_b, zck_t _ (zbd_nI (by omega) (by decide)), nI_clamp (n := w) (by omega), c1, zlt_b, zck_t _ (zbd_nI (by omega) (by decide)), zck_t _ hb, nI_clamp (n := D 4 w) (by omega), zlt_b, e_bitCount, zb1_b]
    rw [eg_88 (k30 := k1) (P := P) hv hw hwk hP hN hn1 (show y < 64 by omega) _ (64 * y) (L 76 y &&& (L 58 y ^^^ -1) &&& L (33 + D 4 w) y) zF (zF_lt (by
      have : ∀ N k, cnt N k ≤ k := fun N k => by
        induction k with
        | zero => exact Nat.le_refl _
        | succ k ih => show cnt N k + _ ≤ _; split <;> omega
      have := this (L 76 y &&& (L 58 y ^^^ -1) &&& L (33 + D 4 w) y).toBitVec.toNat 64; omega)) rfl (by omega) (by omega) (fun x hx => by
        rw [bt_and, bt_and, bt_not hx, Bool.and_eq_true, Bool.and_eq_true, hR y x hlo (by omega) hx, Bool.not_eq_true', eS]
        have q1 : (bt (L (33 + D 4 w) y) x = true) ↔ Hc L (D 4 w) (64 * y + x) := by
          unfold Hc
          rw [show (64 * y + x) / 64 = y by omega, show (64 * y + x) % 64 = x by omega]
        have q2 : (bt (L 58 y) x = false) ↔ ¬ A (64 * y + x) := by rw [← (rb hP (y := y) (by omega) hx).1, Bool.not_eq_true]
        rw [q1, q2]
        exact ⟨fun ⟨⟨a, b⟩, c⟩ => ⟨by omega, a, b, by omega, c⟩, fun ⟨_, a, b, _, c⟩ => ⟨⟨a, b⟩, c⟩⟩)]
    rw [show 64 * y + 64 = 64 * (y + 1) by omega]
    exact ih
theorem c_efp (hv : DV D) (hk : k < D 0 3) (hP : PA A lo hi I L) (hR : HR A lo hi L) (hd : DC P D I) (hH : HS D (Hc L)) (hN : NW D I) : f_X6_edgesToFirstPin P (nI k) I L = some (nI (sz2 A (PinQ D A k (I 75 0)))) := by
  obtain ⟨z1, z2, z3, z4⟩ := hv.2.2.2.2.1 k hk
  obtain ⟨c1, c2, c3⟩ := hd.2.2.2.2.2.1 k hk
  have v4 := hv.1.2.2.2.1
  have h4 := hP.2.2.1; have h5 := hP.2.2.2.1
  have hA : ∀ q, A q → q < 4096 := fun q h => (hP.2.2.2.2.1 q h).1
  unfold f_X6_edgesToFirstPin
  rw [zck_t _ (zbd_0 (by decide) (by decide)), show (0 : Int32).toNatClampNeg = 0 from rfl]
  by_cases y : I 75 0 = -1
  · rw [if_pos y]
    have : sz2 A (PinQ D A k (I 75 0)) = 0 := sm_0 _ (fun i _ => by
      have no : ∀ u, ¬ (A i ∧ PinQ D A k (I 75 0) (bsd i u)) := fun u q => q.2.2.2.1 y
      show wy4 _ = 0
      unfold wy4
      rw [iv_f (no 0), iv_f (no 1), iv_f (no 2), iv_f (no 3)])
    rw [this, nI_0]
  · have c0 : I (P + 1 + 11) (4 * k) = nI (D 10 (4 * k)) := c3 0 (by omega)
    have w0 : D 10 (4 * k) < D 0 1 := z4 0 (by omega)
    have zero : ∀ i, i < 4096 → ¬ (lo - 1 ≤ i / 64 ∧ i / 64 ≤ min 63 (hi + 1)) → wy4 (fun w => PinQ D A k (I 75 0) i ∧ A (bsd i w)) = 0 := fun i hi' q => by
      have no : ∀ u, u < 4 → ¬ (PinQ D A k (I 75 0) i ∧ A (bsd i u)) := fun u hu r => q (Hal_in hP hi' (Or.inr ⟨u, hu, r.2⟩))
      unfold wy4
      rw [iv_f (no 0 (by omega)), iv_f (no 1 (by omega)), iv_f (no 2 (by omega)), iv_f (no 3 (by omega))]
    have e0 : smm (fun b => wy4 (fun w => PinQ D A k (I 75 0) b ∧ A (bsd b w))) (64 * (lo - 1)) = 0 := sm_0 _ (fun i hi' => zero i (by omega) (by omega))
    have e1 : smm (fun b => wy4 (fun w => PinQ D A k (I 75 0) b ∧ A (bsd b w))) 4096 = smm (fun b => wy4 (fun w => PinQ D A k (I 75 0) b ∧ A (bsd b w))) (64 * (min 63 (hi + 1) + 1)) := sm_z (by omega) (fun i a b => zero i b (by omega))
    have e := eg_30 (k := k) hv w0 rfl hP hR hd hH hN y (min 63 (hi + 1) + 1 - (lo - 1)) (lo - 1) zF (Nat.le_refl _) (by omega) (zF_lt (by omega))
    rw [e0, nI_0] at e
    rw [if_neg y, show (4 : Int32) = nI 4 from rfl, pk_mul, Nat.mul_comm, zlt_b, zck_t _ (zbd_nI (by omega) (by decide)), nI_clamp (n := 4 * k) (by omega), c0, zlt_b, e_lowest hP, zb1_b, e, ← e1]
    exact congrArg (fun n => some (nI n)) (sz2_s (fun q h => h.1) hA)
end Ed
