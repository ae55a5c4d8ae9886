/-! the reference's measures -/
def FL3 (d : Nat) (L0 L : zL) : Prop := (∀ p, p ≠ 129 → L p = L0 p) ∧ ∀ i, i < 3 * d ∨ 3 * d + 3 ≤ i → L 129 i = L0 129 i
section Me
variable {D : Nat → Nat → Nat} {A : Nat → Prop} {d k pl l w : Nat} {v6 : Int32}
theorem me_way {k35 : Int32 → Int32 → Int32 → Int32 → Int32 → Int32 → zI → zL → Option (zI × zL)} {k105 : Int32 → Int32 → Int32 → Int32 → Int32 → Int32 → Int32 → zI → zL → Option (zI × zL)} {J : zI} {L : zL} {s i a c : Nat} (hv : DV D) (hN : RNo D J) (hA : A = PlSq D l pl) (hl : l < D 0 0) (hpl : pl < 4096) (hw : w < D 0 1) (hwk : w = D 10 (4 * k)) (hd : d < 300) (hs : s < 4096) (hi : i < 4) (h1 : L 129 (3 * d + 1) = lN a) (h2 : L 129 (3 * d + 2) = lN c) : f_X12_measure_105 k35 k105 (nI d) (nI pl) (nI (4096 * l)) (nI w) v6 (nI s) (nI i) J L = k105 (nI d) (nI pl) (nI (4096 * l)) (nI w) v6 (nI s) (nI (i + 1)) J (zul (zul L 129 (3 * d + 1) (lN (a + ivp (¬ A (bsd s i))))) 129 (3 * d + 2) (lN (c + ivp (PinQ D A k v6 (bsd s i))))) := by
  have v1 := hv.1.1
  have t215 : ∀ L2 : zL, L2 129 (3 * d + 2) = lN c → ¬ PinQ D A k v6 (bsd s i) → f_X12_measure_215 k35 k105 (nI d) (nI pl) (nI (4096 * l)) (nI w) v6 (nI s) (nI i) (nI (3 * d + 2)) (L2 129 (3 * d + 2)) J L2 = k105 (nI d) (nI pl) (nI (4096 * l)) (nI w) v6 (nI s) (nI (i + 1)) J (zul L2 129 (3 * d + 2) (lN (c + ivp (PinQ D A k v6 (bsd s i))))) := by
    intro L2 e no
    unfold f_X12_measure_215 f_X12_measure_216
    rw [zck_t _ (zbd_nI (by omega) (by decide)), nI_clamp (n := 3 * d + 2) (by omega), zlt_b, zlt_b, nI_1, e, show (0 : Int64) = lN 0 from rfl, lN_add, iv_f no]
  have t168 : ∀ (v9 v10 : Int32) (x : Int64) (y : Nat), x = lN y → ((v10 = 0 ∧ ¬ A (bsd s i)) ∨ (v10 = 1 ∧ A (bsd s i))) → ((v9 = -1 ∧ bsd s i = 4096) ∨ (v9 = nI (bsd s i) ∧ bsd s i < 4096)) → y = ivp (¬ A (bsd s i)) → f_X12_measure_168 k35 k105 (nI d) (nI pl) (nI (4096 * l)) (nI w) v6 (nI s) (nI i) v9 v10 (nI (3 * d + 1)) (L 129 (3 * d + 1)) x J L = k105 (nI d) (nI pl) (nI (4096 * l)) (nI w) v6 (nI s) (nI (i + 1)) J (zul (zul L 129 (3 * d + 1) (lN (a + ivp (¬ A (bsd s i))))) 129 (3 * d + 2) (lN (c + ivp (PinQ D A k v6 (bsd s i))))) := by
    intro v9 v10 x y hx h10 h9 hy
    have e2 : zul L 129 (3 * d + 1) (lN (a + ivp (¬ A (bsd s i)))) 129 (3 * d + 2) = lN c := by rw [zul_k _ _ (by omega)]; exact h2
    unfold f_X12_measure_168
    rw [zck_t _ (zbd_nI (by omega) (by decide)), nI_clamp (n := 3 * d + 1) (by omega), h1, hx, lN_add, hy, zlt_b, show (3 : Int32) = nI 3 from rfl, pk_mul, show (2 : Int32) = nI 2 from rfl, nI_add, zlt_b, zck_t _ (zbd_nI (by omega) (by decide)), nI_clamp (n := 3 * d + 2) (by omega)]
    rcases h10 with ⟨rfl, h10⟩ | ⟨rfl, h10⟩
    · rw [if_pos rfl]
      rcases h9 with ⟨rfl, h9⟩ | ⟨rfl, h9⟩
      · rw [if_pos rfl]; exact t215 _ e2 (fun q => by have := q.1; omega)
      · rw [if_neg (nI_m1 (by omega))]
        by_cases z : v6 = -1
        · rw [if_pos z]; exact t215 _ e2 (fun q => q.2.2.1 z)
        · rw [if_neg z, m_nodeAt hv hN hw h9, zb1_b]
          by_cases z2 : nod D w (bsd s i) = v6
          · rw [if_pos z2]
            unfold f_X12_measure_216
            have yes : PinQ D A k v6 (bsd s i) := ⟨h9, h10, z, by rw [← hwk]; exact z2⟩
            rw [zck_t _ (zbd_nI (by omega) (by decide)), nI_clamp (n := 3 * d + 2) (by omega), zlt_b, zlt_b, nI_1, e2, lN_1, iv_t yes]
          · rw [if_neg z2]; exact t215 _ e2 (fun q => z2 (by rw [hwk]; exact q.2.2.2))
    · rw [if_neg n10]; exact t215 _ e2 (fun q => q.2.1 h10)
  have t145 : ∀ (v9 v10 : Int32), ((v10 = 0 ∧ ¬ A (bsd s i)) ∨ (v10 = 1 ∧ A (bsd s i))) → ((v9 = -1 ∧ bsd s i = 4096) ∨ (v9 = nI (bsd s i) ∧ bsd s i < 4096)) → f_X12_measure_145 k35 k105 (nI d) (nI pl) (nI (4096 * l)) (nI w) v6 (nI s) (nI i) v9 v10 J L = k105 (nI d) (nI pl) (nI (4096 * l)) (nI w) v6 (nI s) (nI (i + 1)) J (zul (zul L 129 (3 * d + 1) (lN (a + ivp (¬ A (bsd s i))))) 129 (3 * d + 2) (lN (c + ivp (PinQ D A k v6 (bsd s i))))) := by
    intro v9 v10 h10 h9
    unfold f_X12_measure_145
    rw [show (3 : Int32) = nI 3 from rfl, pk_mul, nI_1, zlt_b, zck_t _ (zbd_nI (by omega) (by decide)), nI_clamp (n := 3 * d + 1) (by omega)]
    rcases id h10 with ⟨e, h⟩ | ⟨e, h⟩
    · rw [if_pos e]; exact t168 v9 v10 1 1 rfl h10 h9 (iv_t h).symm
    · rw [if_neg (by rw [e]; exact n10)]; exact t168 v9 v10 0 0 rfl h10 h9 (iv_f (fun q => q h)).symm
  unfold f_X12_measure_105 f_X12_measure_144
  rw [if_neg (show ¬ (4 : Int32) ≤ nI i from nI_ge (b := 4) hi (by decide)), e_beside hs hi, zb1_b]
  by_cases z : bsd s i = 4096
  · rw [if_pos z, if_pos rfl]
    exact t145 _ 0 (Or.inl ⟨rfl, fun q => by rw [hA, z] at q; exact absurd q.1.1 (by omega)⟩) (Or.inl ⟨rfl, z⟩)
  · obtain ⟨b1, b2⟩ := bsd_adj hs hi z
    rw [if_neg z, if_neg (nI_m1 (by omega)), nI_add, zlt_b, zck_t _ (zbd_nI (by omega) (by decide)), nI_clamp (n := 4096 * l + bsd s i) (by omega), (hN.2.1 _ hl).2 _ b1]
    by_cases y : PlSq D l pl (bsd s i)
    · rw [if_pos (by rw [shi_t y.1, y.2])]
      exact t145 _ 1 (Or.inr ⟨rfl, by rw [hA]; exact y⟩) (Or.inr ⟨rfl, b1⟩)
    · rw [if_neg (fun q => y (by
        by_cases u : SqS D l (bsd s i)
        · rw [shi_t u] at q
          exact ⟨u, (nI_eq (by have := shf_lt u; omega) (by omega)).mp q⟩
        · rw [shi_f u] at q; exact absurd q.symm (nI_m1 (by omega))))]
      exact t145 _ 0 (Or.inl ⟨rfl, by rw [hA]; exact y⟩) (Or.inr ⟨rfl, b1⟩)
theorem me_105 {k35 : Int32 → Int32 → Int32 → Int32 → Int32 → Int32 → zI → zL → Option (zI × zL)} {J : zI} {L0 : zL} {s a c : Nat} (hv : DV D) (hN : RNo D J) (hA : A = PlSq D l pl) (hl : l < D 0 0) (hpl : pl < 4096) (hw : w < D 0 1) (hwk : w = D 10 (4 * k)) (hd : d < 300) (hs : s < 4096) : ∀ r i L f, i + r = 4 → r < f → L 129 (3 * d + 1) = lN (a + smm (fun w => ivp (¬ A (bsd s w))) i) → L 129 (3 * d + 2) = lN (c + smm (fun w => ivp (PinQ D A k v6 (bsd s w))) i) → FL3 d L0 L → L 129 (3 * d) = L0 129 (3 * d) → ∃ L', zlp9 (f_X12_measure_105 k35) f (nI d) (nI pl) (nI (4096 * l)) (nI w) v6 (nI s) (nI i) J L = k35 (nI d) (nI pl) (nI (4096 * l)) (nI w) v6 (nI (s + 1)) J L' ∧ L' 129 (3 * d + 1) = lN (a + smm (fun w => ivp (¬ A (bsd s w))) 4) ∧ L' 129 (3 * d + 2) = lN (c + smm (fun w => ivp (PinQ D A k v6 (bsd s w))) 4) ∧ FL3 d L0 L' ∧ L' 129 (3 * d) = L0 129 (3 * d)
  | _, _, _, 0, _, h, _, _, _, _ => absurd h (by omega)
  | 0, i, L, f + 1, hi, _, h1, h2, h3, h4 => by
    have : i = 4 := by omega
    subst this
    refine ⟨L, ?_, h1, h2, h3, h4⟩
    show f_X12_measure_105 k35 _ (nI d) (nI pl) _ (nI w) v6 (nI s) (nI 4) J L = _
    unfold f_X12_measure_105 f_X12_measure_224
    rw [if_pos (by decide), zlt_b, nI_1]
  | r + 1, i, L, f + 1, hi, hf, h1, h2, h3, h4 => by
    have ih := fun L => me_105 (k35 := k35) (L0 := L0) (a := a) (c := c) hv hN hA hl hpl hw hwk hd hs r (i + 1) L f (by omega) (by omega)
    have e1 : zlp9 (f_X12_measure_105 k35) (f + 1) (nI d) (nI pl) (nI (4096 * l)) (nI w) v6 (nI s) (nI i) J L = f_X12_measure_105 k35 (zlp9 (f_X12_measure_105 k35) f) (nI d) (nI pl) (nI (4096 * l)) (nI w) v6 (nI s) (nI i) J L := rfl
    rw [e1, me_way hv hN hA hl hpl hw hwk hd hs (by omega) h1 h2]
    refine ih _ ?_ ?_ ⟨fun p hp => by rw [zul_pf _ _ hp, zul_pf _ _ hp]; exact h3.1 p hp, fun j hj => by rw [zul_k _ _ (by omega), zul_k _ _ (by omega)]; exact h3.2 j hj⟩ (by rw [zul_k _ _ (by omega), zul_k _ _ (by omega)]; exact h4)
    · rw [zul_k _ _ (by omega), zul_eq, Nat.add_assoc]; rfl
    · rw [zul_eq, Nat.add_assoc]; rfl
theorem wy4_sm {p : Nat → Prop} {q : Prop} (hq : q) : wy4 (fun w => q ∧ p w) = smm (fun w => ivp (p w)) 4 := by
  have e : ∀ w, ivp (q ∧ p w) = ivp (p w) := fun w => iv_cg ⟨fun h => h.2, fun h => ⟨hq, h⟩⟩
  show ivp (q ∧ p 0) + ivp (q ∧ p 1) + ivp (q ∧ p 2) + ivp (q ∧ p 3) = 0 + ivp (p 0) + ivp (p 1) + ivp (p 2) + ivp (p 3)
  rw [e, e, e, e]; omega
theorem wy4_no {p : Nat → Prop} {q : Prop} (hq : ¬ q) : wy4 (fun w => q ∧ p w) = 0 := by
  have e : ∀ w, ivp (q ∧ p w) = 0 := fun w => iv_f (fun h => hq h.1)
  show ivp (q ∧ p 0) + ivp (q ∧ p 1) + ivp (q ∧ p 2) + ivp (q ∧ p 3) = 0
  rw [e, e, e, e]
theorem me_35 {J0 : zI} {L0 : zL} (hv : DV D) (hN : RNo D J0) (hA : A = PlSq D l pl) (hl : l < D 0 0) (hpl : pl < 4096) (hw : w < D 0 1) (hwk : w = D 10 (4 * k)) (hd : d < 300) : ∀ r s J L f, s + r = 4096 → r < f → (∀ p, p ≠ 126 → J p = J0 p) → (∀ e, e ≠ d → J 126 e = J0 126 e) → FL3 d L0 L → L 129 (3 * d) = lN (smm (fun s => ivp (A s)) s) → L 129 (3 * d + 1) = lN (smm (fun s => wy4 (fun w => A s ∧ ¬ A (bsd s w))) s) → L 129 (3 * d + 2) = lN (smm (fun s => wy4 (fun w => A s ∧ PinQ D A k v6 (bsd s w))) s) → (((∀ b, b < s → ¬ A b) ∧ smm (fun s => ivp (A s)) s = 0) ∨ (1 ≤ smm (fun s => ivp (A s)) s ∧ ∃ q, J 126 d = nI q ∧ A q ∧ ∀ b, A b → q ≤ b)) →
    ∃ J' L', zlp8 f_X12_measure_35 f (nI d) (nI pl) (nI (4096 * l)) (nI w) v6 (nI s) J L = some (J', L') ∧ (∀ p, p ≠ 126 → J' p = J0 p) ∧ (∀ e, e ≠ d → J' 126 e = J0 126 e) ∧ FL3 d L0 L' ∧ L' 129 (3 * d) = lN (sz0 A) ∧ L' 129 (3 * d + 1) = lN (sz1 A) ∧ L' 129 (3 * d + 2) = lN (sz2 A (PinQ D A k v6)) ∧ ((∀ b, b < 4096 → ¬ A b) ∨ ∃ q, J' 126 d = nI q ∧ A q ∧ ∀ b, A b → q ≤ b)
  | _, _, _, _, 0, _, h, _, _, _, _, _, _, _ => absurd h (by omega)
  | 0, s, J, L, f + 1, hs, _, h1, h2, h3, h4, h5, h6, h7 => by
    have : s = 4096 := by omega
    subst this
    refine ⟨J, L, ?_, h1, h2, h3, h4, h5, h6, h7.imp (fun h => h.1) (fun h => h.2)⟩
    show f_X12_measure_35 _ (nI d) (nI pl) _ (nI w) v6 (nI 4096) J L = _
    unfold f_X12_measure_35
    rw [if_pos (by decide)]
  | r + 1, s, J, L, f + 1, hs, hf, h1, h2, h3, h4, h5, h6, h7 => by
    have ih := fun J L => me_35 (J0 := J0) (L0 := L0) hv hN hA hl hpl hw hwk hd r (s + 1) J L f (by omega) (by omega)
    have e1 : zlp8 f_X12_measure_35 (f + 1) (nI d) (nI pl) (nI (4096 * l)) (nI w) v6 (nI s) J L = f_X12_measure_35 (zlp8 f_X12_measure_35 f) (nI d) (nI pl) (nI (4096 * l)) (nI w) v6 (nI s) J L := rfl
    rw [e1]
    generalize zlp8 f_X12_measure_35 f = k1 at ih ⊢
    have v1 := hv.1.1
    have a0 : smm (fun s => ivp (A s)) (s + 1) = smm (fun s => ivp (A s)) s + ivp (A s) := rfl
    have a1 : smm (fun s => wy4 (fun w => A s ∧ ¬ A (bsd s w))) (s + 1) = smm (fun s => wy4 (fun w => A s ∧ ¬ A (bsd s w))) s + wy4 (fun w => A s ∧ ¬ A (bsd s w)) := rfl
    have a2 : smm (fun s => wy4 (fun w => A s ∧ PinQ D A k v6 (bsd s w))) (s + 1) = smm (fun s => wy4 (fun w => A s ∧ PinQ D A k v6 (bsd s w))) s + wy4 (fun w => A s ∧ PinQ D A k v6 (bsd s w)) := rfl
    have s0le : smm (fun s => ivp (A s)) s ≤ 1 * s := sm_le (fun i => iv_le _) s
    unfold f_X12_measure_35 f_X12_measure_224
    rw [if_neg (show ¬ (4096 : Int32) ≤ nI s from nI_ge (b := 4096) (by omega) (by decide)), nI_add, zlt_b, zck_t _ (zbd_nI (by omega) (by decide)), nI_clamp (n := 4096 * l + s) (by omega), h1 119 (by decide), (hN.2.1 _ hl).2 s (by omega)]
    by_cases z : PlSq D l pl s
    · have zA : A s := by rw [hA]; exact z
      have main : ∀ w2 : Int32, (∃ q, w2 = nI q ∧ A q ∧ ∀ b, A b → q ≤ b) → ∃ J' L', f_X12_measure_89 k1 (nI d) (nI pl) (nI (4096 * l)) (nI w) v6 (nI s) (nI d) w2 J L = some (J', L') ∧ (∀ p, p ≠ 126 → J' p = J0 p) ∧ (∀ e, e ≠ d → J' 126 e = J0 126 e) ∧ FL3 d L0 L' ∧ L' 129 (3 * d) = lN (sz0 A) ∧ L' 129 (3 * d + 1) = lN (sz1 A) ∧ L' 129 (3 * d + 2) = lN (sz2 A (PinQ D A k v6)) ∧ ((∀ b, b < 4096 → ¬ A b) ∨ ∃ q, J' 126 d = nI q ∧ A q ∧ ∀ b, A b → q ≤ b) := by
        intro w2 hw2
        have g1 : ∀ p, p ≠ 126 → zu J 126 d w2 p = J0 p := fun p hp => by rw [zu_pf _ _ hp]; exact h1 p hp
        have hNJ : RNo D (zu J 126 d w2) := hN.cg (fun p _ _ => g1 p (by omega)) (fun _ _ => by rw [g1 97 (by decide)])
        obtain ⟨L2, b1, b2, b3, b4, b5⟩ := me_105 (k35 := k1) (J := zu J 126 d w2) (L0 := zul L 129 (3 * d) (lN (smm (fun s => ivp (A s)) (s + 1)))) (a := smm (fun s => wy4 (fun w => A s ∧ ¬ A (bsd s w))) s) (c := smm (fun s => wy4 (fun w => A s ∧ PinQ D A k v6 (bsd s w))) s) (v6 := v6) hv hNJ hA hl hpl hw hwk hd (show s < 4096 by omega) 4 0 (zul L 129 (3 * d) (lN (smm (fun s => ivp (A s)) (s + 1)))) zF (by omega) (zF_lt (by omega)) (by rw [zul_k _ _ (by omega)]; exact h5) (by rw [zul_k _ _ (by omega)]; exact h6) ⟨fun _ _ => rfl, fun _ _ => rfl⟩ rfl
        have b1 : zlp9 (f_X12_measure_105 k1) zF (nI d) (nI pl) (nI (4096 * l)) (nI w) v6 (nI s) 0 (zu J 126 d w2) (zul L 129 (3 * d) (lN (smm (fun s => ivp (A s)) (s + 1)))) = _ := b1
        rw [zul_eq] at b5
        unfold f_X12_measure_89
        rw [zck_t _ (zbd_nI (by omega) (by decide)), nI_clamp (n := d) (by omega), zlt_b, show (3 : Int32) = nI 3 from rfl, pk_mul, zlt_b, zck_t _ (zbd_nI (by omega) (by decide)), nI_clamp (n := 3 * d) (by omega), h4, lN_1, zlt_b, zck_t _ (zbd_nI (by omega) (by decide)), zlt_b]
        rw [a0, iv_t zA] at b1
        rw [b1]
        refine ih _ L2 g1 (fun e he => by rw [zu_k _ _ he]; exact h2 e he) ⟨fun p hp => by rw [b4.1 p hp, zul_pf _ _ hp]; exact h3.1 p hp, fun i hi => by rw [b4.2 i hi, zul_k _ _ (by omega)]; exact h3.2 i hi⟩ b5 (by rw [b2, a1, wy4_sm zA]) (by rw [b3, a2, wy4_sm zA]) (Or.inr ⟨by rw [a0, iv_t zA]; omega, by rw [zu_eq]; exact hw2⟩)
      rw [if_pos (by rw [shi_t z.1, z.2]), show (3 : Int32) = nI 3 from rfl, pk_mul, zlt_b, zck_t _ (zbd_nI (by omega) (by decide)), nI_clamp (n := 3 * d) (by omega), h4]
      rcases h7 with ⟨n1, n2⟩ | ⟨n1, n2⟩
      · rw [n2, if_pos (show lN 0 = 0 from rfl)]
        exact main (nI s) ⟨s, rfl, zA, fun b hb => Nat.le_of_not_lt fun u => n1 b u hb⟩
      · rw [if_neg (fun q => by
          have q : lN (smm (fun s => ivp (A s)) s) = lN 0 := q
          have := (lN_eq (by omega) (by omega)).mp q; omega), zck_t _ (zbd_nI (by omega) (by decide)), nI_clamp (n := d) (by omega)]
        exact main _ n2
    · have nA : ¬ A s := by rw [hA]; exact z
      rw [if_neg (fun q => z (by
        by_cases u : SqS D l s
        · rw [shi_t u] at q
          exact ⟨u, (nI_eq (by have := shf_lt u; omega) (by omega)).mp q⟩
        · rw [shi_f u] at q; exact absurd q.symm (nI_m1 (by omega)))), zlt_b, nI_1]
      refine ih J L h1 h2 h3 (by rw [a0, iv_f nA]; exact h4) (by rw [a1, wy4_no nA]; exact h5) (by rw [a2, wy4_no nA]; exact h6) ?_
      rcases h7 with ⟨n1, n2⟩ | ⟨n1, n2⟩
      · refine Or.inl ⟨fun b hb => ?_, by rw [a0, iv_f nA]; exact n2⟩
        by_cases u : b = s
        · subst u; exact nA
        · exact n1 b (by omega)
      · exact Or.inr ⟨by rw [a0, iv_f nA]; exact n1, n2⟩
theorem m_measure {J : zI} {L : zL} (hv : DV D) (hN : RNo D J) (hk : k < D 0 3) (hd : d < 300) (hpl : pl < shk D (D 8 k)) (h0 : ∀ j, j < 3 → L 129 (3 * d + j) = 0) : ∃ J' L', f_X12_measure (nI d) (nI k) (nI pl) J L = some (J', L') ∧ (∀ p, p ≠ 126 → J' p = J p) ∧ (∀ e, e ≠ d → J' 126 e = J 126 e) ∧ FL3 d L L' ∧ L' 129 (3 * d) = lN (sz0 (PlSq D (D 8 k) pl)) ∧ L' 129 (3 * d + 1) = lN (sz1 (PlSq D (D 8 k) pl)) ∧ L' 129 (3 * d + 2) = lN (sz2 (PlSq D (D 8 k) pl) (PinQ D (PlSq D (D 8 k) pl) k (J 128 (4 * d)))) ∧ ∃ q, J' 126 d = nI q ∧ PlSq D (D 8 k) pl q ∧ ∀ b, PlSq D (D 8 k) pl b → q ≤ b := by
  obtain ⟨z1, z2, z3, z4⟩ := hv.2.2.2.2.1 k hk
  obtain ⟨c1, c2, c3⟩ := hN.1.2.2.2.2.2.1 k hk
  have v4 := hv.1.2.2.2.1
  have sk := shk_le D (D 8 k)
  have w0 : D 10 (4 * k) < D 0 1 := z4 0 (by omega)
  have c0 : J 116 (4 * k) = nI (D 10 (4 * k)) := c3 0 (by omega)
  obtain ⟨J', L', a1, a2, a3, a4, a5, a6, a7, a8⟩ := me_35 (J0 := J) (L0 := L) (A := PlSq D (D 8 k) pl) (d := d) (k := k) (pl := pl) (l := D 8 k) (w := D 10 (4 * k)) (v6 := J 128 (4 * d)) hv hN rfl z1 (by omega) w0 rfl hd 4096 0 J L zF (by omega) (zF_lt (by omega)) (fun _ _ => rfl) (fun _ _ => rfl) ⟨fun _ _ => rfl, fun _ _ => rfl⟩ (h0 0 (by omega)) (h0 1 (by omega)) (h0 2 (by omega)) (Or.inl ⟨fun b h => absurd h (by omega), rfl⟩)
  refine ⟨J', L', ?_, a2, a3, a4, a5, a6, a7, ?_⟩
  · unfold f_X12_measure
    have a1 : zlp8 f_X12_measure_35 zF (nI d) (nI pl) (nI (4096 * D 8 k)) (nI (D 10 (4 * k))) (J 128 (4 * d)) 0 J L = _ := a1
    rw [zck_t _ (zbd_nI (by omega) (by decide)), nI_clamp (n := k) (by omega), c1, show (4096 : Int32) = nI 4096 from rfl, pk_mul, zlt_b, show (4 : Int32) = nI 4 from rfl, pk_mul, zlt_b, zck_t _ (zbd_nI (by omega) (by decide)), nI_clamp (n := 4 * k) (by omega), c0, zlt_b, pk_mul, zlt_b, zck_t _ (zbd_nI (by omega) (by decide)), nI_clamp (n := 4 * d) (by omega), zlt_b]
    exact a1
  · rcases a8 with h | h
    · obtain ⟨q, q1, q2⟩ := (sh_cls D (D 8 k)).2.2.1 pl hpl
      exact absurd ⟨q1, q2⟩ (h q q1.1)
    · exact h
end Me
