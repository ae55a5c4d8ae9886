/-! the class adds a device -/
def DevX (D : Nat → Nat → Nat) (A : Nat → Prop) (I : zI) (d k pl : Nat) : Prop := I 77 d = nI k ∧ I 78 d = nI pl ∧ ∃ pn, PinS D A k pn ∧ ((I 79 d = 1 ∧ BadS D A k pn) ∨ (I 79 d = 0 ∧ ¬ BadS D A k pn)) ∧ (∃ q, I 80 d = nI q ∧ A q ∧ ∀ b, A b → q ≤ b) ∧ I 81 (3 * d) = nI (sz0 A) ∧ I 81 (3 * d + 1) = nI (sz1 A) ∧ I 81 (3 * d + 2) = nI (sz2 A (PinQ D A k (pn 0))) ∧ ∀ i, i < D 9 k → I 82 (4 * d + i) = gN D (pn i)
/-- devices before t are as they were -/
def OA (I I' : zI) (t : Nat) : Prop := ∀ d, d < t → I' 77 d = I 77 d ∧ I' 78 d = I 78 d ∧ I' 79 d = I 79 d ∧ I' 80 d = I 80 d ∧ (∀ j, j < 3 → I' 81 (3 * d + j) = I 81 (3 * d + j)) ∧ ∀ j, j < 4 → I' 82 (4 * d + j) = I 82 (4 * d + j)
theorem DevX.oa {D : Nat → Nat → Nat} {A : Nat → Prop} {I I' : zI} {t d k pl : Nat} (hk : D 9 k ≤ 4) (hd : d < t) (o : OA I I' t) (h : DevX D A I d k pl) : DevX D A I' d k pl := by
  obtain ⟨o1, o2, o3, o4, o5, o6⟩ := o d hd
  obtain ⟨h1, h2, pn, h3, h4, h5, h6, h7, h8, h9⟩ := h
  refine ⟨by rw [o1]; exact h1, by rw [o2]; exact h2, pn, h3, by rw [o3]; exact h4, by rw [o4]; exact h5, ?_, by rw [o5 1 (by omega)]; exact h7, by rw [o5 2 (by omega)]; exact h8, fun i hi => by rw [o6 i (by omega)]; exact h9 i hi⟩
  have := o5 0 (by omega)
  rw [Nat.add_zero] at this; rw [this]; exact h6
theorem zFresh_oa {I I' : zI} {t d c kd : Nat} (hc : c ≤ 4) (hd : d < t) (o : OA I I' t) : zFresh I' c kd d ↔ zFresh I c kd d := by
  have s : ∀ e, e < t → (zSame I' c d e ↔ zSame I c d e) := fun e he => by
    obtain ⟨-, -, -, -, -, o6⟩ := o d hd
    obtain ⟨-, -, -, -, -, p6⟩ := o e he
    exact ⟨fun h k hk => by rw [← o6 k (by omega), ← p6 k (by omega)]; exact h k hk, fun h k hk => by rw [o6 k (by omega), p6 k (by omega)]; exact h k hk⟩
  obtain ⟨o1, -, o3, -⟩ := o d hd
  unfold zFresh
  rw [o1, o3]
  refine and_congr Iff.rfl (and_congr Iff.rfl ⟨fun h e he a b => ?_, fun h e he a b => ?_⟩)
  · obtain ⟨p1, -, p3, -⟩ := o e (by omega)
    rw [← s e (by omega)]; exact h e he (by rw [p1]; exact a) (by rw [p3]; exact b)
  · obtain ⟨p1, -, p3, -⟩ := o e (by omega)
    rw [p1] at a; rw [p3] at b
    rw [s e (by omega)]; exact h e he a b
theorem zCount_cg {p q : Nat → Prop} : ∀ n, (∀ i, i < n → (p i ↔ q i)) → zCount p n = zCount q n
  | 0, _ => rfl
  | n + 1, h => by
    show zCount p n + ivp (p n) = zCount q n + ivp (q n)
    rw [zCount_cg n (fun i hi => h i (by omega)), iv_cg (h n (by omega))]
theorem hs_3 {I : zI} {a b c : Nat} (ha : a < 300) (hb : b < 300) (hc : c ≤ 4) : ∀ r i f, i + r = c → r < f → (∀ j, j < i → I 82 (4 * a + j) = I 82 (4 * b + j)) → (zSame I c a b ∧ zlp5 f_X0_haveSameNets_3 f (nI a) (nI b) (nI c) (nI i) I = some 1) ∨ (¬ zSame I c a b ∧ zlp5 f_X0_haveSameNets_3 f (nI a) (nI b) (nI c) (nI i) I = some 0)
  | _, _, 0, _, h, _ => absurd h (by omega)
  | 0, i, f + 1, hi, _, h1 => by
    have : i = c := by omega
    subst this
    refine Or.inl ⟨h1, ?_⟩
    show f_X0_haveSameNets_3 _ (nI a) (nI b) (nI i) (nI i) I = _
    unfold f_X0_haveSameNets_3
    rw [if_pos (Int32.le_refl _)]
  | r + 1, i, f + 1, hi, hf, h1 => by
    have ih := hs_3 (I := I) ha hb hc r (i + 1) f (by omega) (by omega)
    have e1 : zlp5 f_X0_haveSameNets_3 (f + 1) (nI a) (nI b) (nI c) (nI i) I = f_X0_haveSameNets_3 (zlp5 f_X0_haveSameNets_3 f) (nI a) (nI b) (nI c) (nI i) I := rfl
    rw [e1]
    generalize zlp5 f_X0_haveSameNets_3 f = k1 at ih ⊢
    unfold f_X0_haveSameNets_3
    rw [if_neg (nI_ge (by omega) (by omega)), show (4 : Int32) = nI 4 from rfl, pk_mul, pk_mul, nI_add, nI_add, zlt_b, zck_t _ (zbd_nI (by omega) (by decide)), zlt_b, zck_t _ (zbd_nI (by omega) (by decide)), nI_clamp (by omega), nI_clamp (by omega), Nat.mul_comm a 4, Nat.mul_comm b 4]
    by_cases z : I 82 (4 * a + i) = I 82 (4 * b + i)
    · rw [if_pos z, zlt_b, nI_1]
      exact ih (fun j hj => by
        by_cases y : j = i
        · subst y; exact z
        · exact h1 j (by omega))
    · rw [if_neg z]; exact Or.inr ⟨fun h => z (h i (by omega)), rfl⟩
theorem hp_2 {I : zI} {d c : Nat} (hd : d < 300) (hc : c ≤ 4) : ∀ r e f, e + r = d → r < f → (∀ e', e' < e → I 77 e' = I 77 d → I 79 e' = 0 → ¬ zSame I c e' d) → ((∀ e', e' < d → I 77 e' = I 77 d → I 79 e' = 0 → ¬ zSame I c e' d) ∧ zlp4 f_X0_hasParallel_2 f (nI d) (nI c) (nI e) I = some 0) ∨ ((∃ e', e' < d ∧ I 77 e' = I 77 d ∧ I 79 e' = 0 ∧ zSame I c e' d) ∧ zlp4 f_X0_hasParallel_2 f (nI d) (nI c) (nI e) I = some 1)
  | _, _, 0, _, h, _ => absurd h (by omega)
  | 0, e, f + 1, he, _, h1 => by
    have : e = d := by omega
    subst this
    refine Or.inl ⟨h1, ?_⟩
    show f_X0_hasParallel_2 _ (nI e) (nI c) (nI e) I = _
    unfold f_X0_hasParallel_2
    rw [if_pos (Int32.le_refl _)]
  | r + 1, e, f + 1, he, hf, h1 => by
    have ih := hp_2 (I := I) (c := c) hd hc r (e + 1) f (by omega) (by omega)
    have e1 : zlp4 f_X0_hasParallel_2 (f + 1) (nI d) (nI c) (nI e) I = f_X0_hasParallel_2 (zlp4 f_X0_hasParallel_2 f) (nI d) (nI c) (nI e) I := rfl
    rw [e1]
    generalize zlp4 f_X0_hasParallel_2 f = k1 at ih ⊢
    have nx : ¬ (I 77 e = I 77 d ∧ I 79 e = 0 ∧ zSame I c e d) → _ := fun no => ih (fun e' he' a b s => by
        by_cases y : e' = e
        · subst y; exact no ⟨a, b, s⟩
        · exact h1 e' (by omega) a b s)
    unfold f_X0_hasParallel_2 f_X0_hasParallel_43
    rw [if_neg (nI_ge (by omega) (by omega)), zck_t _ (zbd_nI (by omega) (by decide)), zck_t _ (zbd_nI (by omega) (by decide)), nI_clamp (by omega), nI_clamp (by omega), zlt_b, nI_1]
    by_cases z : I 77 e = I 77 d
    · rw [if_pos z, zck_t _ (zbd_nI (by omega) (by decide))]
      by_cases z2 : I 79 e = 0
      · rw [if_pos z2]
        rcases hs_3 (I := I) (a := e) (b := d) (c := c) (by omega) hd hc c 0 zF (by omega) (zF_lt (by omega)) (fun j hj => absurd hj (by omega)) with ⟨g1, g2⟩ | ⟨g1, g2⟩
        · have g2 : f_X0_haveSameNets (nI e) (nI d) (nI c) I = some 1 := g2
          rw [g2, zb1_b, if_neg n10]
          exact Or.inr ⟨⟨e, by omega, z, z2, g1⟩, rfl⟩
        · have g2 : f_X0_haveSameNets (nI e) (nI d) (nI c) I = some 0 := g2
          rw [g2, zb1_b, if_pos rfl]
          exact nx (fun w => g1 w.2.2)
      · rw [if_neg z2]; exact nx (fun w => z2 w.2.1)
    · rw [if_neg z]; exact nx (fun w => z w.1)
section Ad
variable {A : Nat → Prop} {lo hi : Nat} {D : Nat → Nat → Nat} {P k t cc : Nat} {L : zL}
/-- after the nets of the pins -/
theorem ad_127 {I0 : zI} (hPl : zpl P) (hv : DV D) (hk : k < D 0 3) (hd : DC P D I0) (hN : NW D I0) (ht : t < 300) (h73 : I0 73 7 = nI t) (hpn : ∀ i, i < D 9 k → I0 75 i = -1 ∨ ∃ x, x < ndn D ∧ I0 75 i = nI x) (h77 : I0 77 t = nI k) (h79 : I0 79 t = 0 ∨ I0 79 t = 1) (h83 : I0 83 k = nI cc) : ∀ r i I f, i + r = D 9 k → r < f → (∀ p, p ≠ 82 → I p = I0 p) → (∀ j, j < i → I 82 (4 * t + j) = gN D (I0 75 j)) → (∀ d j, d < t → j < 4 → I 82 (4 * d + j) = I0 82 (4 * d + j)) → ∃ I', zlp4 (f_X0_add_127 P) f (nI k) (nI i) I L = some (I', L) ∧ I' 73 7 = nI (t + 1) ∧ (∀ p, p ≠ 73 → p ≠ 82 → p ≠ 83 → I' p = I0 p) ∧ (∀ j, j < D 9 k → I' 82 (4 * t + j) = gN D (I0 75 j)) ∧ (∀ d j, d < t → j < 4 → I' 82 (4 * d + j) = I0 82 (4 * d + j)) ∧ (∀ j, j ≠ k → I' 83 j = I0 83 j) ∧ I' 83 k = nI (cc + ivp (zFresh I' (D 9 k) k t))
  | _, _, _, 0, _, h, _, _, _ => absurd h (by omega)
  | 0, i, I, f + 1, hi', _, h1, h2, h3 => by
    have : i = D 9 k := by omega
    subst this
    have v4 := hv.1.2.2.2.1
    obtain ⟨z1, z2, z3, z4⟩ := hv.2.2.2.2.1 k hk
    have q10 : I (P + 1 + 10) = I0 (P + 1 + 10) := h1 _ (by rcases hPl with rfl | rfl <;> omega)
    have c2 := (hd.2.2.2.2.2.1 k hk).2.1
    show ∃ I', f_X0_add_127 P _ (nI k) (nI (D 9 k)) I L = _ ∧ _
    unfold f_X0_add_127 f_X0_add_206
    rw [zck_t _ (zbd_nI (by omega) (by decide)), nI_clamp (n := k) (by omega), q10, c2, if_pos (Int32.le_refl _), h1 73 (by decide), h73, zlt_b, zck_t _ (zbd_nI (by omega) (by decide)), nI_clamp (n := t) (by omega), h1 79 (by decide)]
    have no : ¬ zFresh I (D 9 k) k t → ∃ I', (zlt (nI t + 1) (fun x43 => zlt (zu I 73 7 x43) (fun I44 => some (I44, L)))) = some (I', L) ∧ I' 73 7 = nI (t + 1) ∧ (∀ p, p ≠ 73 → p ≠ 82 → p ≠ 83 → I' p = I0 p) ∧ (∀ j, j < D 9 k → I' 82 (4 * t + j) = gN D (I0 75 j)) ∧ (∀ d j, d < t → j < 4 → I' 82 (4 * d + j) = I0 82 (4 * d + j)) ∧ (∀ j, j ≠ k → I' 83 j = I0 83 j) ∧ I' 83 k = nI (cc + ivp (zFresh I' (D 9 k) k t)) := by
      intro hn
      rw [zlt_b, nI_1, zlt_b]
      have ef : zFresh (zu I 73 7 (nI (t + 1))) = zFresh I := by
        funext a b d; unfold zFresh zSame; rw [zu_pf _ _ (by decide), zu_pf _ _ (by decide), zu_pf _ _ (by decide)]
      refine ⟨_, rfl, zu_eq _ _ _ _, fun p x y z => by rw [zu_pf _ _ x]; exact h1 p y, fun j hj => by rw [zu_p _ _ (by decide)]; exact h2 j hj, fun d j hd hj => by rw [zu_p _ _ (by decide)]; exact h3 d j hd hj, fun j hj => by rw [zu_p _ _ (by decide), h1 83 (by decide)], ?_⟩
      rw [zu_p _ _ (by decide), h1 83 (by decide), h83, ef, iv_f hn]; rfl
    rcases h79 with h79 | h79
    · rw [if_pos h79, zck_t _ (zbd_nI (by omega) (by decide))]
      rcases hp_2 (I := I) (d := t) (c := D 9 k) ht z3 t 0 zF (by omega) (zF_lt (by omega)) (fun e he => absurd he (by omega)) with ⟨g1, g2⟩ | ⟨g1, g2⟩
      · have g2 : f_X0_hasParallel (nI t) (nI (D 9 k)) I = some 0 := g2
        rw [g2, zb1_b, if_pos rfl, zck_t _ (zbd_nI (by omega) (by decide)), h1 83 (by decide), h83, nI_1, zlt_b, zck_t _ (zbd_nI (by omega) (by decide)), zlt_b, zu_p _ _ (by decide), h1 73 (by decide), h73, zlt_b, nI_1, zlt_b]
        have ef : zFresh (zu (zu I 83 k (nI (cc + 1))) 73 7 (nI (t + 1))) = zFresh I := by
          funext a b d; unfold zFresh zSame
          rw [zu_pf _ _ (show 77 ≠ 73 by decide), zu_pf _ _ (show 77 ≠ 83 by decide), zu_pf _ _ (show 79 ≠ 73 by decide), zu_pf _ _ (show 79 ≠ 83 by decide), zu_pf _ _ (show 82 ≠ 73 by decide), zu_pf _ _ (show 82 ≠ 83 by decide)]
        refine ⟨_, rfl, zu_eq _ _ _ _, fun p x y z => by rw [zu_pf _ _ x, zu_pf _ _ z]; exact h1 p y, fun j hj => by rw [zu_p _ _ (by decide), zu_p _ _ (by decide)]; exact h2 j hj, fun d j hd hj => by rw [zu_p _ _ (by decide), zu_p _ _ (by decide)]; exact h3 d j hd hj, fun j hj => by rw [zu_p _ _ (by decide), zu_k _ _ hj, h1 83 (by decide)], ?_⟩
        rw [zu_p _ _ (by decide), zu_eq, ef, iv_t]
        refine ⟨by rw [h1 77 (by decide)]; exact h77, by rw [h1 79 (by decide)]; exact h79, fun e he a b s => g1 e he (by rw [a, h1 77 (by decide), h77]) b (fun x hx => (s x hx).symm)⟩
      · have g2 : f_X0_hasParallel (nI t) (nI (D 9 k)) I = some 1 := g2
        rw [g2, zb1_b, if_neg n10]
        obtain ⟨e, g1, g3, g4, g5⟩ := g1
        refine no (fun w => w.2.2 e g1 (by rw [g3, h1 77 (by decide)]; exact h77) g4 (fun x hx => (g5 x hx).symm))
    · rw [if_neg (by rw [h79]; exact n10)]
      refine no (fun w => ?_)
      have := w.2.1
      rw [h1 79 (by decide), h79] at this
      exact n10 this
  | r + 1, i, I, f + 1, hi', hf, h1, h2, h3 => by
    have ih := fun I => ad_127 hPl hv hk hd hN ht h73 hpn h77 h79 h83 r (i + 1) I f (by omega) (by omega)
    have e1 : zlp4 (f_X0_add_127 P) (f + 1) (nI k) (nI i) I L = f_X0_add_127 P (zlp4 (f_X0_add_127 P) f) (nI k) (nI i) I L := rfl
    rw [e1]
    generalize zlp4 (f_X0_add_127 P) f = k1 at ih ⊢
    have v4 := hv.1.2.2.2.1
    obtain ⟨z1, z2, z3, z4⟩ := hv.2.2.2.2.1 k hk
    have q10 : I (P + 1 + 10) = I0 (P + 1 + 10) := h1 _ (by rcases hPl with rfl | rfl <;> omega)
    have c2 := (hd.2.2.2.2.2.1 k hk).2.1
    have hNI : NW D I := hN.cg hv.1.2.1 (fun p _ _ => h1 p (by omega))
    have en : f_X6_netOfPin (nI i) I = some (gN D (I0 75 i)) := by
      unfold f_X6_netOfPin
      rw [zck_t _ (zbd_nI (by omega) (by decide)), nI_clamp (by omega), h1 75 (by decide), e_netOf hv hNI (hpn i (by omega)), zb1_b]
    have ek : f_X0_add_127 P k1 (nI k) (nI i) I L = k1 (nI k) (nI (i + 1)) (zu I 82 (4 * t + i) (gN D (I0 75 i))) L := by
      unfold f_X0_add_127
      rw [zck_t _ (zbd_nI (by omega) (by decide)), nI_clamp (n := k) (by omega), q10, c2, if_neg (nI_ge (by omega) (by omega)), h1 73 (by decide), h73, show (4 : Int32) = nI 4 from rfl, pk_mul, zlt_b, en, zb1_b, nI_add, zck_t _ (zbd_nI (by omega) (by decide)), nI_clamp (n := t * 4 + i) (by omega), zlt_b, zlt_b, nI_1, Nat.mul_comm t 4]
    rw [ek]
    refine ih _ (fun p hp => by rw [zu_pf _ _ hp]; exact h1 p hp) (fun j hj => ?_) (fun d j hd hj => by rw [zu_k _ _ (by omega)]; exact h3 d j hd hj)
    by_cases y : j = i
    · subst y; rw [zu_eq]
    · rw [zu_k _ _ (by omega)]; exact h2 j (by omega)
theorem c_add {I : zI} {pl s0 : Nat} (hPl : zpl P) (hv : DV D) (hk : k < D 0 3) (hP : PA A lo hi I L) (hd : DC P D I) (hH : HS D (Hc L)) (hN : NW D I) (ht : t < 300) (h73 : I 73 7 = nI t) (h59 : I 59 0 = nI s0) (hs : A s0) (hm : ∀ b, A b → s0 ≤ b) (h57 : I 57 2 = nI (sz0 A)) (h83 : I 83 k = nI cc) :
    ∃ I' L', f_X0_add P (nI k) (nI pl) I L = some (I', L') ∧ I' 73 7 = nI (t + 1) ∧ (∀ p, p ≠ 73 → p ≠ 74 → p ≠ 75 → ¬ (77 ≤ p ∧ p ≤ 83) → I' p = I p) ∧ (∀ p, p ≠ 76 → L' p = L p) ∧ OA I I' t ∧ DevX D A I' t k pl ∧ (∀ j, j ≠ k → I' 83 j = I 83 j) ∧ I' 83 k = nI (cc + ivp (zFresh I' (D 9 k) k t)) := by
  obtain ⟨b, I7, L8, a1, a2, a3, a4, a5, a6⟩ := c_findPins (I := zu (zu I 77 t (nI k)) 78 t (nI pl)) hPl hv hk (hP.cg (by rw [zu_pf _ _ (by decide), zu_pf _ _ (by decide)]) rfl) (hd.cg hPl (fun p _ _ => by rw [zu_pf _ _ (by omega), zu_pf _ _ (by omega)]) (fun p _ _ => by rw [zu_pf _ _ (by omega), zu_pf _ _ (by omega)])) hH (hN.cg hv.1.2.1 (fun p _ _ => by rw [zu_pf _ _ (by omega), zu_pf _ _ (by omega)]))
  have f7 : ∀ p, p ≠ 74 → p ≠ 75 → p ≠ 77 → p ≠ 78 → I7 p = I p := fun p x y z u => by rw [a2 p x y, zu_pf _ _ u, zu_pf _ _ z]
  obtain ⟨z1, z2, z3, z4⟩ := hv.2.2.2.2.1 k hk
  have hH8 : HS D (Hc L8) := HS_L hv hH (fun l _ => a3 _ (by omega))
  have P7 : PA A lo hi I7 L8 := hP.cg (f7 57 (by decide) (by decide) (by decide) (by decide)) (a3 58 (by decide))
  have main : ∀ b' : Int32, (b' = 1 ∧ BadS D A k (I7 75)) ∨ (b' = 0 ∧ ¬ BadS D A k (I7 75)) → ∃ I' L', f_X0_add_45 P (nI k) (nI t) b' I7 L8 = some (I', L') ∧ I' 73 7 = nI (t + 1) ∧ (∀ p, p ≠ 73 → p ≠ 74 → p ≠ 75 → ¬ (77 ≤ p ∧ p ≤ 83) → I' p = I p) ∧ (∀ p, p ≠ 76 → L' p = L p) ∧ OA I I' t ∧ DevX D A I' t k pl ∧ (∀ j, j ≠ k → I' 83 j = I 83 j) ∧ I' 83 k = nI (cc + ivp (zFresh I' (D 9 k) k t)) := by
    intro b' hb
    obtain ⟨I10, e10⟩ : ∃ x, x = zu I7 79 t b' := ⟨_, rfl⟩
    obtain ⟨I13, e13⟩ : ∃ x, x = zu I10 80 t (nI s0) := ⟨_, rfl⟩
    obtain ⟨I16, e16⟩ : ∃ x, x = zu I13 81 (t * 3) (nI (sz0 A)) := ⟨_, rfl⟩
    obtain ⟨I21, e21⟩ : ∃ x, x = zu I16 81 (t * 3 + 1) (nI (sz1 A)) := ⟨_, rfl⟩
    obtain ⟨I26, e26⟩ : ∃ x, x = zu I21 81 (t * 3 + 2) (nI (sz2 A (PinQ D A k (I7 75 0)))) := ⟨_, rfl⟩
    have g10 : ∀ p, p ≠ 79 → I10 p = I7 p := fun p h => by rw [e10, zu_pf _ _ h]
    have g13 : ∀ p, p ≠ 79 → p ≠ 80 → I13 p = I7 p := fun p h h2 => by rw [e13, zu_pf _ _ h2]; exact g10 p h
    have g16 : ∀ p, p ≠ 79 → p ≠ 80 → p ≠ 81 → I16 p = I7 p := fun p h h2 h3 => by rw [e16, zu_pf _ _ h3]; exact g13 p h h2
    have g21 : ∀ p, p ≠ 79 → p ≠ 80 → p ≠ 81 → I21 p = I7 p := fun p h h2 h3 => by rw [e21, zu_pf _ _ h3]; exact g16 p h h2 h3
    have g26 : ∀ p, p ≠ 79 → p ≠ 80 → p ≠ 81 → I26 p = I7 p := fun p h h2 h3 => by rw [e26, zu_pf _ _ h3]; exact g21 p h h2 h3
    have t7 : I7 73 7 = nI t := by rw [f7 73 (by decide) (by decide) (by decide) (by decide)]; exact h73
    have s7 : I7 59 0 = nI s0 := by rw [f7 59 (by decide) (by decide) (by decide) (by decide)]; exact h59
    have w7 : I7 57 2 = nI (sz0 A) := by rw [f7 57 (by decide) (by decide) (by decide) (by decide)]; exact h57
    have ed := c_edges (I := I16) (L := L8) (P7.cg (g16 57 (by decide) (by decide) (by decide)) rfl)
    have dG : ∀ {J : zI}, (∀ p, p ≠ 79 → p ≠ 80 → p ≠ 81 → J p = I7 p) → DC P D J := fun {J} g => hd.cg hPl (fun p x y => by rw [g p (by omega) (by omega) (by omega), f7 p (by omega) (by omega) (by omega) (by omega)]) (fun p x y => by rw [g p (by omega) (by omega) (by omega), f7 p (by omega) (by omega) (by omega) (by omega)])
    have nG : ∀ {J : zI}, (∀ p, p ≠ 79 → p ≠ 80 → p ≠ 81 → J p = I7 p) → NW D J := fun {J} g => hN.cg hv.1.2.1 (fun p x y => by rw [g p (by omega) (by omega) (by omega), f7 p (by omega) (by omega) (by omega) (by omega)])
    have ee := c_efp (I := I21) (L := L8) (P := P) hv hk (P7.cg (g21 57 (by decide) (by decide) (by decide)) rfl) a4 (dG g21) hH8 (nG g21)
    rw [g21 75 (by decide) (by decide) (by decide)] at ee
    have d78 : ∀ j, j ≠ t → I26 77 j = I 77 j ∧ I26 78 j = I 78 j ∧ I26 79 j = I 79 j ∧ I26 80 j = I 80 j := fun j hj => by
      refine ⟨?_, ?_, ?_, ?_⟩
      · rw [g26 77 (by decide) (by decide) (by decide), a2 77 (by decide) (by decide), zu_p _ _ (by decide), zu_k _ _ hj]
      · rw [g26 78 (by decide) (by decide) (by decide), a2 78 (by decide) (by decide), zu_k _ _ hj, zu_p _ _ (by decide)]
      · rw [e26, zu_p _ _ (by decide), e21, zu_p _ _ (by decide), e16, zu_p _ _ (by decide), e13, zu_p _ _ (by decide), e10, zu_k _ _ hj, f7 79 (by decide) (by decide) (by decide) (by decide)]
      · rw [e26, zu_p _ _ (by decide), e21, zu_p _ _ (by decide), e16, zu_p _ _ (by decide), e13, zu_k _ _ hj, g10 80 (by decide), f7 80 (by decide) (by decide) (by decide) (by decide)]
    have m77 : I26 77 t = nI k := by rw [g26 77 (by decide) (by decide) (by decide), a2 77 (by decide) (by decide), zu_p _ _ (by decide), zu_eq]
    have m78 : I26 78 t = nI pl := by rw [g26 78 (by decide) (by decide) (by decide), a2 78 (by decide) (by decide), zu_eq]
    have m79 : I26 79 t = b' := by rw [e26, zu_p _ _ (by decide), e21, zu_p _ _ (by decide), e16, zu_p _ _ (by decide), e13, zu_p _ _ (by decide), e10, zu_eq]
    have m80 : I26 80 t = nI s0 := by rw [e26, zu_p _ _ (by decide), e21, zu_p _ _ (by decide), e16, zu_p _ _ (by decide), e13, zu_eq]
    have m81 : I26 81 (3 * t) = nI (sz0 A) ∧ I26 81 (3 * t + 1) = nI (sz1 A) ∧ I26 81 (3 * t + 2) = nI (sz2 A (PinQ D A k (I7 75 0))) := by
      rw [Nat.mul_comm 3 t]
      refine ⟨?_, ?_, ?_⟩
      · rw [e26, zu_k _ _ (by omega), e21, zu_k _ _ (by omega), e16, zu_eq]
      · rw [e26, zu_k _ _ (by omega), e21, zu_eq]
      · rw [e26, zu_eq]
    have o81 : ∀ d j, d < t → j < 3 → I26 81 (3 * d + j) = I 81 (3 * d + j) := fun d j hd hj => by
      rw [e26, zu_k _ _ (by omega), e21, zu_k _ _ (by omega), e16, zu_k _ _ (by omega), g13 81 (by decide) (by decide), f7 81 (by decide) (by decide) (by decide) (by decide)]
    have hor : ∀ i, i < D 9 k → I26 75 i = -1 ∨ ∃ x, x < ndn D ∧ I26 75 i = nI x := fun i hi' => by
      rw [g26 75 (by decide) (by decide) (by decide)]
      exact LF_or (fun x (hx : tch D A (D 10 (4 * k + i)) x) => hx.1) (a5 i hi')
    obtain ⟨I', b1, b2, b3, b4, b5, b6, b7⟩ := ad_127 (I0 := I26) (L := L8) (t := t) (cc := cc) hPl hv hk (dG g26) (nG g26) ht (by rw [g26 73 (by decide) (by decide) (by decide)]; exact t7) hor m77 (by rw [m79]; rcases hb with ⟨h, -⟩ | ⟨h, -⟩ <;> simp [h]) (by rw [g26 83 (by decide) (by decide) (by decide), f7 83 (by decide) (by decide) (by decide) (by decide)]; exact h83) (D 9 k) 0 I26 zF (by omega) (zF_lt (by omega)) (fun _ _ => rfl) (fun j hj => absurd hj (by omega)) (fun _ _ _ _ => rfl)
    have f83 : I26 83 = I 83 := by rw [g26 83 (by decide) (by decide) (by decide), f7 83 (by decide) (by decide) (by decide) (by decide)]
    refine ⟨I', L8, ?_, b2, fun p x y z u => ?_, a3, fun d hd' => ?_, ⟨by rw [b3 77 (by decide) (by decide) (by decide)]; exact m77, by rw [b3 78 (by decide) (by decide) (by decide)]; exact m78, I7 75, a5, by rw [b3 79 (by decide) (by decide) (by decide), m79]; exact hb, ⟨s0, by rw [b3 80 (by decide) (by decide) (by decide)]; exact m80, hs, hm⟩, by rw [b3 81 (by decide) (by decide) (by decide)]; exact m81.1, by rw [b3 81 (by decide) (by decide) (by decide)]; exact m81.2.1, by rw [b3 81 (by decide) (by decide) (by decide)]; exact m81.2.2, fun i hi' => by rw [b4 i hi', g26 75 (by decide) (by decide) (by decide)]⟩, fun j hj => by rw [b6 j hj, f83], b7⟩
    · have s26 : f_X0_add_45 P (nI k) (nI t) b' I7 L8 = zlp4 (f_X0_add_127 P) zF (nI k) (0 : Int32) I26 L8 := by
        unfold f_X0_add_45
        rw [zck_t _ (zbd_nI (by omega) (by decide)), nI_clamp (n := t) (by omega), ← e10, zlt_b, zck_t _ (zbd_0 (by decide) (by decide)), show (0 : Int32).toNatClampNeg = 0 from rfl, g10 73 (by decide), t7, zck_t _ (zbd_nI (by omega) (by decide)), nI_clamp (n := t) (by omega), g10 59 (by decide), s7, ← e13, zlt_b, g13 73 (by decide) (by decide), t7, show (3 : Int32) = nI 3 from rfl, pk_mul, zlt_b, zck_t _ (zbd_nI (by omega) (by decide)), nI_clamp (n := t * 3) (by omega), g13 57 (by decide) (by decide), w7, ← e16, zlt_b, g16 73 (by decide) (by decide) (by decide), t7, pk_mul, zlt_b, ed, zb1_b, nI_1, zck_t _ (zbd_nI (by omega) (by decide)), nI_clamp (n := t * 3 + 1) (by omega), ← e21, zlt_b, g21 73 (by decide) (by decide) (by decide), t7, pk_mul, zlt_b, ee, zb1_b, show (2 : Int32) = nI 2 from rfl, nI_add, zck_t _ (zbd_nI (by omega) (by decide)), nI_clamp (n := t * 3 + 2) (by omega), ← e26, zlt_b]
      rw [s26]; exact b1
    · rw [b3 p x (by omega) (by omega), g26 p (by omega) (by omega) (by omega), f7 p y z (by omega) (by omega)]
    · obtain ⟨q1, q2, q3, q4⟩ := d78 d (by omega)
      refine ⟨by rw [b3 77 (by decide) (by decide) (by decide)]; exact q1, by rw [b3 78 (by decide) (by decide) (by decide)]; exact q2, by rw [b3 79 (by decide) (by decide) (by decide)]; exact q3, by rw [b3 80 (by decide) (by decide) (by decide)]; exact q4, fun j hj => by rw [b3 81 (by decide) (by decide) (by decide)]; exact o81 d j hd' hj, fun j hj => ?_⟩
      rw [b5 d j hd' hj, g26 82 (by decide) (by decide) (by decide), f7 82 (by decide) (by decide) (by decide) (by decide)]
  unfold f_X0_add
  rw [h73, zck_t _ (zbd_nI (by omega) (by decide)), nI_clamp (n := t) (by omega), zlt_b, zu_p _ _ (by decide), h73, zck_t _ (zbd_nI (by omega) (by decide)), nI_clamp (n := t) (by omega), zlt_b, a1, zb3_b, zu_p _ _ (by decide), zu_p _ _ (by decide), h73]
  rcases a6 with ⟨rfl, h⟩ | ⟨rfl, h⟩
  · rw [if_neg n10]; exact main 1 (Or.inl ⟨rfl, h⟩)
  · rw [if_pos rfl]; exact main 0 (Or.inr ⟨rfl, h⟩)
end Ad
