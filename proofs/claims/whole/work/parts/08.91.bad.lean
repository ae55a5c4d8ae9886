/-! bad, named -/
theorem zF_s : ∃ m, zF = m + 1 := ⟨zF - 1, by have := zF_ge; omega⟩
theorem e_neg_t {m : Nat} (h : m < 2 ^ 31) : f_X11_mustNotBeNegative (nI m) = some (.inl ()) := by
  unfold f_X11_mustNotBeNegative; rw [if_pos (nI_pos' h)]
theorem e_neg_f {x : Int32} (h : x < 0) : f_X11_mustNotBeNegative x = some (.inr 0) := by
  unfold f_X11_mustNotBeNegative; rw [if_neg (Int32.not_le.mpr h)]
theorem e_bad_21 {v1 w1 : Int32} {I : zI} (h : ¬ w1 ≤ 0) (h0 : ¬ w1 = 0) : f_X12_bad_21 v1 w1 I = some (0, zu I 97 0 w1) := by
  obtain ⟨m, hm⟩ := zF_s
  unfold f_X12_bad_21
  rw [hm]
  simp only [zlt]
  show f_X12_bad_28 _ v1 0 (zu I 97 0 w1) = _
  unfold f_X12_bad_28 f_X12_bad_67 f_X12_bad_79
  rw [zu_eq, if_neg h, if_neg h0, ite_self]
theorem bad_loop {I J : zI} {D : Nat} {m : Nat} (hD : D ≤ 300) (hm : m < 2 ^ 31) (h1 : I 73 7 = nI D) (h2 : J 97 39 = nI D) (h3 : J 97 0 = 0) (h4 : ∀ d, d < D → (I 79 d = 0 ∧ J 127 d = 0) ∨ (I 79 d = 1 ∧ J 127 d = 1)) :
    ∀ r d c n n', d + r = D → c ≤ m → c ≤ d → r < n → r < n' → ∃ v, zlp4 f_X0_faulty_4 n (nI m) (nI c) (nI d) I = some v ∧ zlp3 f_X12_bad_28 n' (nI (m - c)) (nI d) J = some (v, J)
  | _, _, _, 0, _, _, _, _, h, _ => absurd h (by omega)
  | _, _, _, _, 0, _, _, _, _, h => absurd h (by omega)
  | 0, d, c, n + 1, n' + 1, hd, hc, hcd, _, _ => by
    have : d = D := by omega
    subst this
    refine ⟨-1, ?_, ?_⟩
    · show f_X0_faulty_4 _ (nI m) (nI c) (nI d) I = _
      unfold f_X0_faulty_4
      rw [h1, if_pos (nI_le (Nat.le_refl _) (by omega))]
    · show f_X12_bad_28 _ (nI (m - c)) (nI d) J = _
      unfold f_X12_bad_28 f_X12_bad_67 f_X12_bad_79
      rw [h2, if_pos (nI_le (Nat.le_refl _) (by omega)), h3, if_pos (by decide)]
  | r + 1, d, c, n + 1, n' + 1, hd, hc, hcd, hn, hn' => by
    have hb : zbd (nI d) 300 = true := zbd_nI (by omega) (by decide)
    have hcl : (nI d).toNatClampNeg = d := nI_clamp (by omega)
    have ih := fun c hc hcd => bad_loop hD hm h1 h2 h3 h4 r (d + 1) c n n' (by omega) hc hcd (by omega) (by omega)
    have e1 : zlp4 f_X0_faulty_4 (n + 1) (nI m) (nI c) (nI d) I = f_X0_faulty_4 (zlp4 f_X0_faulty_4 n) (nI m) (nI c) (nI d) I := rfl
    have e2 : zlp3 f_X12_bad_28 (n' + 1) (nI (m - c)) (nI d) J = f_X12_bad_28 (zlp3 f_X12_bad_28 n') (nI (m - c)) (nI d) J := rfl
    rw [e1, e2]
    generalize zlp4 f_X0_faulty_4 n = k1 at ih ⊢
    generalize zlp3 f_X12_bad_28 n' = k2 at ih ⊢
    unfold f_X0_faulty_4 f_X0_faulty_32 f_X12_bad_28 f_X12_bad_61
    rw [h1, h2, if_neg (nI_ge (by omega) (by omega)), if_neg (nI_ge (by omega) (by omega)), h3, if_pos rfl, zck_t _ hb, zck_t _ hb, hcl]
    simp only [zlt, nI_1]
    rcases h4 d (by omega) with ⟨g1, g2⟩ | ⟨g1, g2⟩
    · rw [g1, g2, if_neg (by decide), if_pos rfl]
      exact ih c hc (by omega)
    · rw [g1, g2, if_pos rfl, if_neg n10]
      by_cases hcm : c = m
      · subst hcm
        rw [if_pos rfl, Nat.sub_self, if_pos (show nI 0 = 0 from rfl)]
        exact ⟨_, rfl, rfl⟩
      · have e3 : nI (m - c) + (-1) = nI (m - (c + 1)) := by
          rw [show m - c = (m - (c + 1)) + 1 by omega, pk_m1]
        rw [if_neg (fun z => hcm ((nI_eq (by omega) (by omega)).mp z)), if_neg (nI_ne0 (by omega) (by omega)), e3]
        exact ih (c + 1) (by omega) (by omega)
theorem sx_bad : Sx_bad zInv := by
  rintro I L x ⟨P, Q, hp, h⟩
  by_cases hx : x < 0
  · refine qx_t hp h 1 0 n10 ?_ ?_
    · simp only [w_bad, f_X11_bad, e_neg_f hx, zb1, zsm, Option.bind_some, if_true]
    · unfold f_X12_bad; rw [if_neg (Int32.not_le.mpr hx), e_bad_21 zi_01 n10]
  · obtain ⟨m, hm, rfl⟩ := nI_of hx
    rcases zf_cases h with ⟨f1, f2⟩ | ⟨f1, f2, D, nn, nd, nw, nk, hD, -, hnd, hnw, hnk, d1, d2, -, -, p13, p15, hd, -⟩
    · refine qx_t hp h 2 0 n20 ?_ ?_
      · simp only [w_bad, f_X11_bad, e_neg_t hm, f1, e_true_0, zb1, zsm, Option.bind_some]
        rfl
      · unfold f_X12_bad; rw [if_pos (nI_pos' hm), if_pos f2, e_bad_21 zi_02 n20]
    · obtain ⟨v, v1, v2⟩ := bad_loop (I := I) (J := zu I 97 0 0) (D := D) (m := m) hD hm d1 (by rw [zu_k _ _ (by decide)]; exact d2) (zu_eq _ _ _ _) (fun d hdD => by
        obtain ⟨k, hk, g1, g2, -, g3, -⟩ := hd d hdD
        rw [zu_p _ _ (by decide)]
        exact g3) D 0 0 zF zF (by omega) (by omega) (by omega) (zF_lt (by omega)) (zF_lt (by omega))
      refine qx_o hp h v ?_ ?_
      · have e1 : f_X0_faulty (nI m) I = some v := v1
        simp only [w_bad, f_X11_bad, e_neg_t hm, f1, e_true_1, zb1, zsm, Option.bind_some, e1]
      · unfold f_X12_bad; rw [if_pos (nI_pos' hm), if_neg f2]
        exact v2
/-- the least or the greatest name that a net's texts tell -/
def nmF (I : zI) (a : Int32) (g : Prop) [Decidable g] : Nat → Nat → Int32 → Int32
  | 0, _, v => v
  | r + 1, t, v => nmF I a g r (t + 1) (if I 30 t = a ∧ (v = -1 ∨ (if g then v < I 29 t else I 29 t < v)) then I 29 t else v)
theorem c_least {I : zI} {n : Nat} {a : Int32} (hn : n ≤ 40) (h1 : I 26 0 = nI n) : ∀ r t v k, t + r = n → r < k → zlp4 f_X4_leastName_4 k a v (nI t) I = some (nmF I a False r t v)
  | _, _, _, 0, _, h => absurd h (by omega)
  | 0, t, v, k + 1, ht, _ => by
    have : t = n := by omega
    subst this
    show f_X4_leastName_4 _ a v (nI t) I = _
    unfold f_X4_leastName_4
    rw [h1, if_pos (nI_le (Nat.le_refl _) (by omega))]
    rfl
  | r + 1, t, v, k + 1, ht, hk => by
    have hb : zbd (nI t) 40 = true := zbd_nI (by omega) (by decide)
    have hcl : (nI t).toNatClampNeg = t := nI_clamp (by omega)
    have ih := fun v => c_least (a := a) hn h1 r (t + 1) v k (by omega) (by omega)
    have e1 : zlp4 f_X4_leastName_4 (k + 1) a v (nI t) I = f_X4_leastName_4 (zlp4 f_X4_leastName_4 k) a v (nI t) I := rfl
    rw [e1]
    generalize zlp4 f_X4_leastName_4 k = k1 at ih ⊢
    unfold f_X4_leastName_4 f_X4_leastName_37 f_X4_leastName_44 nmF
    rw [h1, if_neg (nI_ge (by omega) (by omega)), zck_t _ hb, zck_t _ hb, zck_t _ hb, hcl]
    simp only [zlt, nI_1, ih, if_false]
    by_cases e : I 30 t = a
    · rw [if_pos e]
      by_cases e2 : v = -1
      · rw [if_pos e2, if_pos ⟨e, Or.inl e2⟩]
      · rw [if_neg e2]
        by_cases e3 : v ≤ I 29 t
        · rw [if_pos e3, if_neg (fun z => z.2.elim e2 (fun y => Int32.not_lt.mpr e3 y))]
        · rw [if_neg e3, if_pos ⟨e, Or.inr (Int32.not_le.mp e3)⟩]
    · rw [if_neg e, if_neg (fun z => e z.1)]
/-- the texts' facts that both sides read -/
def zTx (I J : zI) (n nw : Nat) : Prop := ∀ t, t < n → J 104 t = I 29 t ∧ ∃ w q, q < 4096 ∧ J 102 t = nI w ∧ w < 8 ∧ J 103 t = nI q ∧ ((w < nw ∧ I 30 t = zNet J (zNode J w q)) ∨ (¬ w < nw ∧ I 30 t = -1))
theorem m_name {I J : zI} {n nw nl nd : Nat} {a : Int32} {g : Prop} [Decidable g] {b : Int32} (hg : b = 0 ↔ ¬ g) (ha : ¬ a = -1) (hn : n ≤ 40) (hnw : nw ≤ 8) (hnl : nl ≤ 24) (hnd : nd ≤ 16384) (h1 : J 97 7 = nI n) (h2 : J 97 13 = nI nw) (hl : ∀ w, w < nw → ∃ l, l < nl ∧ J 109 w = nI l) (hx : zTx I J n nw) (ho : ∀ w q, w < nw → q < 4096 → zNode J w q = -1 ∨ ∃ m, m < nd ∧ zNode J w q = nI m) :
    ∀ r t v k, t + r = n → r < k → zlp5 f_X12_nameOf_5 k a b v (nI t) J = some (nmF I a g r t v)
  | _, _, _, 0, _, h => absurd h (by omega)
  | 0, t, v, k + 1, ht, _ => by
    have : t = n := by omega
    subst this
    show f_X12_nameOf_5 _ a b v (nI t) J = _
    unfold f_X12_nameOf_5
    rw [h1, if_pos (nI_le (Nat.le_refl _) (by omega))]
    rfl
  | r + 1, t, v, k + 1, ht, hk => by
    have hb : zbd (nI t) 40 = true := zbd_nI (by omega) (by decide)
    have hcl : (nI t).toNatClampNeg = t := nI_clamp (by omega)
    have ih := fun v => m_name (I := I) (a := a) hg ha hn hnw hnl hnd h1 h2 hl hx ho r (t + 1) v k (by omega) (by omega)
    have e1 : zlp5 f_X12_nameOf_5 (k + 1) a b v (nI t) J = f_X12_nameOf_5 (zlp5 f_X12_nameOf_5 k) a b v (nI t) J := rfl
    rw [e1]
    generalize zlp5 f_X12_nameOf_5 k = k1 at ih ⊢
    obtain ⟨x1, w, q, x2, x3, x4, x5, x6⟩ := hx t (by omega)
    have cm : ∀ e : Int32, (e = 1 ∧ I 30 t = a) ∨ (e = 0 ∧ ¬ I 30 t = a) → f_X12_nameOf_77 k1 a b v (nI t) e J = some (nmF I a g (r + 1) t v) := by
      intro e he
      have c0 : f_X12_nameOf_118 k1 a b v (nI t) e 0 J = k1 a b v (nI (t + 1)) J := by
        unfold f_X12_nameOf_118 f_X12_nameOf_140 f_X12_nameOf_141
        simp only [zlt, nI_1, if_true, ite_self]
      have c1 : f_X12_nameOf_118 k1 a b v (nI t) e 1 J = if e = 0 then k1 a b v (nI (t + 1)) J else k1 a b (I 29 t) (nI (t + 1)) J := by
        unfold f_X12_nameOf_118 f_X12_nameOf_140 f_X12_nameOf_141
        simp only [zlt, nI_1, zck_t _ hb, hcl, x1, if_neg n10]
      unfold f_X12_nameOf_77 f_X12_nameOf_113 f_X12_nameOf_117 nmF
      rw [c0, c1, zck_t _ hb, zck_t _ hb, hcl, x1, ih, ih]
      rcases he with ⟨rfl, e1⟩ | ⟨rfl, e1⟩
      · rw [if_neg n10]
        by_cases g1 : v = -1
        · rw [if_pos g1, if_pos ⟨e1, Or.inl g1⟩]
        · rw [if_neg g1]
          by_cases hg1 : g
          · rw [if_neg (fun z => (hg.mp z) hg1)]
            by_cases g2 : I 29 t ≤ v
            · rw [if_pos g2, if_neg (fun z => z.2.elim g1 (fun y => by rw [if_pos hg1] at y; exact Int32.not_lt.mpr g2 y))]
            · rw [if_neg g2, if_pos ⟨e1, Or.inr (by rw [if_pos hg1]; exact Int32.not_le.mp g2)⟩]
          · rw [if_pos (hg.mpr hg1)]
            by_cases g2 : v ≤ I 29 t
            · rw [if_pos g2, if_neg (fun z => z.2.elim g1 (fun y => by rw [if_neg hg1] at y; exact Int32.not_lt.mpr g2 y))]
            · rw [if_neg g2, if_pos ⟨e1, Or.inr (by rw [if_neg hg1]; exact Int32.not_le.mp g2)⟩]
      · have e3 : ¬ (I 30 t = a ∧ (v = -1 ∨ (if g then v < I 29 t else I 29 t < v))) := fun z => e1 z.1
        simp only [if_true, if_neg e3, ite_self]
    unfold f_X12_nameOf_5 f_X12_nameOf_55 f_X12_nameOf_76
    rw [h1, if_neg (nI_ge (by omega) (by omega)), zck_t _ hb, zck_t _ hb, zck_t _ hb, zck_t _ hb, zck_t _ hb, hcl, x3, h2, x5]
    rcases x6 with ⟨y1, y2⟩ | ⟨y1, y2⟩
    · rw [if_neg (nI_ge y1 (by omega)), if_neg (nI_ge y1 (by omega)), e_node y1 hnw hnl x2 (hl w y1)]
      simp only [zb1, Option.bind_some]
      rw [e_mnet hnd (ho w q y1 x2)]
      simp only [Option.bind_some]
      rw [← y2]
      by_cases e : I 30 t = a
      · rw [if_pos e]; exact cm 1 (Or.inl ⟨rfl, e⟩)
      · rw [if_neg e]; exact cm 0 (Or.inr ⟨rfl, e⟩)
    · rw [if_pos (nI_le (by omega) (by omega))]
      exact cm 0 (Or.inr ⟨rfl, fun z => ha (by rw [← z, y2])⟩)
