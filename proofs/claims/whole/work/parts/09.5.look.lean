/-! the plan while it is read: ghost data (numbers G, counts c, names N), held by the class (zPC) and by the reference (zPM) -/
def zPC (Q : Nat) (G : Nat → Nat → Int32) (c : Nat → Nat) (N : Nat → Nat → List Nat) (I : zI) (L : zL) : Prop :=
  (∀ i, i < 4 → I Q (12 + i) = nI (c i)) ∧ (∀ l, l < c 0 → L (Q + 1 + 0) l = z5c (N 0 l) ∧ I (Q + 1 + 1) l = G 0 l ∧ I (Q + 1 + 2) l = G 1 l ∧ I (Q + 1 + 3) l = G 2 l) ∧ (∀ w, w < c 1 → I (Q + 1 + 4) w = G 3 w) ∧ (∀ j, j < c 2 → I (Q + 1 + 5) j = G 4 j ∧ I (Q + 1 + 6) j = G 5 j ∧ I (Q + 1 + 7) j = G 6 j) ∧
  (∀ k, k < c 3 → L (Q + 1 + 8) k = z5c (N 1 k) ∧ I (Q + 1 + 9) k = G 7 k ∧ I (Q + 1 + 10) k = G 8 k ∧ ∀ i, i < 4 → nI i < G 8 k → I (Q + 1 + 11) (4 * k + i) = G 9 (4 * k + i))
def zPM (G : Nat → Nat → Int32) (c : Nat → Nat) (N : Nat → Nat → List Nat) (J : zI) (M : zL) : Prop :=
  (∀ i, i < 4 → J 97 (50 + i) = nI (c i)) ∧ (∀ l, l < c 0 → M 105 (24 + l) = z27 (N 0 l) ∧ J 106 (24 + l) = G 0 l ∧ J 107 (24 + l) = G 1 l ∧ (¬ G 0 l = 0 → J 108 (24 + l) = G 2 l)) ∧ (∀ w, w < c 1 → J 109 (8 + w) = G 3 w) ∧ (∀ j, j < c 2 → J 110 (16 + j) = G 4 j ∧ J 111 (16 + j) = G 5 j ∧ J 112 (16 + j) = G 6 j) ∧
  (∀ k, k < c 3 → M 113 (8 + k) = z27 (N 1 k) ∧ J 114 (8 + k) = G 7 k ∧ J 115 (8 + k) = G 8 k ∧ ∀ i, i < 4 → nI i < G 8 k → J 116 (4 * (8 + k) + i) = G 9 (4 * k + i))
def zPG (G : Nat → Nat → Int32) (c : Nat → Nat) (N : Nat → Nat → List Nat) : Prop :=
  (c 0 ≤ 24 ∧ c 1 ≤ 8 ∧ c 2 ≤ 16 ∧ c 3 ≤ 8) ∧ (∀ l, l < c 0 → gNm (N 0 l)) ∧ (∀ l k, l < c 0 → k < c 0 → N 0 l = N 0 k → l = k) ∧ (∀ k, k < c 3 → gNm (N 1 k)) ∧
  (∀ l, l < c 0 → ∃ w, w ≤ 3 ∧ G 0 l = nI w ∧ (w = 0 → ∃ i, i < 65536 ∧ G 1 l = nI i) ∧ (w ≠ 0 → (∃ a, a < l ∧ G 1 l = nI a) ∧ (∃ b, b < l ∧ G 2 l = nI b))) ∧
  (∀ w, w < c 1 → ∃ l, l < c 0 ∧ G 3 w = nI l) ∧ (∀ w v, w < c 1 → v < c 1 → G 3 w = G 3 v → w = v) ∧
  (∀ j, j < c 2 → (∃ a, a < c 1 ∧ G 4 j = nI a) ∧ (∃ a, a < c 1 ∧ G 5 j = nI a) ∧ (∃ l, l < c 0 ∧ G 6 j = nI l)) ∧
  (∀ k, k < c 3 → (∃ l, l < c 0 ∧ G 7 k = nI l) ∧ ∃ p, 1 ≤ p ∧ p ≤ 4 ∧ G 8 k = nI p ∧ ∀ i, i < p → ∃ w, w < c 1 ∧ G 9 (4 * k + i) = nI w)
/-- the number of a name among the first n -/
def lkR (n : Nat) (N : Nat → List Nat) (g : List Nat) (v : Int32) : Prop := (∃ l, l < n ∧ N l = g ∧ v = nI l) ∨ ((∀ l, l < n → N l ≠ g) ∧ v = -1)
theorem lkR_u {n : Nat} {N : Nat → List Nat} {g : List Nat} {v w : Int32} (hd : ∀ l k, l < n → k < n → N l = N k → l = k) (h1 : lkR n N g v) (h2 : lkR n N g w) : v = w := by
  rcases h1 with ⟨l, a1, a2, a3⟩ | ⟨a1, a2⟩ <;> rcases h2 with ⟨k, b1, b2, b3⟩ | ⟨b1, b2⟩
  · rw [a3, b3, hd l k a1 b1 (by rw [a2, b2])]
  · exact absurd a2 (b1 l a1)
  · exact absurd b2 (a1 k b1)
  · rw [a2, b2]
section Lk
variable {Q : Nat} {G : Nat → Nat → Int32} {c : Nat → Nat} {N : Nat → Nat → List Nat} {I J : zI} {L M : zL} {T : Nat → Nat} {n m : Nat} {F E : Nat → Nat}
theorem c_lnamed (hc : zPC Q G c N I L) (hg : zPG G c N) {g : List Nat} (gg : gNm g) : ∀ r l f, l + r = c 0 → r < f → (∀ k, k < l → N 0 k ≠ g) → ∃ v, zlp4 (f_X7_layerNamed_2 Q) f (z5c g) (nI l) I L = some v ∧ lkR (c 0) (N 0) g v
  | _, _, 0, _, h, _ => absurd h (by omega)
  | 0, l, f + 1, hl, _, hk => by
    have : l = c 0 := by omega
    subst this
    refine ⟨-1, ?_, Or.inr ⟨hk, rfl⟩⟩
    show f_X7_layerNamed_2 Q _ (z5c g) (nI (c 0)) I L = _
    unfold f_X7_layerNamed_2
    rw [hc.1 0 (by decide), if_pos (Int32.le_refl _)]
  | r + 1, l, f + 1, hl, hf, hk => by
    have ih := c_lnamed hc hg gg r (l + 1) f (by omega) (by omega)
    have e1 : zlp4 (f_X7_layerNamed_2 Q) (f + 1) (z5c g) (nI l) I L = f_X7_layerNamed_2 Q (zlp4 (f_X7_layerNamed_2 Q) f) (z5c g) (nI l) I L := rfl
    rw [e1]
    generalize zlp4 (f_X7_layerNamed_2 Q) f = k1 at ih ⊢
    have h24 := hg.1.1
    unfold f_X7_layerNamed_2
    rw [hc.1 0 (by decide), if_neg (nI_ge (by omega) (by omega)), zck_t _ (zbd_nI (by omega) (by decide)), nI_clamp (by omega), (hc.2.1 l (by omega)).1]
    simp only [zlt_b, nI_1]
    by_cases e : N 0 l = g
    · rw [if_pos (by rw [e])]
      exact ⟨_, rfl, Or.inl ⟨l, by omega, e, rfl⟩⟩
    · rw [if_neg (fun z => e ((c5_eq (hg.2.1 l (by omega)) gg).mp z))]
      exact ih (fun k hk2 => by
        by_cases z : k = l
        · subst z; exact e
        · exact hk k (by omega))
theorem m_lnamed (hm : zPM G c N J M) (hg : zPG G c N) {g : List Nat} (gg : gNm g) : ∀ r l f v, l + r = c 0 → r < f → lkR l (N 0) g v → ∃ w, zlp5 f_X12_layerAt_10 f (z27 g) v (nI l) J M = some w ∧ lkR (c 0) (N 0) g w
  | _, _, 0, _, _, h, _ => absurd h (by omega)
  | 0, l, f + 1, v, hl, _, hv => by
    have : l = c 0 := by omega
    subst this
    refine ⟨v, ?_, hv⟩
    show f_X12_layerAt_10 _ (z27 g) v (nI (c 0)) J M = _
    unfold f_X12_layerAt_10 f_X12_layerAt_53
    rw [hm.1 0 (by decide), if_pos (Int32.le_refl _)]
  | r + 1, l, f + 1, v, hl, hf, hv => by
    have ih := fun v => m_lnamed hm hg gg r (l + 1) f v (by omega) (by omega)
    have e1 : zlp5 f_X12_layerAt_10 (f + 1) (z27 g) v (nI l) J M = f_X12_layerAt_10 (zlp5 f_X12_layerAt_10 f) (z27 g) v (nI l) J M := rfl
    rw [e1]
    generalize zlp5 f_X12_layerAt_10 f = k1 at ih ⊢
    have h24 := hg.1.1
    unfold f_X12_layerAt_10 f_X12_layerAt_53 f_X12_layerAt_46
    rw [hm.1 0 (by decide), if_neg (nI_ge (by omega) (by omega)), if_neg (c27_pos gg)]
    simp only [zlt_b, nI_1]
    rw [show (24 : Int32) + nI l = nI (24 + l) from nI_add 24 l, zck_t _ (zbd_nI (by omega) (by decide)), nI_clamp (by omega), (hm.2.1 l (by omega)).1]
    by_cases e : N 0 l = g
    · rw [if_pos (by rw [e])]
      exact ih _ (Or.inl ⟨l, by omega, e, rfl⟩)
    · rw [if_neg (fun z => e ((c27_eq (hg.2.1 l (by omega)) gg).mp z))]
      refine ih v ?_
      rcases hv with ⟨k, k1, k2, k3⟩ | ⟨k1, k2⟩
      · exact Or.inl ⟨k, by omega, k2, k3⟩
      · refine Or.inr ⟨fun k hk => ?_, k2⟩
        by_cases z : k = l
        · subst z; exact e
        · exact k1 k (by omega)
/-- the layer at hand -/
def LA (T : Nat → Nat) (m : Nat) (F E : Nat → Nat) (n : Nat) (N : Nat → List Nat) (j : Nat) (v : Int32) : Prop := (wS T m F E j = 1 ∧ lkR n N (wG T F E j) v) ∨ (¬ wS T m F E j = 1 ∧ v = -1)
theorem LA_u {N : Nat → List Nat} {j : Nat} {v w : Int32} (hd : ∀ l k, l < n → k < n → N l = N k → l = k) (h1 : LA T m F E n N j v) (h2 : LA T m F E n N j w) : v = w := by
  rcases h1 with ⟨a1, a2⟩ | ⟨a1, a2⟩ <;> rcases h2 with ⟨b1, b2⟩ | ⟨b1, b2⟩
  · exact lkR_u hd a2 b2
  · exact absurd a1 b1
  · exact absurd b1 a1
  · rw [a2, b2]
theorem LA_lt {N : Nat → List Nat} {j : Nat} {v : Int32} (h : LA T m F E n N j v) (hv : ¬ v = -1) : j < m ∧ ∃ l, l < n ∧ v = nI l := by
  rcases h with ⟨a1, ⟨l, l1, -, l3⟩ | ⟨-, l2⟩⟩ | ⟨-, a2⟩
  · exact ⟨wS_lt (by rw [a1]; decide), l, l1, l3⟩
  · exact absurd l2 hv
  · exact absurd a2 hv
/-- the class's cursor -/
def CS (Q : Nat) (T : Nat → Nat) (m : Nat) (F E : Nat → Nat) (j : Nat) (I : zI) (L : zL) : Prop := j ≤ m ∧ m ≤ 800 ∧ I 3 4 = nI j ∧ I 3 3 = nI (Q + 1) ∧ CW T m F E I L
theorem CS.up {j : Nat} (h : CS Q T m F E j I L) (hj : j < m) : CS Q T m F E (j + 1) (zu I 3 4 (nI (j + 1))) L :=
  ⟨hj, h.2.1, zu_eq _ _ _ _, by rw [zu_k _ _ (by decide)]; exact h.2.2.2.1, h.2.2.2.2.cg (zu_pf _ _ (by decide)) rfl⟩
theorem zPC.up {j : Nat} {v : Int32} (hq : zpl Q) (h : zPC Q G c N I L) : zPC Q G c N (zu I 3 j v) L := by
  have g : ∀ p, p ≠ 3 → zu I 3 j v p = I p := fun p hp => zu_pf _ _ hp
  have hQ : Q ≠ 3 ∧ ∀ k, Q + 1 + k ≠ 3 := by rcases hq with rfl | rfl <;> exact ⟨by omega, fun k => by omega⟩
  unfold zPC
  rw [g _ hQ.1, g _ (hQ.2 1), g _ (hQ.2 2), g _ (hQ.2 3), g _ (hQ.2 4), g _ (hQ.2 5), g _ (hQ.2 6), g _ (hQ.2 7), g _ (hQ.2 9), g _ (hQ.2 10), g _ (hQ.2 11)]
  exact h
theorem c_lah {j : Nat} (ht : Tok T n m F E) (hs : CS Q T m F E j I L) (hc : zPC Q G c N I L) (hg : zPG G c N) : ∃ v, f_X8_layerAtHand Q I L = some v ∧ LA T m F E (c 0) (N 0) j v := by
  obtain ⟨hj, hm, h34, h33, hw⟩ := hs
  obtain ⟨w1, w2, w3⟩ := hw j hj
  have hb : zbd (nI j) 801 = true := zbd_nI (by omega) (by decide)
  have hcl : (nI j).toNatClampNeg = j := nI_clamp (by omega)
  have hS : wS T m F E j < 6 := by unfold wS; repeat' split
                                   all_goals omega
  unfold f_X8_layerAtHand f_X8_layerAtHand_39
  simp only [zlt_b]
  rw [h34, zck_t _ hb, zck_t _ hb, hcl, w1]
  by_cases z : wS T m F E j = 1
  · rw [z, if_pos (show nI 1 = 1 from rfl), zck_t _ (decide_eq_true h33), w2 z]
    obtain ⟨v, v1, v2⟩ := c_lnamed hc hg (wG_good ht z) (c 0) 0 zF (by omega) (zF_lt (by have := hg.1.1; omega)) (fun k hk => absurd hk (by omega))
    have e : f_X7_layerNamed Q (z5c (wG T F E j)) I L = some v := v1
    rw [e]
    exact ⟨v, rfl, Or.inl ⟨z, v2⟩⟩
  · rw [if_neg (show ¬ nI (wS T m F E j) = 1 from fun y => z ((nI_eq (b := 1) (by omega) (by decide)).mp y))]
    exact ⟨-1, rfl, Or.inr ⟨z, rfl⟩⟩
theorem m_lah {j : Nat} (hn : n ≤ 800) (ht : Tok T n m F E) (hj : j ≤ m) (hr : RC T n m F E j J) (hm : zPM G c N J M) (hg : zPG G c N) : ∃ v, f_X12_layerAt J M = some v ∧ LA T m F E (c 0) (N 0) j v := by
  unfold f_X12_layerAt
  rw [e_mname hn ht hj hr]
  simp only [zb1, Option.bind_some]
  by_cases z : wS T m F E j = 1
  · rw [if_pos z]
    obtain ⟨v, v1, v2⟩ := m_lnamed hm hg (wG_good ht z) (c 0) 0 zF (-1) (by omega) (zF_lt (by have := hg.1.1; omega)) (Or.inr ⟨fun l hl => absurd hl (by omega), rfl⟩)
    exact ⟨v, v1, Or.inl ⟨z, v2⟩⟩
  · rw [if_neg z]
    obtain ⟨f, hf⟩ := zF_s
    rw [hf]
    refine ⟨-1, ?_, Or.inr ⟨z, rfl⟩⟩
    show f_X12_layerAt_10 _ 0 (-1) 0 J M = _
    unfold f_X12_layerAt_10 f_X12_layerAt_53
    rw [if_pos (show (0 : Int64) ≤ 0 by decide), ite_self]
/-- a wire by its layer -/
def wrR (n : Nat) (W : Nat → Int32) (v u : Int32) : Prop := (v = -1 ∧ u = -1) ∨ (¬ v = -1 ∧ ((∃ w, w < n ∧ W w = v ∧ u = nI w) ∨ ((∀ w, w < n → W w ≠ v) ∧ u = -1)))
theorem wrR_u {n : Nat} {W : Nat → Int32} {v u x : Int32} (hd : ∀ l k, l < n → k < n → W l = W k → l = k) (h1 : wrR n W v u) (h2 : wrR n W v x) : u = x := by
  rcases h1 with ⟨a1, a2⟩ | ⟨a1, ⟨l, a2, a3, a4⟩ | ⟨a2, a3⟩⟩ <;> rcases h2 with ⟨b1, b2⟩ | ⟨b1, ⟨k, b2, b3, b4⟩ | ⟨b2, b3⟩⟩
  · rw [a2, b2]
  · exact absurd a1 b1
  · exact absurd a1 b1
  · exact absurd b1 a1
  · rw [a4, b4, hd l k a2 b2 (by rw [a3, b3])]
  · exact absurd a3 (b2 l a2)
  · exact absurd b1 a1
  · exact absurd b3 (a2 k b2)
  · rw [a3, b3]
theorem c_wireOf (hc : zPC Q G c N I L) (hg : zPG G c N) {v : Int32} (hv : ¬ v = -1) : ∀ r w f, w + r = c 1 → r < f → (∀ k, k < w → G 3 k ≠ v) → ∃ u, zlp3 (f_X7_wireOf_2 Q) f v (nI w) I = some u ∧ wrR (c 1) (G 3) v u
  | _, _, 0, _, h, _ => absurd h (by omega)
  | 0, w, f + 1, hl, _, hk => by
    have : w = c 1 := by omega
    subst this
    refine ⟨-1, ?_, Or.inr ⟨hv, Or.inr ⟨hk, rfl⟩⟩⟩
    show f_X7_wireOf_2 Q _ v (nI (c 1)) I = _
    unfold f_X7_wireOf_2
    rw [hc.1 1 (by decide), if_pos (Int32.le_refl _)]
  | r + 1, w, f + 1, hl, hf, hk => by
    have ih := c_wireOf hc hg hv r (w + 1) f (by omega) (by omega)
    have e1 : zlp3 (f_X7_wireOf_2 Q) (f + 1) v (nI w) I = f_X7_wireOf_2 Q (zlp3 (f_X7_wireOf_2 Q) f) v (nI w) I := rfl
    rw [e1]
    generalize zlp3 (f_X7_wireOf_2 Q) f = k1 at ih ⊢
    have h8 := hg.1.2.1
    unfold f_X7_wireOf_2
    rw [hc.1 1 (by decide), if_neg (nI_ge (by omega) (by omega)), zck_t _ (zbd_nI (by omega) (by decide)), nI_clamp (by omega), hc.2.2.1 w (by omega)]
    simp only [zlt_b, nI_1]
    by_cases e : G 3 w = v
    · rw [if_pos e]
      exact ⟨_, rfl, Or.inr ⟨hv, Or.inl ⟨w, by omega, e, rfl⟩⟩⟩
    · rw [if_neg e]
      exact ih (fun k hk2 => by
        by_cases z : k = w
        · subst z; exact e
        · exact hk k (by omega))
theorem m_wireOf (hm : zPM G c N J M) (hg : zPG G c N) {v : Int32} : ∀ r w f u, w + r = c 1 → r < f → wrR w (G 3) v u → ∃ x, zlp5 f_X12_takeWire_9 f v u (nI w) J M = f_X12_takeWire_58 x (if x = -1 then 0 else 1) J M ∧ wrR (c 1) (G 3) v x
  | _, _, 0, _, _, h, _ => absurd h (by omega)
  | 0, w, f + 1, u, hl, _, hu => by
    have : w = c 1 := by omega
    subst this
    refine ⟨u, ?_, hu⟩
    show f_X12_takeWire_9 _ v u (nI (c 1)) J M = _
    unfold f_X12_takeWire_9
    rw [hm.1 1 (by decide), if_pos (Int32.le_refl _)]
    split <;> rfl
  | r + 1, w, f + 1, u, hl, hf, hu => by
    have ih := fun u => m_wireOf hm hg (v := v) r (w + 1) f u (by omega) (by omega)
    have e1 : zlp5 f_X12_takeWire_9 (f + 1) v u (nI w) J M = f_X12_takeWire_9 (zlp5 f_X12_takeWire_9 f) v u (nI w) J M := rfl
    rw [e1]
    generalize zlp5 f_X12_takeWire_9 f = k1 at ih ⊢
    have h8 := hg.1.2.1
    unfold f_X12_takeWire_9 f_X12_takeWire_39 f_X12_takeWire_40
    rw [hm.1 1 (by decide), if_neg (nI_ge (by omega) (by omega))]
    simp only [zlt_b, nI_1]
    rw [show (8 : Int32) + nI w = nI (8 + w) from nI_add 8 w, zck_t _ (zbd_nI (by omega) (by decide)), nI_clamp (by omega), hm.2.2.1 w (by omega)]
    by_cases hv : v = -1
    · rw [if_pos hv]
      rcases hu with ⟨-, b⟩ | ⟨b, -⟩
      · exact ih u (Or.inl ⟨hv, b⟩)
      · exact absurd hv b
    · rw [if_neg hv]
      by_cases e : G 3 w = v
      · rw [if_pos e]
        exact ih _ (Or.inr ⟨hv, Or.inl ⟨w, by omega, e, rfl⟩⟩)
      · rw [if_neg e]
        refine ih u ?_
        rcases hu with ⟨a, -⟩ | ⟨-, ⟨k, k1, k2, k3⟩ | ⟨k1, k2⟩⟩
        · exact absurd a hv
        · exact Or.inr ⟨hv, Or.inl ⟨k, by omega, k2, k3⟩⟩
        · refine Or.inr ⟨hv, Or.inr ⟨fun k hk => ?_, k2⟩⟩
          by_cases z : k = w
          · subst z; exact e
          · exact k1 k (by omega)
end Lk
