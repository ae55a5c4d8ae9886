/-! polygon, corner, text -/
theorem zu_r (I : zI) (p k : Nat) (v : Int32) (a j : Nat) : zu I p k v a j = if a = p ∧ j = k then v else I a j := rfl
theorem zul_r (L : zL) (p k : Nat) (v : Int64) (a j : Nat) : zul L p k v a j = if a = p ∧ j = k then v else L a j := rfl
theorem nI_s1 (n : Nat) : nI (n + 1) - 1 = nI n := nI_pred n
theorem e_below_t {a N : Nat} (h : a < N) (hN : N < 2 ^ 31) : f_X11_mustBeBelow (nI a) (nI N) = some (.inl ()) := by
  unfold f_X11_mustBeBelow
  rw [if_neg (nI_pos (by omega)), if_pos (nI_lt h hN)]
theorem e_below_f {x y : Int32} (h : x < 0 ∨ y ≤ x) : f_X11_mustBeBelow x y = some (.inr 0) := by
  unfold f_X11_mustBeBelow f_X11_mustBeBelow_9
  rcases h with h | h
  · rw [if_pos h]
  · rw [if_neg (Int32.not_lt.mpr h), ite_self]
theorem e_true_1 : f_X11_mustBeTrue 1 = some (.inl ()) := rfl
theorem e_true_0 : f_X11_mustBeTrue 0 = some (.inr 1) := rfl
theorem zi_01 : ¬ (1 : Int32) ≤ 0 := by decide
theorem zi_02 : ¬ (2 : Int32) ≤ 0 := by decide
theorem zi_03 : ¬ (3 : Int32) ≤ 0 := by decide
/-- a change of what is drawn and told alone; nothing is found after it -/
theorem inv_draw {P Q : Nat} {I J : zI} {L M : zL} (hp : zpq P Q) (h : zInvP P Q I L) (hJ : ∀ p, p ≠ 0 → ¬ (20 ≤ p ∧ p ≤ 29) → ¬ (97 ≤ p ∧ p ≤ 104) → J p = I p) (h0 : ∀ k, k ≠ 10 → J 0 k = I 0 k) (h97 : ∀ k, k ≠ 0 → k ≠ 2 → k ≠ 7 → k ≠ 30 → J 97 k = I 97 k) (hM : ∀ p, p ≠ 133 → M p = L p) (f1 : J 0 10 = 0) (f2 : J 97 30 = 0) (hd : RDraw J) (hn : RNotes J) : zInvP P Q J M := by
  obtain ⟨h1, h2, h3, h4, h5, h6, h7, h8, h9, h10⟩ := h
  have hP : (P ≠ 0 ∧ ¬ (20 ≤ P ∧ P ≤ 29) ∧ ¬ (97 ≤ P ∧ P ≤ 104)) ∧ ∀ k, k < 12 → (P + 1 + k ≠ 0 ∧ ¬ (20 ≤ P + 1 + k ∧ P + 1 + k ≤ 29) ∧ ¬ (97 ≤ P + 1 + k ∧ P + 1 + k ≤ 104)) := by rcases hp with ⟨rfl, -⟩ | ⟨rfl, -⟩ <;> (refine ⟨by omega, fun k hk => ?_⟩; omega)
  have g : ∀ p, p ≠ 0 → ¬ (20 ≤ p ∧ p ≤ 29) → ¬ (97 ≤ p ∧ p ≤ 104) → ∀ k, J p k = I p k := fun p a b c k => by rw [hJ p a b c]
  refine ⟨by rw [h0 8 (by decide)]; exact h1, by rw [g 3 (by decide) (by decide) (by decide)]; exact h2, h3.cg (h0 0 (by decide)) (h97 1 (by decide) (by decide) (by decide) (by decide)) (g 3 (by decide) (by decide) (by decide) _), h4.cg (g 1 (by decide) (by decide) (by decide) _) (h97 29 (by decide) (by decide) (by decide) (by decide)) (hJ 2 (by decide) (by decide) (by decide)) (hJ 117 (by decide) (by decide) (by decide)), hd, hn,
    h7.cg (fun k _ _ => g P hP.1.1 hP.1.2.1 hP.1.2.2 k) (fun k a b => h97 k (by omega) (by omega) (by omega) (by omega)) (fun k hk => hJ _ (hP.2 k hk).1 (hP.2 k hk).2.1 (hP.2 k hk).2.2) (fun p a b c => hJ p (by omega) (by omega) (by omega)), ⟨?_, Or.inl ⟨f1, f2⟩⟩, h9.cg (g 57 (by decide) (by decide) (by decide) _) (g 57 (by decide) (by decide) (by decide) _) (hM 58 (by decide)), ?_⟩
  · rw [h0 9 (by decide), h97 11 (by decide) (by decide) (by decide) (by decide)]; exact h8.1
  · intro hf; rw [f1] at hf; exact absurd hf (by decide)
theorem e_thr {I : zI} (k : Int32) : f_X12_thrown (zu I 97 0 k) = some k := by
  simp only [f_X12_thrown, zlt, zu_eq]
theorem inv_thr {P Q : Nat} {I : zI} {L : zL} (hp : zpq P Q) (h : zInvP P Q I L) (k : Int32) (v : Int64) : zInv (zu I 97 0 k) (zul L 133 0 v) :=
  ⟨P, Q, hp, inv_code hp h (fun p hp => by funext j; simp [zu, hp]) (fun j hj => by simp [zu, hj]) (fun p hp => by funext j; simp [zul, hp])⟩
theorem inv_thr' {P Q : Nat} {I : zI} {L : zL} (hp : zpq P Q) (h : zInvP P Q I L) (k : Int32) : zInv (zu I 97 0 k) L :=
  ⟨P, Q, hp, inv_code hp h (fun p hp => by funext j; simp [zu, hp]) (fun j hj => by simp [zu, hj]) (fun p hp => rfl)⟩
theorem e_poly_31 {v1 w1 : Int32} {I : zI} (h : ¬ w1 ≤ 0) : f_X12_polygon_31 v1 w1 I = some (0, zu I 97 0 w1) := by
  simp only [f_X12_polygon_31, zlt, zu_eq]
  rw [if_neg h]
theorem sx_polygon : Sx_polygon zInv := by
  rintro I L x ⟨P, Q, hp, h⟩
  obtain ⟨ni, b1, b2, b3, b4, -⟩ := h.2.2.1
  obtain ⟨n, a1, a2, a3, a5, a4⟩ := h.2.2.2.2.1
  rcases pk_ix x (n := ni) (by omega) with hx | hx | ⟨i, hi, rfl⟩
  · refine ⟨1, 1, I, L, 0, zu I 97 0 1, by omega, ?_, ?_, e_thr _, fun z => absurd z (by decide), inv_thr' hp h 1⟩
    · simp only [w_polygon, f_X11_polygon, e_below_f (Or.inl hx), zb1, zb2, zsm, Option.bind_some, if_true]
    · unfold f_X12_polygon f_X12_polygon_13; rw [if_pos hx, e_poly_31 zi_01]
  · have hx0 : I 0 0 ≤ x := by rw [b3]; exact hx
    refine ⟨1, 1, I, L, 0, zu I 97 0 1, by omega, ?_, ?_, e_thr _, fun z => absurd z (by decide), inv_thr' hp h 1⟩
    · simp only [w_polygon, f_X11_polygon, e_below_f (Or.inr hx0), zb1, zb2, zsm, Option.bind_some, if_true]
    · unfold f_X12_polygon f_X12_polygon_13; rw [b4, e_poly_31 zi_01, if_neg (Int32.not_lt.mpr hx), ite_self]
  · have e1 : f_X11_mustBeBelow (nI i) (I 0 0) = some (.inl ()) := by rw [b3]; exact e_below_t hi (by omega)
    rcases Nat.lt_or_ge n 60 with hn | hn
    · have l1 : ¬ (60 : Int32) ≤ nI n := nI_ge (b := 60) hn (by decide)
      have l2 : ¬ nI n = 60 := fun z => by have := (nI_eq (b := 60) (by omega) (by decide)).mp z; omega
      refine ⟨0, 0, zu (zu (zu I 0 10 0) 21 n (nI i)) 20 5 (nI (n + 1)), zul L 133 0 (nI n).toInt64, nI n, zu (zu (zu (zu (zu (zu (zu (zu I 0 10 0) 21 n (nI i)) 20 5 (nI (n + 1))) 97 0 0) 98 n (nI i)) 99 n 0) 97 2 (nI (n + 1))) 97 30 0, by omega, ?_, ?_, ?_, fun _ => zul_eq _ _ _ _, P, Q, hp, inv_draw hp h ?_ ?_ ?_ ?_ ?_ ?_ ?_ ?_⟩
      · simp only [w_polygon, f_X11_polygon, e1, zb1, zb2, zsm, Option.bind_some, a2, if_neg l1, f_X11_polygon_25, e_true_1, zlt, f_X1_add]
        have q1 : zu I 0 10 0 20 5 = nI n := by rw [zu_p _ _ (by decide), a2]
        rw [q1, zck_t _ (zbd_nI hn (by decide)), nI_clamp (by omega)]
        simp only [Option.bind_some]
        rw [zu_p _ _ (by decide), q1, zu_eq, nI_1, show (1 : Int32) = nI 1 from rfl, pk_sub (by omega)]
        rfl
      · have q1 : ∀ v, zu (zu (zu (zu I 0 10 0) 21 n (nI i)) 20 5 (nI (n + 1))) 97 0 v 97 2 = nI n := fun v => by simp [zu, a3]
        have q3 : zu (zu (zu I 0 10 0) 21 n (nI i)) 20 5 (nI (n + 1)) 97 1 = nI ni := by simp [zu, b4]
        have q4 : zu (zu (zu I 0 10 0) 21 n (nI i)) 20 5 (nI (n + 1)) 97 2 = nI n := by simp [zu, a3]
        unfold f_X12_polygon
        rw [if_neg (nI_pos (by omega)), q3, if_pos (nI_lt hi (by omega)), q4, if_neg l2]
        simp only [f_X12_polygon_31, zlt, zu_eq]
        rw [if_pos (by decide), q1, zck_t _ (zbd_nI hn (by decide)), nI_clamp (by omega), zu_p _ _ (by decide), q1, zck_t _ (zbd_nI hn (by decide)), nI_clamp (by omega)]
        simp [zu_r, a3, nI_1, nI_s1]
      · simp [f_X12_thrown, zlt, zu]
      · intro p c1 c2 c3; funext k; simp only [zu]; simp [c1, show p ≠ 97 by omega, show p ≠ 99 by omega, show p ≠ 98 by omega, show p ≠ 20 by omega, show p ≠ 21 by omega]
      · intro k hk; simp [zu, hk]
      · intro k c1 c2 c3 c4; simp [zu, c1, c2, c4]
      · intro p hp; funext k; simp [zul, hp]
      · simp [zu]
      · simp [zu]
      · refine ⟨n + 1, by omega, by simp [zu], by simp [zu], ?_, ?_⟩
        · intro p q1 q2
          have := a5 p (by omega) q2
          simpa [zu] using this
        · intro p hpn
          rcases Nat.lt_or_ge p n with q | q
          · have := a4 p q
            have ne : p ≠ n := by omega
            simpa [zu, ne] using this
          · have : p = n := by omega
            subst this
            refine ⟨⟨i, by omega, by simp [zu], by simp [zu]⟩, 0, by omega, ?_, by simp [zu, nI_0], fun k hk => absurd hk (by omega)⟩
            have := a5 p (Nat.le_refl _) hn
            simpa [zu] using this
      · exact h.2.2.2.2.2.1.cg (by simp [zu]) (by simp [zu]) (fun p hp => by funext k; simp only [zu]; simp [show p ≠ 97 by omega, show p ≠ 99 by omega, show p ≠ 98 by omega, show p ≠ 20 by omega, show p ≠ 21 by omega, show p ≠ 0 by omega])
    · have : n = 60 := by omega
      subst this
      refine ⟨2, 1, I, L, 0, zu I 97 0 2, by omega, ?_, ?_, e_thr _, fun z => absurd z (by decide), inv_thr' hp h 2⟩
      · simp only [w_polygon, f_X11_polygon, e1, zb1, zb2, zsm, Option.bind_some, a2, if_pos (show (60 : Int32) ≤ nI 60 by decide), f_X11_polygon_25, e_true_0, if_true]
        rfl
      · unfold f_X12_polygon; rw [if_neg (nI_pos (by omega)), b4, if_pos (nI_lt hi (by omega)), a3, if_pos (show nI 60 = 60 from rfl), e_poly_31 zi_02]
