/-! the words of a tape: the reference's cursor -/
def Fx (n m : Nat) (F : Nat → Nat) (j : Nat) : Nat := if j < m then F j else n
def wS (T : Nat → Nat) (m : Nat) (F E : Nat → Nat) (j : Nat) : Nat := if j < m then (if kl (T (F j)) = 1 then (if E j - F j ≤ 8 then 1 else 5) else if kl (T (F j)) = 2 then (if E j - F j ≤ 6 then 2 else 5) else 3) else 0
def wG (T F E : Nat → Nat) (j : Nat) : List Nat := lw T (F j) (E j - F j)
def wV (T F E : Nat → Nat) (j : Nat) : Nat := if kl (T (F j)) = 2 then nw T (F j) (E j - F j) else T (F j)
/-- the tape that the reference reads -/
def RT (T : Nat → Nat) (n : Nat) (J : zI) : Prop := J 97 29 = nI n ∧ ∀ k, k < n → T k < 127 ∧ J 117 k = nI (T k)
def RC (T : Nat → Nat) (n m : Nat) (F E : Nat → Nat) (j : Nat) (J : zI) : Prop := RT T n J ∧ J 97 46 = nI (Fx n m F j) ∧ J 97 47 = nI (Fx n m E j) ∧ J 97 48 = nI j
theorem RT.cg {T : Nat → Nat} {n : Nat} {I J : zI} (h : RT T n I) (e1 : J 97 29 = I 97 29) (e2 : J 117 = I 117) : RT T n J := by
  unfold RT at *; rw [e1, e2]; exact h
theorem tok_E {T : Nat → Nat} {n m : Nat} {F E : Nat → Nat} (h : Tok T n m F E) {j : Nat} (hj : j ≤ m) : pe E j ≤ Fx n m F j ∧ Fx n m F j ≤ Fx n m E j ∧ Fx n m E j ≤ n := by
  unfold Fx
  by_cases z : j < m
  · rw [if_pos z, if_pos z]
    obtain ⟨a1, a2, a3, -⟩ := h.1 j z
    omega
  · have : j = m := by omega
    subst this
    rw [if_neg z, if_neg z]
    exact ⟨h.2.2, Nat.le_refl _, Nat.le_refl _⟩
theorem n_126 {T : Nat → Nat} {n m : Nat} {F E : Nat → Nat} (hn : n ≤ 800) (ht : Tok T n m F E) {j : Nat} (hj : j < m) {v1 v2 : Int32} (h1 : v1 = if kl (T (F j)) = 1 then 1 else 0) (h2 : v2 = if kl (T (F j)) = 2 then 1 else 0) :
    ∀ r t J f, t + r = E j → F j < t → r < f → RT T n J → J 97 47 = nI t → ∃ J', zlp3 f_X12_next_126 f v1 v2 J = some J' ∧ J' 97 47 = nI (E j) ∧ (∀ p, p ≠ 97 → J' p = J p) ∧ ∀ k, k ≠ 47 → J' 97 k = J 97 k
  | _, _, _, 0, _, _, h, _, _ => absurd h (by omega)
  | r, t, J, f + 1, htr, hFt, hf, hT, h47 => by
    obtain ⟨a1, a2, a3, a4, a5, a6, a7⟩ := ht.1 j hj
    have e1 : zlp3 f_X12_next_126 (f + 1) v1 v2 J = f_X12_next_126 (zlp3 f_X12_next_126 f) v1 v2 J := rfl
    rw [e1]
    have ih : r ≠ 0 → ∀ J', RT T n J' → J' 97 47 = nI (t + 1) → ∃ J'', zlp3 f_X12_next_126 f v1 v2 J' = some J'' ∧ J'' 97 47 = nI (E j) ∧ (∀ p, p ≠ 97 → J'' p = J' p) ∧ ∀ k, k ≠ 47 → J'' 97 k = J' 97 k := by
      intro hr J' hT' h47'
      obtain ⟨r, rfl⟩ : ∃ q, r = q + 1 := ⟨r - 1, by omega⟩
      exact n_126 hn ht hj h1 h2 r (t + 1) J' f (by omega) (by omega) (by omega) hT' h47'
    generalize zlp3 f_X12_next_126 f = k1 at ih ⊢
    unfold f_X12_next_126 f_X12_next_156 f_X12_next_175 f_X12_next_188
    rw [hT.1, h47]
    by_cases hr : r = 0
    · subst hr
      have htE : t = E j := by omega
      by_cases htn : t = n
      · rw [if_pos (nI_le (by omega) (by omega))]
        exact ⟨J, rfl, by rw [h47, htE], fun _ _ => rfl, fun _ _ => rfl⟩
      · obtain ⟨c1, c2⟩ := hT.2 t (by omega)
        rw [if_neg (nI_ge (by omega) (by omega))]
        simp only [zlt_b]
        rw [zck_t _ (zbd_nI (show t < 800 by omega) (by decide)), zck_t _ (zbd_nI (show t < 800 by omega) (by decide)), nI_clamp (show t < 2 ^ 31 by omega), c2, e_letter c1, e_digit c1]
        simp only [zb1, Option.bind_some]
        have nx := a7 (by omega)
        rw [← htE] at nx
        refine ⟨J, ?_, by rw [h47, htE], fun _ _ => rfl, fun _ _ => rfl⟩
        by_cases q1 : kl (T (F j)) = 1
        · have w : ¬ kl (T t) = 1 := fun z => nx ⟨by omega, by omega⟩
          have v2z : v2 = 0 := by rw [h2, if_neg (by omega)]
          rw [h1, if_pos q1, if_neg n10, if_neg w, if_pos rfl, v2z, if_pos rfl]
        · rw [h1, if_neg q1, if_pos rfl]
          by_cases q2 : kl (T (F j)) = 2
          · have w : ¬ kl (T t) = 2 := fun z => nx ⟨by omega, by omega⟩
            rw [h2, if_pos q2, if_neg n10, if_neg w, if_pos rfl]
          · rw [h2, if_neg q2, if_pos rfl]
    · obtain ⟨c1, c2⟩ := hT.2 t (by omega)
      obtain ⟨b1, b2⟩ := a6 t hFt (by omega)
      have hs : (kl (T (F j)) = 1 ∧ kl (T t) = 1) ∨ (¬ kl (T (F j)) = 1 ∧ kl (T (F j)) = 2 ∧ kl (T t) = 2) := by
        rcases kl_cases (T (F j)) with q | q | q | q <;> omega
      rw [if_neg (nI_ge (by omega) (by omega))]
      simp only [zlt_b]
      rw [zck_t _ (zbd_nI (show t < 800 by omega) (by decide)), zck_t _ (zbd_nI (show t < 800 by omega) (by decide)), nI_clamp (show t < 2 ^ 31 by omega), c2, e_letter c1, e_digit c1]
      simp only [zb1, Option.bind_some, nI_1]
      obtain ⟨J', g1, g2, g3, g4⟩ := ih hr (zu J 97 47 (nI (t + 1))) (hT.cg (zu_k _ _ (by decide) _) (zu_pf _ _ (by decide))) (zu_eq _ _ _ _)
      refine ⟨J', ?_, g2, fun p hp => by rw [g3 p hp, zu_pf _ _ hp], fun k hk => by rw [g4 k hk, zu_k _ _ hk]⟩
      rcases hs with ⟨q1, q2⟩ | ⟨q1, q2, q3⟩
      · rw [h1, if_pos q1, if_neg n10, if_pos q2, if_neg n10, ← h1.trans (if_pos q1)]; exact g1
      · rw [h1, if_neg q1, if_pos rfl, h2, if_pos q2, if_neg n10, if_pos q3, if_neg n10, ← h1.trans (if_neg q1), ← h2.trans (if_pos q2)]; exact g1
theorem n_70 {T : Nat → Nat} {n m : Nat} {F E : Nat → Nat} (hn : n ≤ 800) (ht : Tok T n m F E) {j : Nat} (hj : j ≤ m) {J : zI} (hT : RT T n J) (h46 : J 97 46 = nI (Fx n m F j)) : ∃ J', f_X12_next_70 J = some J' ∧ J' 97 47 = nI (Fx n m E j) ∧ (∀ p, p ≠ 97 → J' p = J p) ∧ ∀ k, k ≠ 47 → J' 97 k = J 97 k := by
  unfold f_X12_next_70
  have q46 : ∀ v, zu J 97 47 v 97 46 = nI (Fx n m F j) := fun v => by rw [zu_k _ _ (by decide)]; exact h46
  have q29 : ∀ v, zu J 97 47 v 97 29 = nI n := fun v => by rw [zu_k _ _ (by decide)]; exact hT.1
  simp only [zlt_b]
  rw [q46, q29, h46, zu_eq]
  by_cases hm : j < m
  · obtain ⟨a1, a2, a3, a4, a5, a6, a7⟩ := ht.1 j hm
    have ef : Fx n m F j = F j := if_pos hm
    have ee : Fx n m E j = E j := if_pos hm
    obtain ⟨c1, c2⟩ := hT.2 (F j) (by omega)
    have c3 : ∀ v, zu J 97 47 v 117 (F j) = nI (T (F j)) := fun v => by rw [zu_p _ _ (by decide)]; exact c2
    rw [ef, ee, if_neg (fun z => by have := (nI_eq (by omega) (by omega)).mp z; omega), zck_t _ (zbd_nI (show F j < 800 by omega) (by decide)), nI_clamp (show F j < 2 ^ 31 by omega), c3, e_letter c1]
    simp only [zb1, Option.bind_some]
    rw [zck_t _ (zbd_nI (show F j < 800 by omega) (by decide)), e_digit c1]
    simp only [Option.bind_some, nI_1]
    obtain ⟨J', g1, g2, g3, g4⟩ := n_126 hn ht hm rfl rfl (E j - (F j + 1)) (F j + 1) (zu (zu J 97 47 (nI (F j))) 97 47 (nI (F j + 1))) zF (by omega) (by omega) (zF_lt (by omega)) (hT.cg (by simp [zu]) (by funext k; simp [zu])) (zu_eq _ _ _ _)
    exact ⟨J', g1, g2, fun p hp => by rw [g3 p hp, zu_pf _ _ hp, zu_pf _ _ hp], fun k hk => by rw [g4 k hk, zu_k _ _ hk, zu_k _ _ hk]⟩
  · have ef : Fx n m F j = n := if_neg hm
    have ee : Fx n m E j = n := if_neg hm
    rw [ef, ee, if_pos rfl]
    exact ⟨_, rfl, zu_eq _ _ _ _, fun p hp => zu_pf _ _ hp, fun k hk => zu_k _ _ hk _⟩
theorem n_18 {T : Nat → Nat} {n m : Nat} {F E : Nat → Nat} (hn : n ≤ 800) (ht : Tok T n m F E) {j : Nat} (hj : j ≤ m) :
    ∀ r t J f, t + r = Fx n m F j → pe E j ≤ t → r < f → RT T n J → J 97 46 = nI t → ∃ J', zlp1 f_X12_next_18 f J = some J' ∧ J' 97 46 = nI (Fx n m F j) ∧ J' 97 47 = nI (Fx n m E j) ∧ (∀ p, p ≠ 97 → J' p = J p) ∧ ∀ k, k ≠ 46 → k ≠ 47 → J' 97 k = J 97 k
  | _, _, _, 0, _, _, h, _, _ => absurd h (by omega)
  | r, t, J, f + 1, htr, hpt, hf, hT, h46 => by
    have te := tok_E ht hj
    have e1 : zlp1 f_X12_next_18 (f + 1) J = f_X12_next_18 (zlp1 f_X12_next_18 f) J := rfl
    rw [e1]
    have ih : r ≠ 0 → ∀ J', RT T n J' → J' 97 46 = nI (t + 1) → ∃ J'', zlp1 f_X12_next_18 f J' = some J'' ∧ J'' 97 46 = nI (Fx n m F j) ∧ J'' 97 47 = nI (Fx n m E j) ∧ (∀ p, p ≠ 97 → J'' p = J' p) ∧ ∀ k, k ≠ 46 → k ≠ 47 → J'' 97 k = J' 97 k := by
      intro hr J' hT' h46'
      obtain ⟨r, rfl⟩ : ∃ q, r = q + 1 := ⟨r - 1, by omega⟩
      exact n_18 hn ht hj r (t + 1) J' f (by omega) (by omega) (by omega) hT' h46'
    generalize zlp1 f_X12_next_18 f = k1 at ih ⊢
    unfold f_X12_next_18 f_X12_next_57
    rw [hT.1, h46]
    by_cases hr : r = 0
    · have htF : t = Fx n m F j := by omega
      obtain ⟨J', g1, g2, g3, g4⟩ := n_70 hn ht hj hT (by rw [h46, htF])
      have fin : ∃ J', f_X12_next_70 J = some J' ∧ J' 97 46 = nI (Fx n m F j) ∧ J' 97 47 = nI (Fx n m E j) ∧ (∀ p, p ≠ 97 → J' p = J p) ∧ ∀ k, k ≠ 46 → k ≠ 47 → J' 97 k = J 97 k := ⟨J', g1, by rw [g4 46 (by decide), h46, htF], g2, g3, fun k _ hk => g4 k hk⟩
      by_cases htn : t = n
      · rw [if_pos (nI_le (by omega) (by omega))]; exact fin
      · have hm : j < m := by
          by_cases z : j < m
          · exact z
          · unfold Fx at htF; rw [if_neg z] at htF; exact absurd htF htn
        obtain ⟨a1, a2, a3, a4, a5, a6, a7⟩ := ht.1 j hm
        have ef : Fx n m F j = F j := if_pos hm
        obtain ⟨c1, c2⟩ := hT.2 t (by omega)
        rw [if_neg (nI_ge (by omega) (by omega))]
        simp only [zlt_b]
        rw [zck_t _ (zbd_nI (show t < 800 by omega) (by decide)), zck_t _ (zbd_nI (show t < 800 by omega) (by decide)), nI_clamp (show t < 2 ^ 31 by omega), c2]
        have k4 : kl (T t) ≠ 4 := by rw [htF, ef]; exact a5
        have w1 : ¬ nI (T t) = 32 := fun z => k4 (by rw [(nI_eq (b := 32) (by omega) (by decide)).mp z]; rfl)
        have w2 : ¬ nI (T t) = 10 := fun z => k4 (by rw [(nI_eq (b := 10) (by omega) (by decide)).mp z]; rfl)
        rw [if_neg w1, if_neg w2]; exact fin
    · obtain ⟨c1, c2⟩ := hT.2 t (by omega)
      have k4 : kl (T t) = 4 := by
        by_cases hm : j < m
        · obtain ⟨a1, a2, a3, a4, a5, a6, a7⟩ := ht.1 j hm
          have ef : Fx n m F j = F j := if_pos hm
          exact a4 t hpt (by omega)
        · have : j = m := by omega
          subst this
          exact ht.2.1 t hpt (by omega)
      rw [if_neg (nI_ge (by omega) (by omega))]
      simp only [zlt_b, nI_1]
      rw [zck_t _ (zbd_nI (show t < 800 by omega) (by decide)), zck_t _ (zbd_nI (show t < 800 by omega) (by decide)), nI_clamp (show t < 2 ^ 31 by omega), c2]
      obtain ⟨J', g1, g2, g3, g4, g5⟩ := ih hr (zu J 97 46 (nI (t + 1))) (hT.cg (zu_k _ _ (by decide) _) (zu_pf _ _ (by decide))) (zu_eq _ _ _ _)
      refine ⟨J', ?_, g2, g3, fun p hp => by rw [g4 p hp, zu_pf _ _ hp], fun k k1 k2 => by rw [g5 k k1 k2, zu_k _ _ k1]⟩
      rcases kl_cases (T t) with q | q | q | ⟨-, q⟩
      · omega
      · omega
      · omega
      · rcases q with q | q
        · rw [q, if_pos (show nI 32 = 32 from rfl)]; exact g1
        · rw [q, if_neg (by decide), if_pos (show nI 10 = 10 from rfl)]; exact g1
theorem e_next {T : Nat → Nat} {n m : Nat} {F E : Nat → Nat} (hn : n ≤ 800) (ht : Tok T n m F E) {j : Nat} (hj : j ≤ m) {J : zI} (hT : RT T n J) (h47 : J 97 47 = nI (pe E j)) (h48 : J 97 48 + 1 = nI j) : ∃ J', f_X12_next J = some J' ∧ RC T n m F E j J' ∧ (∀ p, p ≠ 97 → J' p = J p) ∧ ∀ k, k ≠ 46 → k ≠ 47 → k ≠ 48 → J' 97 k = J 97 k := by
  have te := tok_E ht hj
  unfold f_X12_next
  simp only [zlt_b]
  have q47 : ∀ v, zu J 97 48 v 97 47 = nI (pe E j) := fun v => by rw [zu_k _ _ (by decide)]; exact h47
  rw [h48, q47]
  obtain ⟨J', g1, g2, g3, g4, g5⟩ := n_18 hn ht hj (Fx n m F j - pe E j) (pe E j) (zu (zu J 97 48 (nI j)) 97 46 (nI (pe E j))) zF (by omega) (Nat.le_refl _) (zF_lt (by omega)) (hT.cg (by simp [zu]) (by funext k; simp [zu])) (zu_eq _ _ _ _)
  refine ⟨J', g1, ⟨hT.cg (by rw [g5 29 (by decide) (by decide)]; simp [zu]) (by rw [g4 117 (by decide)]; funext k; simp [zu]), g2, g3, by rw [g5 48 (by decide) (by decide)]; simp [zu]⟩, fun p hp => by rw [g4 p hp, zu_pf _ _ hp, zu_pf _ _ hp], fun k k1 k2 k3 => by rw [g5 k k1 k2, zu_k _ _ k1, zu_k _ _ k3]⟩
