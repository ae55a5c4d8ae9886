/-! the words of a tape: the class's split -/
def kl (c : Nat) : Nat := if 97 ≤ c ∧ c ≤ 122 then 1 else if 48 ≤ c ∧ c ≤ 57 then 2 else if c = 32 ∨ c = 10 then 4 else 3
theorem kl_cases (c : Nat) : (kl c = 1 ∧ 97 ≤ c ∧ c ≤ 122) ∨ (kl c = 2 ∧ 48 ≤ c ∧ c ≤ 57) ∨ (kl c = 3 ∧ ¬ (97 ≤ c ∧ c ≤ 122) ∧ ¬ (48 ≤ c ∧ c ≤ 57) ∧ c ≠ 32 ∧ c ≠ 10) ∨ (kl c = 4 ∧ (c = 32 ∨ c = 10)) := by
  unfold kl
  split
  · rename_i h; exact Or.inl ⟨rfl, h⟩
  · split
    · rename_i h; exact Or.inr (Or.inl ⟨rfl, h⟩)
    · split
      · rename_i h; exact Or.inr (Or.inr (Or.inr ⟨rfl, h⟩))
      · rename_i h1 h2 h3; exact Or.inr (Or.inr (Or.inl ⟨rfl, h1, h2, fun z => h3 (Or.inl z), fun z => h3 (Or.inr z)⟩))
theorem e_sort {c : Nat} (h : c < 127) : f_X10_sortOf (nI c) = some (nI (kl c)) := by
  have hd : ∀ c, c < 127 → f_X10_sortOf (nI c) = some (nI (kl c)) := by decide +kernel
  exact hd c h
theorem e_letter {c : Nat} (h : c < 127) : f_X12_isLetter (nI c) = some (if kl c = 1 then 1 else 0) := by
  have hd : ∀ c, c < 127 → f_X12_isLetter (nI c) = some (if kl c = 1 then 1 else 0) := by decide +kernel
  exact hd c h
theorem e_digit {c : Nat} (h : c < 127) : f_X12_isDigit (nI c) = some (if kl c = 2 then 1 else 0) := by
  have hd : ∀ c, c < 127 → f_X12_isDigit (nI c) = some (if kl c = 2 then 1 else 0) := by decide +kernel
  exact hd c h
def pe (E : Nat → Nat) : Nat → Nat
  | 0 => 0
  | j + 1 => E j
def Tok (T : Nat → Nat) (a m : Nat) (F E : Nat → Nat) : Prop :=
  (∀ j, j < m → pe E j ≤ F j ∧ F j < E j ∧ E j ≤ a ∧ (∀ k, pe E j ≤ k → k < F j → kl (T k) = 4) ∧ kl (T (F j)) ≠ 4 ∧ (∀ k, F j < k → k < E j → kl (T k) = kl (T (F j)) ∧ kl (T (F j)) ≠ 3) ∧ (E j < a → ¬ (kl (T (E j)) = kl (T (F j)) ∧ kl (T (F j)) ≠ 3))) ∧ (∀ k, pe E m ≤ k → k < a → kl (T k) = 4) ∧ pe E m ≤ a
def lw (T : Nat → Nat) (f : Nat) : Nat → List Nat
  | 0 => []
  | i + 1 => (T (f + i) - 96) :: lw T f i
def nw (T : Nat → Nat) (f : Nat) : Nat → Nat
  | 0 => 0
  | i + 1 => 10 * nw T f i + (T (f + i) - 48)
def cW (T : Nat → Nat) (I : zI) (L : zL) (j f n : Nat) : Prop :=
  (kl (T f) = 1 → (n ≤ 8 → I 5 j = nI 1 ∧ L 6 j = lN (cR 32 (lw T f n))) ∧ (8 < n → I 5 j = nI 5)) ∧ (kl (T f) = 2 → (n ≤ 6 → I 5 j = nI 2 ∧ L 6 j = lN (nw T f n)) ∧ (6 < n → I 5 j = nI 5)) ∧ (kl (T f) = 3 → I 5 j = nI 3 ∧ L 6 j = lN (T f))
theorem cW_cg {T : Nat → Nat} {I J : zI} {L M : zL} {j f n : Nat} (h : cW T I L j f n) (e1 : J 5 j = I 5 j) (e2 : M 6 j = L 6 j) : cW T J M j f n := by
  unfold cW at *; rw [e1, e2]; exact h
theorem e_wL (x : Int64) (y : Int32) : f_X10_withLetter x y = some (x <<< ((5 : Int32).toInt64 &&& 63) + (y - 97 + 1).toInt64) := by
  unfold f_X10_withLetter
  simp only [zlt_b]
def vW (c : Nat) : Nat := if kl c = 1 then c - 96 else if kl c = 2 then c - 48 else c
theorem nI_dl {c b : Nat} (h : b ≤ c) (hc : c < 127) : (nI c - nI b).toInt64 = lN (c - b) := by
  rw [pk_sub h, nI_l (by omega)]
/-- a new word -/
theorem e_addNew {I : zI} {L : zL} {m c : Nat} (hc : c < 127) (hk : kl c ≠ 4) (h1 : I 4 3 = 0) (h2 : I 4 2 = nI m) (hm : m ≤ 800) :
    f_X10_addCharacter (nI (kl c)) (nI c) I L = some (zu (zu (zu I 5 m (nI (kl c))) 4 2 (nI (m + 1))) 4 3 (nI 1), zul (zul L 6 m 0) 6 m (lN (vW c))) := by
  have hb : zbd (nI m) 801 = true := zbd_nI (by omega) (by decide)
  have hcl : (nI m).toNatClampNeg = m := nI_clamp (by omega)
  have q1 : ∀ v, zu I 5 m v 4 2 = nI m := fun v => by simp [zu, h2]
  unfold f_X10_addCharacter
  rw [if_pos h1, h2]
  simp only [zlt_b, q1, hcl, nI_1]
  rw [zck_t _ hb, zck_t _ hb]
  have q2 : ∀ v, zu (zu I 5 m v) 4 2 (nI (m + 1)) 4 2 = nI (m + 1) := fun v => zu_eq _ _ _ _
  have q3 : ∀ v, zu (zu I 5 m v) 4 2 (nI (m + 1)) 4 3 = 0 := fun v => by simp [zu, h1]
  have q4 : (0 : Int32) + 1 = nI 1 := rfl
  have q5 : zul L 6 m 0 6 m = lN 0 := zul_eq _ _ _ _
  unfold f_X10_addCharacter_37
  simp only [zlt_b, q2, q3, q4, nI_s1, hcl, q5]
  have n1 : nI 1 = 1 := rfl
  have n2 : nI 2 = 2 := rfl
  have l3 : ∀ J : zI, zu J 4 3 (nI 1) 4 3 = nI 1 := fun J => zu_eq _ _ _ _
  rcases kl_cases c with ⟨e, a, b⟩ | ⟨e, a, b⟩ | ⟨e, -⟩ | ⟨e, -⟩
  · have ev : vW c = c - 96 := by unfold vW; rw [if_pos e]
    rw [e, if_pos n1, zck_t _ hb, e_wL]
    simp only [zb1, Option.bind_some]
    rw [zck_t _ hb]
    have : lN 0 <<< ((5 : Int32).toInt64 &&& 63) + (nI c - 97 + 1).toInt64 = lN (vW c) := by
      have := e_withLetter (v := 0) (d := c - 96) (by omega) (by omega)
      rw [e_wL, show 96 + (c - 96) = c by omega] at this
      rw [ev]
      have := Option.some.inj this
      rw [this]; congr 1; omega
    rw [this]
    unfold f_X10_addCharacter_110 f_X10_addCharacter_124 f_X10_addCharacter_145
    rw [if_pos n1, l3, if_neg (by decide), if_neg (by decide)]
  · have ev : vW c = c - 48 := by unfold vW; rw [if_neg (by rw [e]; decide), if_pos e]
    rw [e, if_neg (by decide), if_pos n2, zck_t _ hb]
    have : lN 0 * 10 + (nI c - 48).toInt64 = lN (vW c) := by
      rw [show (48 : Int32) = nI 48 from rfl, nI_dl (by omega) hc, ev, show (10 : Int64) = lN 10 from rfl, lN_mul, lN_add]
      congr 1; omega
    rw [this]
    unfold f_X10_addCharacter_109
    rw [zck_t _ hb]
    simp only [zlt_b, hcl]
    unfold f_X10_addCharacter_110 f_X10_addCharacter_124 f_X10_addCharacter_145
    rw [if_neg (by decide), if_pos n2, l3, if_pos (by decide)]
  · have ev : vW c = c := by unfold vW; rw [if_neg (by rw [e]; decide), if_neg (by rw [e]; decide)]
    rw [e, if_neg (by decide), if_neg (by decide), nI_l (by omega), ev]
    unfold f_X10_addCharacter_109
    rw [zck_t _ hb]
    simp only [zlt_b, hcl]
    unfold f_X10_addCharacter_110 f_X10_addCharacter_124 f_X10_addCharacter_145
    rw [if_neg (by decide), if_neg (by decide)]
  · exact absurd e hk
/-- one more character of a word -/
theorem e_addMore {I : zI} {L : zL} {m c n : Nat} (hc : c < 127) (hk : kl c = 1 ∨ kl c = 2) (hn : 1 ≤ n) (hn2 : n < 801) (h1 : I 4 3 = nI n) (h2 : I 4 2 = nI (m + 1)) (hm : m ≤ 800) :
    ∃ x, f_X10_addCharacter (nI (kl c)) (nI c) I L = some ((if (kl c = 1 ∧ 8 < n + 1) ∨ (kl c = 2 ∧ 6 < n + 1) then zu (zu I 4 3 (nI (n + 1))) 5 m (nI 5) else zu I 4 3 (nI (n + 1))), zul L 6 m x) ∧ ∀ v, L 6 m = lN v → x = lN (if kl c = 1 then 32 * v + (c - 96) else 10 * v + (c - 48)) := by
  have hb : zbd (nI m) 801 = true := zbd_nI (by omega) (by decide)
  have hcl : (nI m).toNatClampNeg = m := nI_clamp (by omega)
  unfold f_X10_addCharacter
  rw [h1, if_neg (nI_ne0 (by omega) (by omega))]
  unfold f_X10_addCharacter_37
  simp only [zlt_b, h1, h2, nI_1, nI_s1, hcl]
  have l3 : ∀ J : zI, zu J 4 3 (nI (n + 1)) 4 3 = nI (n + 1) := fun J => zu_eq _ _ _ _
  rcases hk with e | e
  · refine ⟨(L 6 m) <<< ((5 : Int32).toInt64 &&& 63) + (nI c - 97 + 1).toInt64, ?_, ?_⟩
    · rw [e, if_pos (show nI 1 = 1 from rfl), zck_t _ hb, e_wL]
      simp only [zb1, Option.bind_some]
      rw [zck_t _ hb]
      unfold f_X10_addCharacter_110 f_X10_addCharacter_124 f_X10_addCharacter_138 f_X10_addCharacter_145
      rw [if_pos (show nI 1 = 1 from rfl), l3, zck_t _ hb]
      by_cases h8 : 8 < n + 1
      · rw [if_pos (show (8 : Int32) < nI (n + 1) from nI_lt (a := 8) h8 (by omega)), if_pos (Or.inl ⟨by first | rfl | trivial, h8⟩)]
        simp only [zlt_b, hcl]
        rfl
      · rw [if_neg (show ¬ (8 : Int32) < nI (n + 1) from nI_nlt (a := 8) (by omega) (by omega)), if_neg (by decide), if_neg (fun z => by omega)]
    · intro v hv
      rw [hv, lM_shl, e, if_pos rfl]
      have a := (kl_cases c).elim (fun z => z) (fun z => absurd e (by rcases z with z | z | z <;> rw [z.1] <;> decide))
      have := e_withLetter (v := v) (d := c - 96) (by omega) (by omega)
      rw [e_wL, show 96 + (c - 96) = c by omega, lM_shl] at this
      exact Option.some.inj this
  · refine ⟨L 6 m * 10 + (nI c - 48).toInt64, ?_, ?_⟩
    · rw [e, if_neg (by decide), if_pos (show nI 2 = 2 from rfl), zck_t _ hb]
      unfold f_X10_addCharacter_109
      rw [zck_t _ hb]
      simp only [zlt_b, hcl]
      unfold f_X10_addCharacter_110 f_X10_addCharacter_124 f_X10_addCharacter_138 f_X10_addCharacter_145
      rw [if_neg (by decide), if_pos (show nI 2 = 2 from rfl), l3, zck_t _ hb]
      by_cases h6 : 6 < n + 1
      · rw [if_neg (show ¬ nI (n + 1) ≤ (6 : Int32) from nI_ge (a := 6) h6 (by omega)), if_pos (Or.inr ⟨by first | rfl | trivial, h6⟩)]
        simp only [zlt_b, hcl]
        rfl
      · rw [if_pos (show nI (n + 1) ≤ (6 : Int32) from nI_le (b := 6) (by omega) (by omega)), if_neg (fun z => by omega)]
    · intro v hv
      have a : 48 ≤ c := by rcases kl_cases c with z | z | z | z <;> omega
      rw [hv, e, if_neg (by decide), show (48 : Int32) = nI 48 from rfl, nI_dl a hc, show (10 : Int64) = lN 10 from rfl, lN_mul, lN_add, Nat.mul_comm]
def zSI (T : Nat → Nat) (I0 : zI) (L0 : zL) (a m : Nat) (F E : Nat → Nat) (I : zI) (L : zL) (b : Nat) : Prop :=
  m ≤ a ∧ Tok T a m F E ∧ I 4 2 = nI m ∧ (b = if a = 0 then 4 else kl (T (a - 1))) ∧ (b ≠ 4 → 0 < m ∧ E (m - 1) = a ∧ I 4 3 = nI (a - F (m - 1)) ∧ kl (T (F (m - 1))) = b) ∧ (∀ j, j < m → cW T I L j (F j) (E j - F j)) ∧ (∀ p, p ≠ 4 → p ≠ 5 → I p = I0 p) ∧ (∀ p, p ≠ 6 → L p = L0 p)
theorem pe_up {E : Nat → Nat} {m v : Nat} : ∀ j, j ≤ m → pe (fun k => if k = m then v else E k) j = pe E j
  | 0, _ => rfl
  | j + 1, h => by show (if j = m then v else E j) = E j; rw [if_neg (by omega)]
theorem kl_lt (c : Nat) : kl c ≤ 4 := by rcases kl_cases c with h | h | h | h <;> omega
theorem split_loop {T : Nat → Nat} {n : Nat} {I0 : zI} {L0 : zL} (hn : n ≤ 800) (h11 : I0 1 1 = nI n) (hT : ∀ k, k < n → T k < 127 ∧ I0 2 k = nI (T k)) :
    ∀ r a m F E I L b f, a + r = n → r < f → zSI T I0 L0 a m F E I L b → ∃ m' F' E' I' L', zlp4 f_X10_split_9 f (nI b) (nI a) I L = some (zu I' 5 m' 0, L') ∧ ∃ b', zSI T I0 L0 n m' F' E' I' L' b'
  | _, _, _, _, _, _, _, _, 0, _, h, _ => absurd h (by omega)
  | 0, a, m, F, E, I, L, b, f + 1, ha, _, hs => by
    have : a = n := by omega
    subst this
    have hI1 : I 1 1 = nI a := by rw [hs.2.2.2.2.2.2.1 1 (by decide) (by decide)]; exact h11
    refine ⟨m, F, E, I, L, ?_, b, hs⟩
    show f_X10_split_9 _ (nI b) (nI a) I L = _
    unfold f_X10_split_9
    rw [hI1, if_pos (Int32.le_refl _), hs.2.2.1, zck_t _ (zbd_nI (by have := hs.1; omega) (by decide)), zlt_b, nI_clamp (by have := hs.1; omega)]
  | r + 1, a, m, F, E, I, L, b, f + 1, ha, hf, hs => by
    have ih := fun m F E I L b => split_loop (L0 := L0) hn h11 hT r (a + 1) m F E I L b f (by omega) (by omega)
    have e1 : zlp4 f_X10_split_9 (f + 1) (nI b) (nI a) I L = f_X10_split_9 (zlp4 f_X10_split_9 f) (nI b) (nI a) I L := rfl
    rw [e1]
    generalize zlp4 f_X10_split_9 f = k1 at ih ⊢
    obtain ⟨hma, ⟨tk, tb, te⟩, s42, sb, sl, sw, sI, sL⟩ := hs
    obtain ⟨hc, e2⟩ := hT a (by omega)
    have hI1 : I 1 1 = nI n := by rw [sI 1 (by decide) (by decide)]; exact h11
    have hI2 : I 2 a = nI (T a) := by rw [sI 2 (by decide) (by decide)]; exact e2
    have hb5 : b ≤ 4 := by rw [sb]; split; exact Nat.le_refl _; exact kl_lt _
    unfold f_X10_split_9
    rw [hI1, if_neg (nI_ge (by omega) (by omega)), zck_t _ (zbd_nI (by omega) (by decide)), nI_clamp (show a < 2 ^ 31 by omega), zlt_b, hI2, e_sort hc]
    simp only [zb1, Option.bind_some]
    have hk4 := kl_lt (T a)
    -- a blank
    by_cases hbl : kl (T a) = 4
    · have fin : ∀ J : zI, J 4 2 = nI m → (∀ p, p ≠ 4 → J p = I p) → ∃ m' F' E' I' L', k1 (nI (kl (T a))) (nI (a + 1)) J L = some (zu I' 5 m' 0, L') ∧ ∃ b', zSI T I0 L0 n m' F' E' I' L' b' := by
        intro J j1 j2
        refine ih m F E J L (kl (T a)) ⟨by omega, ⟨fun j hj => ?_, fun k k1 k2 => ?_, by omega⟩, j1, ?_, fun z => absurd hbl z, fun j hj => cW_cg (sw j hj) (by rw [j2 5 (by decide)]) rfl, fun p p1 p2 => by rw [j2 p p1]; exact sI p p1 p2, sL⟩
        · obtain ⟨a1, a2, a3, a4, a5, a6, a7⟩ := tk j hj
          refine ⟨a1, a2, by omega, a4, a5, a6, fun hE => ?_⟩
          by_cases z : E j = a
          · rw [z]; intro y; rw [hbl] at y; exact a5 y.1.symm
          · exact a7 (by omega)
        · by_cases z : k = a
          · rw [z]; exact hbl
          · exact tb k k1 (by omega)
        · rw [if_neg (by omega), Nat.add_sub_cancel]
      unfold f_X10_split_44 f_X10_split_49 f_X10_split_63
      simp only [zlt_b, nI_1]
      rw [hbl]
      rw [if_neg (show ¬ nI 4 = (3 : Int32) by decide), if_pos (show nI 4 = (4 : Int32) from rfl), if_pos (show nI 4 = (4 : Int32) from rfl)]
      rw [hbl] at fin
      by_cases hb4 : nI 4 = nI b
      · rw [if_pos hb4]; exact fin I s42 (fun _ _ => rfl)
      · rw [if_neg hb4]; exact fin (zu I 4 3 0) (by simp [zu, s42]) (fun p hp => by funext k; simp [zu, hp])
    · -- a new word, or one more character
      have hs49 : ∀ J : zI, f_X10_split_49 k1 (nI a) (nI (T a)) (nI (kl (T a))) J L = zb2 (f_X10_addCharacter (nI (kl (T a))) (nI (T a)) J L) (fun I10 L11 => k1 (nI (kl (T a))) (nI (a + 1)) I10 L11) := by
        intro J
        unfold f_X10_split_49 f_X10_split_63
        simp only [zlt_b, nI_1]
        rw [if_neg (show ¬ nI (kl (T a)) = (4 : Int32) from fun z => hbl ((nI_eq (b := 4) (by omega) (by omega)).mp z))]
      by_cases hnew : kl (T a) = 3 ∨ kl (T a) ≠ b
      · have e3 : (if nI (kl (T a)) = (3 : Int32) then (f_X10_split_44 k1 (nI a) (nI (T a)) (nI (kl (T a))) I L) else (if nI (kl (T a)) = nI b then (f_X10_split_49 k1 (nI a) (nI (T a)) (nI (kl (T a))) I L) else (f_X10_split_44 k1 (nI a) (nI (T a)) (nI (kl (T a))) I L))) = f_X10_split_44 k1 (nI a) (nI (T a)) (nI (kl (T a))) I L := by
          by_cases z : kl (T a) = 3
          · rw [if_pos (by rw [z]; rfl)]
          · rw [if_neg (show ¬ nI (kl (T a)) = (3 : Int32) from fun y => z ((nI_eq (b := 3) (by omega) (by omega)).mp y)), if_neg (fun y => (hnew.resolve_left z) ((nI_eq (by omega) (by omega)).mp y))]
        rw [e3]
        unfold f_X10_split_44
        rw [zlt_b, hs49, e_addNew hc hbl (zu_eq _ _ _ _) (by rw [zu_k _ _ (by decide)]; exact s42) (by omega)]
        simp only [zb2, Option.bind_some]
        refine ih (m + 1) (fun k => if k = m then a else F k) (fun k => if k = m then a + 1 else E k) _ _ (kl (T a)) ⟨by omega, ⟨fun j hj => ?_, fun k k1 k2 => ?_, ?_⟩, by simp [zu], ?_, fun _ => ⟨by omega, ?_, ?_, ?_⟩, fun j hj => ?_, fun p p1 p2 => ?_, fun p p1 => ?_⟩
        · by_cases z : j = m
          · subst z
            rw [pe_up j (Nat.le_refl _)]
            simp only [if_true]
            refine ⟨te, by omega, by omega, fun k k1 k2 => tb k k1 k2, hbl, fun k k1 k2 => by omega, fun h => absurd h (by omega)⟩
          · obtain ⟨a1, a2, a3, a4, a5, a6, a7⟩ := tk j (by omega)
            rw [pe_up j (by omega)]
            simp only [if_neg z]
            refine ⟨a1, a2, by omega, a4, a5, a6, fun hE => ?_⟩
            by_cases z2 : E j = a
            · -- the word before ended just here
              rw [z2]
              intro y
              have hjm : j = m - 1 := by
                by_cases q : j + 1 < m
                · have := tk (j + 1) q
                  have q2 : E j ≤ F (j + 1) := this.1
                  omega
                · omega
              have hb' : b = kl (T (a - 1)) := by rw [sb, if_neg (by omega)]
              have hlast : kl (T (a - 1)) = kl (T (F j)) := by
                by_cases q : F j = a - 1
                · rw [q]
                · exact (a6 (a - 1) (by omega) (by omega)).1
              rcases hnew with q | q
              · rw [q] at y; exact y.2 y.1.symm
              · exact q (by rw [hb', hlast]; exact y.1)
            · exact a7 (by omega)
        · have : pe (fun k => if k = m then a + 1 else E k) (m + 1) = a + 1 := by show (if m = m then a + 1 else E m) = _; rw [if_pos rfl]
          rw [this] at k1; omega
        · have : pe (fun k => if k = m then a + 1 else E k) (m + 1) = a + 1 := by show (if m = m then a + 1 else E m) = _; rw [if_pos rfl]
          rw [this]
          exact Nat.le_refl _
        · rw [if_neg (by omega), Nat.add_sub_cancel]
        · rw [Nat.add_sub_cancel]; simp only [if_true]
        · rw [Nat.add_sub_cancel]; simp only [if_true]; rw [show a + 1 - a = 1 by omega]; simp [zu]
        · rw [Nat.add_sub_cancel]; simp only [if_true]
        · by_cases z : j = m
          · subst z
            simp only [if_true]
            rw [show a + 1 - a = 1 by omega]
            have g1 : ∀ v w u, zu (zu (zu (zu I 4 3 0) 5 j v) 4 2 w) 4 3 u 5 j = v := fun v w u => by simp [zu]
            refine ⟨fun q => ⟨fun _ => ⟨by rw [g1, q], ?_⟩, fun h => absurd h (by omega)⟩, fun q => ⟨fun _ => ⟨by rw [g1, q], ?_⟩, fun h => absurd h (by omega)⟩, fun q => ⟨by rw [g1, q], ?_⟩⟩
            · rw [zul_eq]; unfold vW; rw [if_pos q]; show _ = lN (32 * 0 + _); congr 1; show T a - 96 = 32 * 0 + (T (a + 0) - 96); rw [Nat.add_zero]; omega
            · rw [zul_eq]; unfold vW; rw [if_neg (by omega), if_pos q]; congr 1; show T a - 48 = 10 * 0 + (T (a + 0) - 48); rw [Nat.add_zero]; omega
            · rw [zul_eq]; unfold vW; rw [if_neg (by omega), if_neg (by omega)]
          · simp only [if_neg z]
            exact cW_cg (sw j (by omega)) (by simp [zu, z]) (by simp [zul, z])
        · rw [← sI p p1 p2]; funext k; simp [zu, p1, p2]
        · rw [← sL p p1]; funext k; simp [zul, p1]
      · have hk3 : ¬ kl (T a) = 3 := fun z => hnew (Or.inl z)
        have hkb : kl (T a) = b := Classical.not_not.mp fun z => hnew (Or.inr z)
        rw [if_neg (show ¬ nI (kl (T a)) = (3 : Int32) from fun y => hk3 ((nI_eq (b := 3) (by omega) (by omega)).mp y)), if_pos (by rw [hkb])]
        have ha0 : a ≠ 0 := fun z => by rw [if_pos z] at sb; omega
        obtain ⟨l1, l2, l3, l4⟩ := sl (by omega)
        obtain ⟨m, rfl⟩ : ∃ k, m = k + 1 := ⟨m - 1, by omega⟩
        rw [Nat.add_sub_cancel] at l2 l3 l4
        obtain ⟨t1, t2, t3, t4, t5, t6, t7⟩ := tk m (by omega)
        obtain ⟨x, x1, x2⟩ := e_addMore (I := I) (L := L) (m := m) hc (by rcases kl_cases (T a) with q | q | q | q <;> omega) (show 1 ≤ a - F m by omega) (by omega) l3 s42 (by omega)
        rw [hs49, x1]
        simp only [zb2, Option.bind_some]
        generalize hJ : (if (kl (T a) = 1 ∧ 8 < a - F m + 1) ∨ (kl (T a) = 2 ∧ 6 < a - F m + 1) then zu (zu I 4 3 (nI (a - F m + 1))) 5 m (nI 5) else zu I 4 3 (nI (a - F m + 1))) = J
        have J42 : J 4 2 = nI (m + 1) := by rw [← hJ]; split <;> simp [zu, s42]
        have J43 : J 4 3 = nI (a - F m + 1) := by rw [← hJ]; split <;> simp [zu]
        have Jp : ∀ p, p ≠ 4 → p ≠ 5 → J p = I p := fun p p1 p2 => by rw [← hJ]; split <;> (funext k; simp [zu, p1, p2])
        have J5 : ∀ j, j ≠ m → J 5 j = I 5 j := fun j hj => by rw [← hJ]; split <;> simp [zu, hj]
        have J5m : J 5 m = if (kl (T a) = 1 ∧ 8 < a - F m + 1) ∨ (kl (T a) = 2 ∧ 6 < a - F m + 1) then nI 5 else I 5 m := by rw [← hJ]; split <;> simp [zu]
        refine ih (m + 1) F (fun k => if k = m then a + 1 else E k) J (zul L 6 m x) (kl (T a)) ⟨by omega, ⟨fun j hj => ?_, fun k k1 k2 => ?_, ?_⟩, J42, ?_, fun _ => ⟨by omega, ?_, ?_, ?_⟩, fun j hj => ?_, fun p p1 p2 => ?_, fun p p1 => ?_⟩
        · by_cases z : j = m
          · subst z
            rw [pe_up j (Nat.le_refl _)]
            simp only [if_true]
            refine ⟨t1, by omega, by omega, t4, t5, fun k k1 k2 => ?_, fun h => absurd h (by omega)⟩
            by_cases q : k = a
            · rw [q, l4, hkb]; exact ⟨rfl, by omega⟩
            · exact t6 k k1 (by omega)
          · obtain ⟨a1, a2, a3, a4, a5, a6, a7⟩ := tk j hj
            rw [pe_up j (by omega)]
            simp only [if_neg z]
            refine ⟨a1, a2, by omega, a4, a5, a6, fun hE => ?_⟩
            have hEa : E j < a := by
              have q2 : j + 1 ≤ m := by omega
              have q3 : E j ≤ F (j + 1) := (tk (j + 1) (by omega)).1
              by_cases q4 : j + 1 = m
              · rw [q4] at q3; omega
              · have : F (j + 1) < E (j + 1) := (tk (j + 1) (by omega)).2.1
                have := (tk (j + 1) (by omega)).2.2.1
                omega
            exact a7 hEa
        · have : pe (fun k => if k = m then a + 1 else E k) (m + 1) = a + 1 := by show (if m = m then a + 1 else E m) = _; rw [if_pos rfl]
          rw [this] at k1; omega
        · have : pe (fun k => if k = m then a + 1 else E k) (m + 1) = a + 1 := by show (if m = m then a + 1 else E m) = _; rw [if_pos rfl]
          rw [this]
          exact Nat.le_refl _
        · rw [if_neg (by omega), Nat.add_sub_cancel]
        · rw [Nat.add_sub_cancel]; simp only [if_true]
        · rw [Nat.add_sub_cancel, J43]; congr 1; omega
        · rw [Nat.add_sub_cancel, l4, hkb]
        · by_cases z : j = m
          · subst z
            simp only [if_true]
            have sj := sw j (by omega)
            rw [l2] at sj
            rw [show a + 1 - F j = (a - F j) + 1 by omega]
            have ea : F j + (a - F j) = a := by omega
            refine ⟨fun q => ⟨fun h8 => ?_, fun h8 => ?_⟩, fun q => ⟨fun h8 => ?_, fun h8 => ?_⟩, fun q => absurd q (by omega)⟩
            · obtain ⟨w1, w2⟩ := (sj.1 q).1 (by omega)
              refine ⟨by rw [J5m, if_neg (by omega)]; exact w1, ?_⟩
              rw [zul_eq, x2 _ w2, if_pos (by omega)]
              show _ = lN (32 * _ + (T (F j + (a - F j)) - 96))
              rw [ea]
            · rw [J5m]
              by_cases y : 8 < a - F j + 1
              · rw [if_pos (Or.inl ⟨by omega, y⟩)]
              · omega
            · obtain ⟨w1, w2⟩ := (sj.2.1 q).1 (by omega)
              refine ⟨by rw [J5m, if_neg (by omega)]; exact w1, ?_⟩
              rw [zul_eq, x2 _ w2, if_neg (by omega)]
              show _ = lN (10 * _ + (T (F j + (a - F j)) - 48))
              rw [ea]
            · rw [J5m]
              by_cases y : 6 < a - F j + 1
              · rw [if_pos (Or.inr ⟨by omega, y⟩)]
              · omega
          · simp only [if_neg z]
            exact cW_cg (sw j hj) (J5 j z) (by simp [zul, z])
        · rw [← sI p p1 p2]; exact Jp p p1 p2
        · rw [← sL p p1]; funext k; simp [zul, p1]
