/-! name, is, take; the class's words -/
theorem lw_len (T : Nat → Nat) (f : Nat) : ∀ n, (lw T f n).length = n
  | 0 => rfl
  | n + 1 => by show (lw T f n).length + 1 = _; rw [lw_len T f n]
theorem lwr_lt {T : Nat → Nat} {f : Nat} : ∀ n, (∀ k, f ≤ k → k < f + n → kl (T k) = 1) → gLt (lw T f n)
  | 0, _ => fun d hd => by cases hd
  | n + 1, h => by
    intro d hd
    have hd : d ∈ (T (f + n) - 96) :: lw T f n := hd
    rcases List.mem_cons.mp hd with rfl | hd
    · have := h (f + n) (by omega) (by omega)
      rcases kl_cases (T (f + n)) with q | q | q | q <;> omega
    · exact lwr_lt n (fun k k1 k2 => h k k1 (by omega)) d hd
theorem nw_lt {T : Nat → Nat} {f : Nat} : ∀ n, (∀ k, f ≤ k → k < f + n → kl (T k) = 2) → nw T f n < 10 ^ n
  | 0, _ => by simp [nw]
  | n + 1, h => by
    have ih := nw_lt n (fun k k1 k2 => h k k1 (by omega))
    have h1 := h (f + n) (by omega) (by omega)
    have h2 : T (f + n) - 48 ≤ 9 := by rcases kl_cases (T (f + n)) with q | q | q | q <;> omega
    show 10 * nw T f n + (T (f + n) - 48) < 10 ^ (n + 1)
    rw [Nat.pow_succ]
    omega
section Wd
variable {T : Nat → Nat} {n m : Nat} {F E : Nat → Nat}
theorem tok_all (ht : Tok T n m F E) {j : Nat} (hj : j < m) : ∀ k, F j ≤ k → k < E j → kl (T k) = kl (T (F j)) := by
  intro k k1 k2
  by_cases z : k = F j
  · rw [z]
  · exact ((ht.1 j hj).2.2.2.2.2.1 k (by omega) k2).1
theorem tok_3 (ht : Tok T n m F E) {j : Nat} (hj : j < m) (h : kl (T (F j)) = 3) : E j = F j + 1 := by
  obtain ⟨a1, a2, a3, a4, a5, a6, a7⟩ := ht.1 j hj
  by_cases z : F j + 1 < E j
  · exact absurd h (a6 (F j + 1) (by omega) z).2
  · omega
theorem wS_end {j : Nat} (h : ¬ j < m) : wS T m F E j = 0 := if_neg h
theorem wS_in {j : Nat} (h : j < m) : wS T m F E j ≠ 0 := by
  unfold wS; rw [if_pos h]; repeat' split
  all_goals omega
theorem wS_lt {j : Nat} (h : wS T m F E j ≠ 0) : j < m := Classical.not_not.mp fun z => h (wS_end z)
theorem wS_1 {j : Nat} (h : j < m) : wS T m F E j = 1 ↔ kl (T (F j)) = 1 ∧ E j - F j ≤ 8 := by
  unfold wS; rw [if_pos h]
  constructor
  · intro z; repeat' split at z
    all_goals first | omega | (constructor <;> assumption)
  · rintro ⟨a, b⟩; rw [if_pos a, if_pos b]
theorem wS_2 {j : Nat} (h : j < m) : wS T m F E j = 2 ↔ kl (T (F j)) = 2 ∧ E j - F j ≤ 6 := by
  unfold wS; rw [if_pos h]
  constructor
  · intro z; repeat' split at z
    all_goals first | omega | (constructor <;> assumption)
  · rintro ⟨a, b⟩; rw [if_neg (by omega), if_pos a, if_pos b]
theorem wS_3 (ht : Tok T n m F E) {j : Nat} (h : j < m) : wS T m F E j = 3 ↔ kl (T (F j)) = 3 := by
  have h4 := (ht.1 j h).2.2.2.2.1
  have hk := kl_cases (T (F j))
  unfold wS; rw [if_pos h]
  constructor
  · intro z; repeat' split at z
    all_goals omega
  · intro a; rw [if_neg (by omega), if_neg (by omega)]
theorem wG_good (ht : Tok T n m F E) {j : Nat} (h : wS T m F E j = 1) : gNm (wG T F E j) := by
  have hj : j < m := wS_lt (by rw [h]; decide)
  obtain ⟨h1, h2⟩ := (wS_1 hj).mp h
  have h3 := (ht.1 j hj).2.1
  refine ⟨fun z => ?_, by unfold wG; rw [lw_len]; exact h2, ?_⟩
  · have := congrArg List.length z
    unfold wG at this
    rw [lw_len] at this
    simp at this
    omega
  · exact lwr_lt _ (fun k k1 k2 => by rw [tok_all ht hj k k1 (by omega)]; exact h1)
theorem wV_2 (ht : Tok T n m F E) {j : Nat} (h : wS T m F E j = 2) : wV T F E j < 1000000 ∧ wV T F E j = nw T (F j) (E j - F j) := by
  have hj : j < m := wS_lt (by rw [h]; decide)
  obtain ⟨h1, h2⟩ := (wS_2 hj).mp h
  have e : wV T F E j = nw T (F j) (E j - F j) := if_pos h1
  refine ⟨?_, e⟩
  rw [e]
  have := nw_lt (T := T) (f := F j) (E j - F j) (fun k k1 k2 => by rw [tok_all ht hj k k1 (by omega)]; exact h1)
  have h3 : (10 : Nat) ^ (E j - F j) ≤ 10 ^ 6 := Nat.pow_le_pow_right (by decide) h2
  omega
theorem wV_3 (ht : Tok T n m F E) {j : Nat} (h : wS T m F E j = 3) : wV T F E j = T (F j) := by
  have hj : j < m := wS_lt (by rw [h]; decide)
  exact if_neg (by rw [(wS_3 ht hj).mp h]; decide)
/-- the class's words -/
def CW (T : Nat → Nat) (m : Nat) (F E : Nat → Nat) (I : zI) (L : zL) : Prop := ∀ j, j ≤ m → I 5 j = nI (wS T m F E j) ∧ (wS T m F E j = 1 → L 6 j = z5c (wG T F E j)) ∧ (wS T m F E j = 2 ∨ wS T m F E j = 3 → L 6 j = lN (wV T F E j))
theorem CW.cg {I J : zI} {L M : zL} (h : CW T m F E I L) (e1 : J 5 = I 5) (e2 : M 6 = L 6) : CW T m F E J M := by
  unfold CW at *; rw [e1, e2]; exact h
theorem CW_of (ht : Tok T n m F E) {I : zI} {L : zL} (h : ∀ j, j < m → cW T I L j (F j) (E j - F j)) : CW T m F E (zu I 5 m 0) L := by
  intro j hj
  by_cases hm : j = m
  · subst hm
    rw [wS_end (Nat.lt_irrefl _)]
    exact ⟨zu_eq _ _ _ _, fun z => absurd z (by decide), fun z => absurd z (by decide)⟩
  · have hj : j < m := by omega
    rw [zu_k _ _ hm]
    obtain ⟨w1, w2, w3⟩ := h j hj
    have h4 := (ht.1 j hj).2.2.2.2.1
    refine ⟨?_, fun z => ?_, fun z => ?_⟩
    · rcases kl_cases (T (F j)) with ⟨q, -⟩ | ⟨q, -⟩ | ⟨q, -⟩ | ⟨q, -⟩
      · by_cases y : E j - F j ≤ 8
        · rw [((w1 q).1 y).1, (wS_1 hj).mpr ⟨q, y⟩]
        · rw [(w1 q).2 (by omega)]; unfold wS; rw [if_pos hj, if_pos q, if_neg y]
      · by_cases y : E j - F j ≤ 6
        · rw [((w2 q).1 y).1, (wS_2 hj).mpr ⟨q, y⟩]
        · rw [(w2 q).2 (by omega)]; unfold wS; rw [if_pos hj, if_neg (by omega), if_pos q, if_neg y]
      · rw [(w3 q).1, (wS_3 ht hj).mpr q]
      · exact absurd q h4
    · obtain ⟨q, y⟩ := (wS_1 hj).mp z
      exact ((w1 q).1 y).2
    · rcases z with z | z
      · obtain ⟨q, y⟩ := (wS_2 hj).mp z
        rw [(wV_2 ht z).2]; exact ((w2 q).1 y).2
      · rw [wV_3 ht z]; exact (w3 ((wS_3 ht hj).mp z)).2
theorem nm_49 {J : zI} (hn : n ≤ 800) (hT : RT T n J) {f e : Nat} (he : e ≤ n) (h47 : J 97 47 = nI e) (hl : ∀ k, f ≤ k → k < e → 96 ≤ T k) : ∀ r i g, f + i + r = e → r < g → zlp3 f_X12_name_49 g (lN (cR 27 (lw T f i))) (nI (f + i)) J = some (lN (cR 27 (lw T f (i + r))))
  | _, _, 0, _, h => absurd h (by omega)
  | 0, i, g + 1, hi, _ => by
    show f_X12_name_49 _ (lN (cR 27 (lw T f i))) (nI (f + i)) J = _
    unfold f_X12_name_49
    rw [h47, if_pos (nI_le (by omega) (by omega))]
    rfl
  | r + 1, i, g + 1, hi, hg => by
    have ih := nm_49 hn hT he h47 hl r (i + 1) g (by omega) (by omega)
    have e1 : zlp3 f_X12_name_49 (g + 1) (lN (cR 27 (lw T f i))) (nI (f + i)) J = f_X12_name_49 (zlp3 f_X12_name_49 g) (lN (cR 27 (lw T f i))) (nI (f + i)) J := rfl
    rw [e1]
    generalize zlp3 f_X12_name_49 g = k1 at ih ⊢
    obtain ⟨c1, c2⟩ := hT.2 (f + i) (by omega)
    unfold f_X12_name_49
    rw [h47, if_neg (nI_ge (by omega) (by omega)), zck_t _ (zbd_nI (show f + i < 800 by omega) (by decide)), nI_clamp (show f + i < 2 ^ 31 by omega), c2]
    simp only [zlt_b, nI_1]
    rw [nI_l (by omega), show (27 : Int64) = lN 27 from rfl, lN_mul, lN_add, show (96 : Int64) = lN 96 from rfl, lN_sub (by have := hl (f + i) (by omega) (by omega); omega)]
    have e2 : 27 * cR 27 (lw T f i) + T (f + i) - 96 = cR 27 (lw T f (i + 1)) := by
      show _ = 27 * cR 27 (lw T f i) + (T (f + i) - 96)
      have := hl (f + i) (by omega) (by omega)
      omega
    rw [e2, show i + (r + 1) = i + 1 + r by omega]
    exact ih
theorem e_mname {J : zI} (hn : n ≤ 800) (ht : Tok T n m F E) {j : Nat} (hj : j ≤ m) (h : RC T n m F E j J) : f_X12_name J = some (if wS T m F E j = 1 then z27 (wG T F E j) else 0) := by
  obtain ⟨hT, h46, h47, -⟩ := h
  have te := tok_E ht hj
  unfold f_X12_name f_X12_name_40
  rw [h46, h47]
  by_cases hm : j < m
  · obtain ⟨a1, a2, a3, a4, a5, a6, a7⟩ := ht.1 j hm
    have ef : Fx n m F j = F j := if_pos hm
    have ee : Fx n m E j = E j := if_pos hm
    obtain ⟨c1, c2⟩ := hT.2 (F j) (by omega)
    rw [ef, ee, if_neg (fun z => by have := (nI_eq (by omega) (by omega)).mp z; omega)]
    simp only [zlt_b]
    rw [zck_t _ (zbd_nI (show F j < 800 by omega) (by decide)), nI_clamp (show F j < 2 ^ 31 by omega), c2, e_letter c1]
    simp only [zb1, Option.bind_some]
    rw [pk_sub (by omega)]
    by_cases q1 : kl (T (F j)) = 1
    · rw [if_pos q1, if_neg n10]
      by_cases q2 : E j - F j ≤ 8
      · rw [if_pos (show nI (E j - F j) ≤ 8 from nI_le (b := 8) q2 (by omega)), if_pos ((wS_1 hm).mpr ⟨q1, q2⟩)]
        rw [ee] at h47
        have := nm_49 hn hT (f := F j) (e := E j) (by omega) h47 (fun k k1 k2 => by have := tok_all ht hm k k1 k2; rcases kl_cases (T k) with q | q | q | q <;> omega) (E j - F j) 0 zF (by omega) (zF_lt (by omega))
        rw [Nat.zero_add] at this
        exact this
      · rw [if_neg (show ¬ nI (E j - F j) ≤ 8 from nI_ge (a := 8) (by omega) (by omega)), if_neg (fun z => q2 ((wS_1 hm).mp z).2)]
    · rw [if_neg q1, if_pos rfl, if_neg (fun z => q1 ((wS_1 hm).mp z).1)]
  · have ef : Fx n m F j = n := if_neg hm
    have ee : Fx n m E j = n := if_neg hm
    rw [ef, ee, if_pos rfl, wS_end hm, if_neg (by decide)]
theorem e_mis {J : zI} (hn : n ≤ 800) (ht : Tok T n m F E) {j c : Nat} (hj : j ≤ m) (hc : c < 127) (hc3 : kl c = 3) (h : RC T n m F E j J) : f_X12_is (nI c) J = some (if wS T m F E j = 3 ∧ wV T F E j = c then 1 else 0) := by
  obtain ⟨hT, h46, h47, -⟩ := h
  have te := tok_E ht hj
  unfold f_X12_is f_X12_is_30 f_X12_is_31
  simp only [zlt_b]
  rw [h46, h47, nI_1, zck_t _ zbo_1, zck_t _ zbo_0]
  by_cases hm : j < m
  · obtain ⟨a1, a2, a3, a4, a5, a6, a7⟩ := ht.1 j hm
    have ef : Fx n m F j = F j := if_pos hm
    have ee : Fx n m E j = E j := if_pos hm
    obtain ⟨c1, c2⟩ := hT.2 (F j) (by omega)
    rw [ef, ee, zck_t _ (zbd_nI (show F j < 800 by omega) (by decide)), nI_clamp (show F j < 2 ^ 31 by omega), c2]
    by_cases q : T (F j) = c
    · have k3 : kl (T (F j)) = 3 := by rw [q]; exact hc3
      have w3 := (wS_3 ht hm).mpr k3
      rw [tok_3 ht hm k3, if_pos rfl, q, if_pos rfl, if_pos ⟨w3, by rw [wV_3 ht w3, q]⟩]
    · have w : ¬ (wS T m F E j = 3 ∧ wV T F E j = c) := fun z => q (by rw [← wV_3 ht z.1]; exact z.2)
      rw [if_neg w, if_neg (fun z => q ((nI_eq (by omega) (by omega)).mp z)), ite_self]
  · have ef : Fx n m F j = n := if_neg hm
    have ee : Fx n m E j = n := if_neg hm
    rw [ef, ee, if_neg (fun z => by have := (nI_eq (by omega) (by omega)).mp z; omega), wS_end hm, if_neg (fun z => absurd z.1 (by decide))]
/-- the cursor's own fields alone -/
def CF (J J' : zI) : Prop := (∀ p, p ≠ 97 → J' p = J p) ∧ ∀ k, ¬ (46 ≤ k ∧ k ≤ 49) → J' 97 k = J 97 k
theorem CF.refl (J : zI) : CF J J := ⟨fun _ _ => rfl, fun _ _ => rfl⟩
theorem CF.trans {J K M : zI} (h : CF J K) (g : CF K M) : CF J M := ⟨fun p hp => by rw [g.1 p hp, h.1 p hp], fun k hk => by rw [g.2 k hk, h.2 k hk]⟩
def RS (T : Nat → Nat) (n m : Nat) (F E : Nat → Nat) (j r : Nat) (J : zI) : Prop := RC T n m F E j J ∧ J 97 49 = nI r
theorem e_take {J : zI} (hn : n ≤ 800) (ht : Tok T n m F E) {j r : Nat} {a : Int32} (hr : r = 0 ∨ r = 1) (h : RS T n m F E j r J) (hj : r = 1 → ¬ a = 0 → j < m) : ∃ J', f_X12_take a J = some J' ∧ CF J J' ∧ ((r = 1 ∧ ¬ a = 0 ∧ RS T n m F E (j + 1) 1 J') ∨ (¬ (r = 1 ∧ ¬ a = 0) ∧ RS T n m F E j 0 J')) := by
  obtain ⟨⟨hT, h46, h47, h48⟩, h49⟩ := h
  have t0 : f_X12_take_17 0 J = some (zu J 97 49 0) := by
    unfold f_X12_take_17 f_X12_take_31
    rw [zck_t _ zbo_0, zlt_b, zu_eq, if_pos rfl]
  have no : CF J (zu J 97 49 0) ∧ RS T n m F E j 0 (zu J 97 49 0) := by
    refine ⟨⟨fun p hp => zu_pf _ _ hp, fun k hk => zu_k _ _ (by omega) _⟩, ⟨hT.cg (zu_k _ _ (by decide) _) (zu_pf _ _ (by decide)), ?_, ?_, ?_⟩, zu_eq _ _ _ _⟩
    · rw [zu_k _ _ (by decide)]; exact h46
    · rw [zu_k _ _ (by decide)]; exact h47
    · rw [zu_k _ _ (by decide)]; exact h48
  unfold f_X12_take f_X12_take_16
  rw [h49, t0]
  rcases hr with rfl | rfl
  · rw [if_pos (show nI 0 = 0 from rfl)]
    exact ⟨_, rfl, no.1, Or.inr ⟨fun z => absurd z.1 (by decide), no.2⟩⟩
  · rw [if_neg (show ¬ nI 1 = 0 by decide)]
    by_cases ha : a = 0
    · rw [if_pos ha]
      exact ⟨_, rfl, no.1, Or.inr ⟨fun z => z.2 ha, no.2⟩⟩
    · rw [if_neg ha]
      have hjm := hj rfl ha
      have ee : Fx n m E j = E j := if_pos hjm
      rw [ee] at h47
      obtain ⟨J', g1, g2, g3, g4⟩ := e_next hn ht (j := j + 1) (by omega) (J := zu J 97 49 1) (hT.cg (zu_k _ _ (by decide) _) (zu_pf _ _ (by decide))) (by rw [zu_k _ _ (by decide)]; exact h47) (by rw [zu_k _ _ (by decide), h48, nI_1])
      refine ⟨J', ?_, ⟨fun p hp => by rw [g3 p hp, zu_pf _ _ hp], fun k hk => by rw [g4 k (by omega) (by omega) (by omega), zu_k _ _ (by omega)]⟩, Or.inl ⟨rfl, ha, g2, by rw [g4 49 (by decide) (by decide) (by decide), zu_eq]; rfl⟩⟩
      unfold f_X12_take_17 f_X12_take_31
      rw [zck_t _ zbo_1, zlt_b, zu_eq, if_neg n10, g1]
      rfl
end Wd
