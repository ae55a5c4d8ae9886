/-! the input sentence -/
def aIn (T : Nat → Nat) (m : Nat) (F E : Nat → Nat) (c : Nat → Nat) (N : Nat → Nat → List Nat) (k j : Nat) : Nat → Prop
  | 0 => c 0 < 24
  | 1 => nwL T m F E (c 0) (N 0) (j + 1)
  | 2 => sg T m F E (j + 2) 61
  | 3 => inRg T m F E (j + 3) k
  | i + 4 => sg T m F E (j + 4 + i) 59
section In
variable {Q : Nat} {G : zI} {c : Nat → Nat} {N : Nat → Nat → List Nat} {I J : zI} {L M : zL} {T : Nat → Nat} {n m : Nat} {F E : Nat → Nat} {j r k : Nat}
theorem CS.fc {I' : zI} {L' : zL} {j' : Nat} (hq : zpl Q) (h : CS Q T m F E j I L) (hf : FCl Q I L I' L') (hj : j' ≤ m) (e : I' 3 4 = nI j') : CS Q T m F E j' I' L' := by
  have hQ : ¬ (Q ≤ 5 ∧ 5 ≤ Q + 12) ∧ 6 ≠ Q + 1 ∧ 6 ≠ Q + 9 := by rcases hq with rfl | rfl <;> omega
  exact ⟨hj, h.2.1, e, by rw [hf.2.1 3 (by decide)]; exact h.2.2.2.1, h.2.2.2.2.cg (hf.1 5 (by decide) hQ.1) (hf.2.2 6 hQ.2.1 hQ.2.2)⟩
theorem aIn_lt (hj : j < m) : ∀ i, aIn T m F E c N k j i → j + i < m
  | 0, _ => hj
  | 1, h => nwL_lt h
  | 2, h => sg_lt h
  | 3, h => wS_lt (by rw [h.1]; decide)
  | i + 4, h => by have := sg_lt h; omega
theorem num_75 (hn : n ≤ 800) (hT : RT T n J) {f e : Nat} (he : e ≤ n) (h6 : e - f ≤ 6) (h47 : J 97 47 = nI e) (hd : ∀ k, f ≤ k → k < e → kl (T k) = 2) : ∀ r i g, f + i + r = e → r < g → zlp5 f_X12_readInput_75 g 1 (nI (nw T f i)) (nI (f + i)) J M = f_X12_readInput_108 1 (nI (nw T f (i + r))) J M
  | _, _, 0, _, h => absurd h (by omega)
  | 0, i, g + 1, hi, _ => by
    show f_X12_readInput_75 _ 1 (nI (nw T f i)) (nI (f + i)) J M = _
    unfold f_X12_readInput_75
    rw [h47, if_pos (nI_le (by omega) (by omega))]
    rfl
  | r + 1, i, g + 1, hi, hg => by
    have ih := num_75 hn hT he h6 h47 hd r (i + 1) g (by omega) (by omega)
    have e1 : zlp5 f_X12_readInput_75 (g + 1) 1 (nI (nw T f i)) (nI (f + i)) J M = f_X12_readInput_75 (zlp5 f_X12_readInput_75 g) 1 (nI (nw T f i)) (nI (f + i)) J M := rfl
    rw [e1]
    generalize zlp5 f_X12_readInput_75 g = k1 at ih ⊢
    obtain ⟨c1, c2⟩ := hT.2 (f + i) (by omega)
    have k2 := hd (f + i) (by omega) (by omega)
    have h48 : 48 ≤ T (f + i) := by rcases kl_cases (T (f + i)) with q | q | q | q <;> omega
    unfold f_X12_readInput_75
    rw [h47, if_neg (nI_ge (by omega) (by omega)), if_neg n10, zck_t _ (zbd_nI (show f + i < 800 by omega) (by decide)), nI_clamp (show f + i < 2 ^ 31 by omega), c2]
    simp only [zlt_b, nI_1]
    rw [show (10 : Int32) = nI 10 from rfl, pk_mul, nI_add, show (48 : Int32) = nI 48 from rfl, pk_sub (by omega)]
    have e2 : 10 * nw T f i + T (f + i) - 48 = nw T f (i + 1) := by
      show _ = 10 * nw T f i + (T (f + i) - 48)
      omega
    rw [e2, show i + (r + 1) = i + 1 + r by omega]
    exact ih
theorem m_num (hn : n ≤ 800) (ht : Tok T n m F E) (hj : j ≤ m) (hs : RS T n m F E j r J) (hk : k ≤ 65536) (h1 : J 97 1 = nI k) : ∃ v x : Int32, (if (J 97 47) ≤ (J 97 46) then (f_X12_readInput_66 J M) else (zlt (J 97 46) (fun x6 => zck (zbd x6 800) (zb1 (f_X12_isDigit (J 117 x6.toNatClampNeg)) (fun x9 => if x9 = 0 then (f_X12_readInput_66 J M) else (zlt ((J 97 47) - (J 97 46)) (fun x10 => if (6 : Int32) < x10 then (f_X12_readInput_66 J M) else (f_X12_readInput_67 (1 : Int32) J M)))))))) = f_X12_readInput_126 v x J M ∧ ((inRg T m F E j k ∧ x = 1 ∧ v = nI (wV T F E j)) ∨ (¬ inRg T m F E j k ∧ x = 0)) := by
  obtain ⟨⟨hT, h46, h47, -⟩, -⟩ := hs
  have te := tok_E ht hj
  have no : f_X12_readInput_66 J M = f_X12_readInput_126 0 0 J M := by
    obtain ⟨f, hf⟩ := zF_s
    unfold f_X12_readInput_66 f_X12_readInput_67
    rw [zlt_b, hf]
    show f_X12_readInput_75 _ 0 0 (J 97 46) J M = _
    unfold f_X12_readInput_75 f_X12_readInput_108 f_X12_readInput_125
    rw [if_pos rfl, if_pos rfl, ite_self]
  rw [no, h46, h47]
  by_cases hm : j < m
  · obtain ⟨a1, a2, a3, a4, a5, a6, a7⟩ := ht.1 j hm
    have ef : Fx n m F j = F j := if_pos hm
    have ee : Fx n m E j = E j := if_pos hm
    obtain ⟨c1, c2⟩ := hT.2 (F j) (by omega)
    rw [ef, ee, if_neg (nI_ge (by omega) (by omega))]
    simp only [zlt_b]
    rw [zck_t _ (zbd_nI (show F j < 800 by omega) (by decide)), nI_clamp (show F j < 2 ^ 31 by omega), c2, e_digit c1]
    simp only [zb1, Option.bind_some]
    rw [pk_sub (by omega)]
    by_cases q1 : kl (T (F j)) = 2
    · rw [if_pos q1, if_neg n10]
      by_cases q2 : E j - F j ≤ 6
      · have hS : wS T m F E j = 2 := (wS_2 hm).mpr ⟨q1, q2⟩
        rw [if_neg (show ¬ (6 : Int32) < nI (E j - F j) from nI_nlt (a := 6) q2 (by omega))]
        unfold f_X12_readInput_67
        rw [zlt_b, h46, ef]
        rw [ee] at h47
        have := num_75 (M := M) hn hT (f := F j) (e := E j) (by omega) q2 h47 (fun k k1 k2 => by rw [tok_all ht hm k k1 k2]; exact q1) (E j - F j) 0 zF (by omega) (zF_lt (by omega))
        rw [Nat.zero_add] at this
        have e2 : zlp5 f_X12_readInput_75 zF 1 0 (nI (F j)) J M = _ := this
        rw [e2, ← (wV_2 ht hS).2]
        have hv := (wV_2 ht hS).1
        unfold f_X12_readInput_108 f_X12_readInput_125
        rw [if_neg n10, h1]
        by_cases y : wV T F E j < k
        · rw [if_neg (nI_ge y (by omega))]
          exact ⟨_, 1, rfl, Or.inl ⟨⟨hS, y⟩, rfl, rfl⟩⟩
        · rw [if_pos (nI_le (by omega) (by omega))]
          exact ⟨_, 0, rfl, Or.inr ⟨fun z => y z.2, rfl⟩⟩
      · rw [if_pos (show (6 : Int32) < nI (E j - F j) from nI_lt (a := 6) (by omega) (by omega))]
        exact ⟨0, 0, rfl, Or.inr ⟨fun z => q2 ((wS_2 hm).mp z.1).2, rfl⟩⟩
    · rw [if_neg q1, if_pos rfl]
      exact ⟨0, 0, rfl, Or.inr ⟨fun z => q1 ((wS_2 hm).mp z.1).1, rfl⟩⟩
  · have ef : Fx n m F j = n := if_neg hm
    have ee : Fx n m E j = n := if_neg hm
    rw [ef, ee, if_pos (Int32.le_refl _)]
    exact ⟨0, 0, rfl, Or.inr ⟨fun z => hm (wS_lt (by rw [z.1]; decide)), rfl⟩⟩
/-- the beginning of input and make: room, a new name, '=' -/
theorem m_begin {A : Nat → Prop} (hn : n ≤ 800) (ht : Tok T n m F E) (hA : ∀ i, A i → j + i < m) (hj : j < m) (A0 : A 0 ↔ c 0 < 24) (A1 : A 1 ↔ nwL T m F E (c 0) (N 0) (j + 1)) (A2 : A 2 ↔ sg T m F E (j + 2) 61) (hs : RS T n m F E j 1 J) (hm : zPM G c N J M) (hg : zPG G c N) {w : Int32} (hw : (A 0 ∧ w = 1) ∨ (¬ A 0 ∧ w = 0)) :
    ∃ J1 J2 M2, f_X12_take w J = some J1 ∧ f_X12_takeNew J1 M = some (J2, M2) ∧ CF J J2 ∧ zST T n m F E A j 3 J2 ∧ zPM G c N J2 M2 ∧ (chS A 3 → M2 = zul M 105 (24 + c 0) (z27 (wG T F E (j + 1)))) ∧ ∀ p, p ≠ 105 → M2 p = M p := by
  obtain ⟨J1, g1, g2, g3⟩ := e_take hn ht (Or.inr rfl) hs (a := w) (fun _ _ => hj)
  have st1 : zST T n m F E A j 1 J1 := by
    refine ST_go (j0 := j) (r := 1) (Or.inr rfl) (fun _ => ⟨rfl, fun i hi => absurd hi (by omega)⟩) (fun z => absurd z (by decide)) ?_
    rcases g3 with ⟨a, b, d⟩ | ⟨a, b⟩
    · refine Or.inl ⟨rfl, ?_, d⟩
      rcases hw with ⟨x, -⟩ | ⟨-, x⟩
      · exact x
      · exact absurd x b
    · refine Or.inr ⟨fun z => ?_, b⟩
      rcases hw with ⟨-, x⟩ | ⟨x, -⟩
      · exact a ⟨rfl, by rw [x]; exact n10⟩
      · exact x z.2
  obtain ⟨j0, r, hr, hj0, hs1, h1, h0⟩ := ST_ex hA (by omega) st1
  obtain ⟨J2, M2, k1, k2, k3⟩ := m_takeNew hn ht hr hj0 (fun z => A0.mp ((h1 z).2 0 (by omega))) hs1 (hm.cf g2) hg
  refine ⟨J1, J2, M2, g1, k1, g2.trans k2, ?_⟩
  rcases k3 with ⟨hr1, d1, d2, d3⟩ | ⟨d1, d2, d3⟩
  · obtain ⟨e, f⟩ := h1 hr1
    subst e
    have c1 : A 1 := A1.mpr d1
    refine ⟨?_, ?_, fun _ => d2, ?_⟩
    · rcases d3 with ⟨x, y⟩ | ⟨x, y⟩
      · refine Or.inl ⟨fun i hi => ?_, y⟩
        match i, hi with
        | 0, _ => exact f 0 (by omega)
        | 1, _ => exact c1
        | 2, _ => exact A2.mpr x
      · refine Or.inr ⟨2, ⟨by omega, fun i hi => ?_, fun z => x (A2.mp z)⟩, y⟩
        match i, hi with
        | 0, _ => exact f 0 (by omega)
        | 1, _ => exact c1
    · rw [d2]; exact ((hm.cf g2).cf k2).nm
    · intro p hp; rw [d2]; exact zul_pf _ _ hp
  · have fl : ∃ h, chF A 2 h ∧ RS T n m F E (j + h) 0 J2 := by
      rcases hr with rfl | rfl
      · obtain ⟨h, h2, h3⟩ := h0 rfl
        exact ⟨h, ⟨by have := h2.1; omega, h2.2⟩, by rw [← h3]; exact d3⟩
      · obtain ⟨e, f⟩ := h1 rfl
        refine ⟨1, ⟨by omega, f, fun z => d1 ⟨rfl, by rw [e]; exact A1.mp z⟩⟩, by rw [← e]; exact d3⟩
    obtain ⟨h, h2, h3⟩ := fl
    refine ⟨Or.inr ⟨h, ⟨by have := h2.1; omega, h2.2⟩, h3⟩, ?_, fun z => absurd (z h (by have := h2.1; omega)) h2.2.2, fun p _ => by rw [d2]⟩
    rw [d2]; exact (hm.cf g2).cf k2
/-- a sign in a chain -/
theorem m_sgST {A : Nat → Prop} (hn : n ≤ 800) (ht : Tok T n m F E) (hA : ∀ i, A i → j + i < m) (hj : j ≤ m) {i ch : Nat} (hch : ch < 127) (h3 : kl ch = 3) (Ai : A i ↔ sg T m F E (j + i) ch) (st : zST T n m F E A j i J) : ∃ x J', f_X12_is (nI ch) J = some x ∧ f_X12_take x J = some J' ∧ CF J J' ∧ zST T n m F E A j (i + 1) J' := by
  obtain ⟨j0, r, hr, hj0, hs1, h1, h0⟩ := ST_ex hA hj st
  obtain ⟨x, J', k1, k2, k3, k4⟩ := m_sign hn ht hr hj0 hs1 hch h3
  refine ⟨x, J', k1, k2, k3, ST_go hr h1 h0 ?_⟩
  rcases k4 with ⟨a, b, d⟩ | ⟨a, b⟩
  · exact Or.inl ⟨a, Ai.mpr (by rw [← (h1 a).1]; exact b), d⟩
  · exact Or.inr ⟨fun z => a ⟨z.1, by rw [(h1 z.1).1]; exact Ai.mp z.2⟩, b⟩
/-- a take in a chain -/
theorem m_tkST {A : Nat → Prop} (hn : n ≤ 800) (ht : Tok T n m F E) (hA : ∀ i, A i → j + i < m) (hj : j ≤ m) {i : Nat} {x : Int32} (hx : chS A i → RS T n m F E (j + i) 1 J → (A i ∧ ¬ x = 0) ∨ (¬ A i ∧ x = 0)) (st : zST T n m F E A j i J) : ∃ J', f_X12_take x J = some J' ∧ CF J J' ∧ zST T n m F E A j (i + 1) J' := by
  obtain ⟨j0, r, hr, hj0, hs1, h1, h0⟩ := ST_ex hA hj st
  have hx' : r = 1 → (A i ∧ ¬ x = 0) ∨ (¬ A i ∧ x = 0) := fun z => hx (h1 z).2 (by rw [← (h1 z).1, ← z]; exact hs1)
  obtain ⟨J', k1, k2, k3⟩ := e_take hn ht hr hs1 (a := x) (fun z y => by
    rcases hx' z with ⟨q, -⟩ | ⟨-, q⟩
    · rw [(h1 z).1]; exact hA i q
    · exact absurd q y)
  refine ⟨J', k1, k2, ST_go hr h1 h0 ?_⟩
  rcases k3 with ⟨a, b, d⟩ | ⟨a, b⟩
  · refine Or.inl ⟨a, ?_, d⟩
    rcases hx' a with ⟨q, -⟩ | ⟨-, q⟩
    · exact q
    · exact absurd q b
  · refine Or.inr ⟨fun z => ?_, b⟩
    rcases hx' z.1 with ⟨-, q⟩ | ⟨q, -⟩
    · exact a ⟨z.1, q⟩
    · exact q z.2
theorem zST_49 {A : Nat → Prop} {i : Nat} (st : zST T n m F E A j i J) : (chS A i ∧ RS T n m F E (j + i) 1 J ∧ ¬ J 97 49 = 0) ∨ ((∃ h, chF A i h ∧ RS T n m F E (j + h) 0 J) ∧ J 97 49 = 0) := by
  rcases st with ⟨a, b⟩ | ⟨h, a, b⟩
  · exact Or.inl ⟨a, b, by rw [b.2]; decide⟩
  · exact Or.inr ⟨⟨h, a, b⟩, b.2⟩
theorem m_readInput (hn : n ≤ 800) (ht : Tok T n m F E) (hj : j < m) (hs : RS T n m F E j 1 J) (hm : zPM G c N J M) (hg : zPG G c N) (hk : k ≤ 65536) (hJ1 : J 97 1 = nI k) :
    ∃ J' M', f_X12_readInput J M = some (J', M') ∧ FRf J M J' M' ∧ ((chS (aIn T m F E c N k j) 5 ∧ RS T n m F E (j + 5) 1 J' ∧ zPM (zu (zu (zu G 0 (c 0) (nI 0)) 1 (c 0) (nI (wV T F E (j + 3)))) 2 (c 0) (-1)) (cu c 0) (nu N 0 (c 0) (wG T F E (j + 1))) J' M') ∨ ∃ h, chF (aIn T m F E c N k j) 5 h ∧ RS T n m F E (j + h) 0 J') := by
  have hA := aIn_lt (T := T) (m := m) (F := F) (E := E) (c := c) (N := N) (k := k) hj
  have b24 := hg.1.1
  have e50 : J 97 50 = nI (c 0) := hm.1 0 (by decide)
  have hw : ∃ w : Int32, f_X12_readInput J M = f_X12_readInput_15 w J M ∧ ((aIn T m F E c N k j 0 ∧ w = 1) ∨ (¬ aIn T m F E c N k j 0 ∧ w = 0)) := by
    unfold f_X12_readInput
    rw [e50]
    by_cases z : c 0 < 24
    · rw [if_neg (show ¬ (24 : Int32) ≤ nI (c 0) from nI_ge (b := 24) z (by decide))]
      exact ⟨1, rfl, Or.inl ⟨z, rfl⟩⟩
    · rw [if_pos (show (24 : Int32) ≤ nI (c 0) from nI_le (a := 24) (by omega) (by omega))]
      exact ⟨0, rfl, Or.inr ⟨z, rfl⟩⟩
  obtain ⟨w, w1, w2⟩ := hw
  obtain ⟨J1, J2, M2, g1, g2, g3, g4, g5, g6, g7⟩ := m_begin hn ht hA hj (Iff.rfl) (Iff.rfl) (Iff.rfl) hs hm hg w2
  rw [w1]
  unfold f_X12_readInput_15
  rw [g1]
  simp only [zb1, Option.bind_some]
  rw [g2]
  simp only [zb2, Option.bind_some]
  obtain ⟨j0, r, hr, hj0, hs1, h1, h0⟩ := ST_ex hA (by omega) g4
  obtain ⟨v, x, v1, v2⟩ := m_num (M := M2) hn ht hj0 hs1 hk (by rw [g3.2 1 (by omega)]; exact hJ1)
  simp only [zb1] at v1
  rw [v1]
  unfold f_X12_readInput_126 f_X12_readInput_182
  obtain ⟨J3, k1, k2, st4⟩ := m_tkST hn ht hA (by omega) (i := 3) (x := x) (fun a b => by
    have e : j0 = j + 3 ∧ r = 1 := by
      rcases hr with rfl | rfl
      · obtain ⟨h, q, -⟩ := h0 rfl; exact absurd (a h q.1) q.2.2
      · exact ⟨(h1 rfl).1, rfl⟩
    rw [e.1] at v2
    rcases v2 with ⟨q, rfl, -⟩ | ⟨q, rfl⟩
    · exact Or.inl ⟨q, n10⟩
    · exact Or.inr ⟨q, rfl⟩) g4
  rw [k1]
  simp only [zb1, Option.bind_some]
  obtain ⟨y, J4, y1, y2, y3, st5⟩ := m_sgST hn ht hA (by omega) (i := 4) (ch := 59) (by decide) (by decide) (Iff.rfl) st4
  have y1' : f_X12_is 59 J3 = some y := y1
  rw [y1']
  simp only [Option.bind_some]
  rw [y2]
  simp only [Option.bind_some]
  have cf : CF J J4 := (g3.trans k2).trans y3
  rcases zST_49 st5 with ⟨s1, s2, s3⟩ | ⟨s1, s2⟩
  · rw [if_neg s3]
    have e50' : J4 97 50 = nI (c 0) := by rw [cf.2 50 (by omega)]; exact e50
    have h24 : c 0 < 24 := s1 0 (by omega)
    have e24 : (24 : Int32) + nI (c 0) = nI (24 + c 0) := nI_add 24 _
    have hb : zbd (nI (24 + c 0)) 48 = true := zbd_nI (by omega) (by decide)
    have hcl : (nI (24 + c 0)).toNatClampNeg = 24 + c 0 := nI_clamp (by omega)
    have q1 : ∀ u, zu J4 106 (24 + c 0) u 97 50 = nI (c 0) := fun u => by rw [zu_p _ _ (by decide)]; exact e50'
    have q2 : ∀ u u2, zu (zu J4 106 (24 + c 0) u) 107 (24 + c 0) u2 97 50 = nI (c 0) := fun u u2 => by rw [zu_p _ _ (by decide)]; exact q1 u
    simp only [zlt_b, e50', e24, zck_t _ hb, hcl, q1, q2, nI_1]
    have ev : v = nI (wV T F E (j + 3)) := by
      have e : j0 = j + 3 := by
        rcases hr with rfl | rfl
        · obtain ⟨h, q, -⟩ := h0 rfl; exact absurd (s1 h (by have := q.1; omega)) q.2.2
        · exact (h1 rfl).1
      rw [e] at v2
      rcases v2 with ⟨-, -, q⟩ | ⟨q, -⟩
      · exact q
      · exact absurd (s1 3 (by omega)) q
    have em := g6 (fun i hi => s1 i (by omega))
    refine ⟨_, _, rfl, ?_, Or.inl ⟨s1, ?_, ?_⟩⟩
    · refine ⟨fun p a b => ?_, fun q a => ?_, fun p a b => g7 p a, fun p l a b d => ?_⟩
      · rw [zu_pf _ _ a, zu_pf _ _ (by omega), zu_pf _ _ (by omega), cf.1 p a]
      · rw [zu_k _ _ (by omega), zu_p _ _ (by decide), zu_p _ _ (by decide), cf.2 q (by omega)]
      · have : l < 24 ∨ ¬ (p = 106 ∨ p = 107) := by
          by_cases z : p = 106 ∨ p = 107
          · left; unfold rg at d; rw [if_pos (by omega)] at d; exact d
          · exact Or.inr z
        rw [zu_p _ _ (by omega), ← cf.1 p (by omega)]
        rcases this with z | z
        · rw [zu_k _ _ (by omega), zu_k _ _ (by omega)]
        · rw [zu_p _ _ (by omega), zu_p _ _ (by omega)]
    · obtain ⟨⟨t1, t2, t3, t4⟩, t5⟩ := s2
      refine ⟨⟨t1.cg (by simp [zu]) (by funext k; simp [zu]), ?_, ?_, ?_⟩, ?_⟩
      · simp [zu]; exact t2
      · simp [zu]; exact t3
      · simp [zu]; exact t4
      · simp [zu]; exact t5
    · have pm : zPM G c N J4 M2 := (g5.cf k2).cf y3
      refine zPM_addL (M := M) (J := J) hm h24 ?_ ?_ ?_ ?_ ?_ ?_ ?_ ?_ ?_ ?_
      · rw [em, zul_eq]
      · intro l hl; rw [em, zul_k _ _ (by omega)]
      · exact g7 113 (by decide)
      · simp [zu]
      · intro q a b; rw [zu_k _ _ (by omega), zu_p _ _ (by decide), zu_p _ _ (by decide), cf.2 q (by omega)]
      · simp [zu]; rfl
      · simp [zu, ev]
      · intro z; exact absurd rfl z
      · intro p l a b d
        rw [zu_p _ _ (by omega), ← cf.1 p (by omega), zu_k _ _ (by omega), zu_k _ _ (by omega)]
      · intro p a b
        rw [zu_pf _ _ (by omega), zu_pf _ _ (by omega), zu_pf _ _ (by omega), cf.1 p (by omega)]
  · rw [if_pos s2]
    exact ⟨_, _, rfl, ⟨(cf.rf M).1, (cf.rf M).2.1, fun p a b => g7 p a, (cf.rf M).2.2.2⟩, Or.inr s1⟩
theorem c_inputS (hq : zpl Q) (hn : n ≤ 800) (ht : Tok T n m F E) (hT : ∀ k, k < n → T k < 127) (hj : j < m) (hs : CS Q T m F E j I L) (hc : zPC Q G c N I L) (hg : zPG G c N) (hk : k ≤ 65536) (h31 : I 3 1 = nI k) (h24 : c 0 < 24) :
    (chS (aIn T m F E c N k j) 5 → ∃ I' L', f_X8_takeInputSentence Q I L = some (1, I', L') ∧ FCl Q I L I' L' ∧ CS Q T m F E (j + 5) I' L' ∧ zPC Q (zu (zu (zu G 0 (c 0) (nI 0)) 1 (c 0) (nI (wV T F E (j + 3)))) 2 (c 0) (-1)) (cu c 0) (nu N 0 (c 0) (wG T F E (j + 1))) I' L') ∧
    (∀ h, chF (aIn T m F E c N k j) 5 h → ∃ I', f_X8_takeInputSentence Q I L = some (0, I', L) ∧ FCl Q I L I' L ∧ I' 3 4 = nI (j + h)) := by
  have s1 : CS Q T m F E (j + 1) (zu I 3 4 (nI (j + 1))) L := hs.up hj
  have p1 : zPC Q G c N (zu I 3 4 (nI (j + 1))) L := hc.up hq
  have f1 : FCl Q I L (zu I 3 4 (nI (j + 1))) L := FCl.at hq _
  generalize hI1 : zu I 3 4 (nI (j + 1)) = I1 at s1 p1 f1
  have e0 : ∀ X, f_X8_takeInputSentence Q I L = X ↔ zb2 (f_X8_takeNewLayer Q I1 L) (fun x4 I5 => if x4 = (-1 : Int64) then (f_X8_takeInputSentence_32 Q I5 L) else (zb2 (f_X8_takeSign (61 : Int32) I5 L) (fun x7 I8 => if x7 = 0 then (f_X8_takeInputSentence_32 Q I8 L) else (zb2 (f_X8_takeInput I8 L) (fun x10 I11 => if x10 = (-1 : Int32) then (f_X8_takeInputSentence_53 Q I11 L) else (zb2 (f_X8_takeSign (59 : Int32) I11 L) (fun x13 I14 => if x13 = 0 then (f_X8_takeInputSentence_53 Q I14 L) else (zck (decide (I14 3 3 = nI (Q + 1))) (zb2 (f_X7_addLayer Q x4 (0 : Int32) x10 (-1 : Int32) I14 L) (fun I17 L18 => some ((1 : Int32), I17, L18))))))))))) = X := by
    intro X
    unfold f_X8_takeInputSentence
    rw [zlt_b, zlt_b, hs.2.2.1, nI_1, hI1]
  simp only [e0]
  have nl := c_newLayer ht s1 p1 hg
  by_cases a1 : nwL T m F E (c 0) (N 0) (j + 1)
  · have gg := wG_good ht a1.1
    have s2 : CS Q T m F E (j + 2) (zu I1 3 4 (nI (j + 2))) L := s1.up (nwL_lt a1)
    have p2 : zPC Q G c N (zu I1 3 4 (nI (j + 2))) L := p1.up hq
    have f2 : FCl Q I L (zu I1 3 4 (nI (j + 2))) L := f1.trans (FCl.at hq _)
    have nl' : f_X8_takeNewLayer Q I1 L = some (z5c (wG T F E (j + 1)), zu I1 3 4 (nI (j + 2))) := nl.1 a1
    rw [nl']
    simp only [zb2, Option.bind_some]
    generalize zu I1 3 4 (nI (j + 2)) = I2 at s2 p2 f2
    rw [if_neg (c5_m1 gg)]
    have sn := c_sign hn ht hT s2 (ch := 61) (by decide)
    by_cases a2 : sg T m F E (j + 2) 61
    · have s3 : CS Q T m F E (j + 3) (zu I2 3 4 (nI (j + 3))) L := s2.up (sg_lt a2)
      have p3 : zPC Q G c N (zu I2 3 4 (nI (j + 3))) L := p2.up hq
      have f3 : FCl Q I L (zu I2 3 4 (nI (j + 3))) L := f2.trans (FCl.at hq _)
      have sn' : f_X8_takeSign 61 I2 L = some (1, zu I2 3 4 (nI (j + 3))) := sn.1 a2
      rw [sn']
      simp only [Option.bind_some]
      generalize zu I2 3 4 (nI (j + 3)) = I3 at s3 p3 f3
      rw [if_neg n10]
      have ni := c_input ht s3 hk (by rw [f3.2.1 1 (by decide)]; exact h31)
      by_cases a3 : inRg T m F E (j + 3) k
      · have hv := (wV_2 ht a3.1).1
        have s4 : CS Q T m F E (j + 4) (zu I3 3 4 (nI (j + 4))) L := s3.up (wS_lt (by rw [a3.1]; decide))
        have p4 : zPC Q G c N (zu I3 3 4 (nI (j + 4))) L := p3.up hq
        have f4 : FCl Q I L (zu I3 3 4 (nI (j + 4))) L := f3.trans (FCl.at hq _)
        have ni' : f_X8_takeInput I3 L = some (nI (wV T F E (j + 3)), zu I3 3 4 (nI (j + 4))) := ni.1 a3
        rw [ni']
        simp only [Option.bind_some]
        generalize zu I3 3 4 (nI (j + 4)) = I4 at s4 p4 f4
        rw [if_neg (nI_m1 (by omega))]
        have sn4 := c_sign hn ht hT s4 (ch := 59) (by decide)
        by_cases a4 : sg T m F E (j + 4) 59
        · have s5 : CS Q T m F E (j + 5) (zu I4 3 4 (nI (j + 5))) L := s4.up (sg_lt a4)
          have p5 : zPC Q G c N (zu I4 3 4 (nI (j + 5))) L := p4.up hq
          have f5 : FCl Q I L (zu I4 3 4 (nI (j + 5))) L := f4.trans (FCl.at hq _)
          have sn4' : f_X8_takeSign 59 I4 L = some (1, zu I4 3 4 (nI (j + 5))) := sn4.1 a4
          rw [sn4']
          simp only [Option.bind_some]
          generalize zu I4 3 4 (nI (j + 5)) = I5 at s5 p5 f5
          rw [if_neg n10, zck_t _ (decide_eq_true s5.2.2.2.1)]
          obtain ⟨I6, L6, x1, x2, x3, x4⟩ := zPC_addL hq p5 h24 (g := wG T F E (j + 1)) (w := nI 0) (a := nI (wV T F E (j + 3))) (b := -1)
          have x1' : f_X7_addLayer Q (z5c (wG T F E (j + 1))) 0 (nI (wV T F E (j + 3))) (-1) I5 L = some (I6, L6) := x1
          rw [x1']
          refine ⟨fun _ => ⟨I6, L6, rfl, f5.trans x2, s5.fc hq x2 s5.1 (by rw [x3]; exact s5.2.2.1), x4⟩, fun h hh => ?_⟩
          exfalso
          have : aIn T m F E c N k j h := by
            match h, hh.1 with
            | 0, _ => exact h24
            | 1, _ => exact a1
            | 2, _ => exact a2
            | 3, _ => exact a3
            | 4, _ => exact a4
          exact hh.2.2 this
        · have sn4' : f_X8_takeSign 59 I4 L = some (0, I4) := sn4.2 a4
          rw [sn4']
          simp only [Option.bind_some, if_true]
          refine ⟨fun z => absurd (z 4 (by omega)) a4, fun h hh => ⟨I4, rfl, f4, ?_⟩⟩
          have : h = 4 := chF_u hh (l := 5) (h := 4) ⟨by omega, fun i hi => by match i, hi with | 0, _ => exact h24 | 1, _ => exact a1 | 2, _ => exact a2 | 3, _ => exact a3, a4⟩
          rw [this]; exact s4.2.2.1
      · rw [ni.2 a3]
        simp only [Option.bind_some, if_true]
        refine ⟨fun z => absurd (z 3 (by omega)) a3, fun h hh => ⟨I3, rfl, f3, ?_⟩⟩
        have : h = 3 := chF_u hh (l := 5) (h := 3) ⟨by omega, fun i hi => by match i, hi with | 0, _ => exact h24 | 1, _ => exact a1 | 2, _ => exact a2, a3⟩
        rw [this]; exact s3.2.2.1
    · have sn' : f_X8_takeSign 61 I2 L = some (0, I2) := sn.2 a2
      rw [sn']
      simp only [Option.bind_some, if_true]
      refine ⟨fun z => absurd (z 2 (by omega)) a2, fun h hh => ⟨I2, rfl, f2, ?_⟩⟩
      have : h = 2 := chF_u hh (l := 5) (h := 2) ⟨by omega, fun i hi => by match i, hi with | 0, _ => exact h24 | 1, _ => exact a1, a2⟩
      rw [this]; exact s2.2.2.1
  · rw [nl.2 a1]
    simp only [zb2, Option.bind_some, if_true]
    refine ⟨fun z => absurd (z 1 (by omega)) a1, fun h hh => ⟨I1, rfl, f1, ?_⟩⟩
    have : h = 1 := chF_u hh (l := 5) (h := 1) ⟨by omega, fun i hi => by match i, hi with | 0, _ => exact h24, a1⟩
    rw [this]; exact s1.2.2.1
end In
