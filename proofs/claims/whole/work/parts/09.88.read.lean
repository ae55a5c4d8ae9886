/-! read -/
section Rx
variable {T : Nat → Nat} {n m : Nat} {F E : Nat → Nat}
theorem m_start (hn : n ≤ 800) (ht : Tok T n m F E) {K : zI} {M : zL} (hT : RT T n K) : ∃ J, f_X12_read K M = zlp2 f_X12_read_44 zF J M ∧ RS T n m F E 0 1 J ∧ (∀ i, i < 4 → J 97 (50 + i) = nI 0) ∧ J 97 0 = 0 ∧ (∀ p, p ≠ 97 → J p = K p) ∧ ∀ k, k ≠ 0 → ¬ (46 ≤ k ∧ k ≤ 53) → J 97 k = K 97 k := by
  unfold f_X12_read
  simp only [zlt_b]
  have e29 : zu (zu (zu (zu (zu (zu (zu (zu K 97 0 0) 97 47 0) 97 48 (-1)) 97 49 1) 97 50 0) 97 51 0) 97 52 0) 97 53 0 97 29 = K 97 29 := by simp [zu]
  have e47 : zu (zu (zu (zu (zu (zu (zu (zu K 97 0 0) 97 47 0) 97 48 (-1)) 97 49 1) 97 50 0) 97 51 0) 97 52 0) 97 53 0 97 47 = 0 := by simp [zu]
  have e48 : zu (zu (zu (zu (zu (zu (zu (zu K 97 0 0) 97 47 0) 97 48 (-1)) 97 49 1) 97 50 0) 97 51 0) 97 52 0) 97 53 0 97 48 = -1 := by simp [zu]
  have e49 : zu (zu (zu (zu (zu (zu (zu (zu K 97 0 0) 97 47 0) 97 48 (-1)) 97 49 1) 97 50 0) 97 51 0) 97 52 0) 97 53 0 97 49 = 1 := by simp [zu]
  have e00 : zu (zu (zu (zu (zu (zu (zu (zu K 97 0 0) 97 47 0) 97 48 (-1)) 97 49 1) 97 50 0) 97 51 0) 97 52 0) 97 53 0 97 0 = 0 := by simp [zu]
  have e50 : ∀ i, i < 4 → zu (zu (zu (zu (zu (zu (zu (zu K 97 0 0) 97 47 0) 97 48 (-1)) 97 49 1) 97 50 0) 97 51 0) 97 52 0) 97 53 0 97 (50 + i) = 0 := by
    intro i hi
    match i, hi with
    | 0, _ => simp [zu]
    | 1, _ => simp [zu]
    | 2, _ => simp [zu]
    | 3, _ => simp [zu]
  have ek : ∀ k, k ≠ 0 → ¬ (46 ≤ k ∧ k ≤ 53) → zu (zu (zu (zu (zu (zu (zu (zu K 97 0 0) 97 47 0) 97 48 (-1)) 97 49 1) 97 50 0) 97 51 0) 97 52 0) 97 53 0 97 k = K 97 k := by
    intro k k0 k1
    rw [zu_k _ _ (by omega), zu_k _ _ (by omega), zu_k _ _ (by omega), zu_k _ _ (by omega), zu_k _ _ (by omega), zu_k _ _ (by omega), zu_k _ _ (by omega), zu_k _ _ k0]
  have ho : ∀ p, p ≠ 97 → zu (zu (zu (zu (zu (zu (zu (zu K 97 0 0) 97 47 0) 97 48 (-1)) 97 49 1) 97 50 0) 97 51 0) 97 52 0) 97 53 0 p = K p := by
    intro p hp
    rw [zu_pf _ _ hp, zu_pf _ _ hp, zu_pf _ _ hp, zu_pf _ _ hp, zu_pf _ _ hp, zu_pf _ _ hp, zu_pf _ _ hp, zu_pf _ _ hp]
  generalize zu (zu (zu (zu (zu (zu (zu (zu K 97 0 0) 97 47 0) 97 48 (-1)) 97 49 1) 97 50 0) 97 51 0) 97 52 0) 97 53 0 = K8 at *
  obtain ⟨J, g1, g2, g3, g4⟩ := e_next hn ht (j := 0) (Nat.zero_le _) (J := K8) (hT.cg e29 (ho 117 (by decide))) (by rw [e47]; rfl) (by rw [e48]; decide)
  rw [g1, zb1_b]
  refine ⟨J, rfl, ⟨g2, by rw [g4 49 (by decide) (by decide) (by decide), e49]; rfl⟩, fun i hi => ?_, by rw [g4 0 (by decide) (by decide) (by decide), e00], fun p hp => by rw [g3 p hp, ho p hp], fun k k0 k1 => ?_⟩
  · rw [g4 (50 + i) (by omega) (by omega) (by omega), e50 i hi]; rfl
  · rw [g4 k (by omega) (by omega) (by omega), ek k k0 k1]
end Rx
/-- the class's words are made -/
theorem c_split {I : zI} {L : zL} (h : RTape I) : ∃ n m T F E I' L', n ≤ 800 ∧ m ≤ n ∧ I 97 29 = nI n ∧ (∀ k, k < n → T k < 127 ∧ I 117 k = nI (T k)) ∧ Tok T n m F E ∧ f_X10_split I L = some (I', L') ∧ CW T m F E I' L' ∧ (∀ p, p ≠ 4 → p ≠ 5 → I' p = I p) ∧ ∀ p, p ≠ 6 → L' p = L p := by
  obtain ⟨n, h1, h2, h3, h4⟩ := h
  have hT : ∀ k, k < n → (fun k => (I 2 k).toNatClampNeg) k < 127 ∧ I 2 k = nI ((fun k => (I 2 k).toNatClampNeg) k) ∧ I 117 k = nI ((fun k => (I 2 k).toNatClampNeg) k) := by
    intro k hk
    obtain ⟨c, c1, c2, c3⟩ := h4 k hk
    have := zCh_lt c1
    have e : (I 2 k).toNatClampNeg = c := by rw [c2]; exact nI_clamp (by omega)
    refine ⟨by show (I 2 k).toNatClampNeg < 127; omega, by show I 2 k = nI (I 2 k).toNatClampNeg; rw [e]; exact c2, by show I 117 k = nI (I 2 k).toNatClampNeg; rw [e]; exact c3⟩
  generalize (fun k => (I 2 k).toNatClampNeg) = T at hT
  have si : zSI T (zu I 4 2 0) L 0 0 (fun _ => 0) (fun _ => 0) (zu I 4 2 0) L 4 :=
    ⟨Nat.le_refl _, ⟨fun j hj => absurd hj (by omega), fun k _ hk => absurd hk (by omega), Nat.le_refl _⟩, zu_eq _ _ _ _, by rw [if_pos rfl], fun z => absurd rfl z, fun j hj => absurd hj (by omega), fun _ _ _ => rfl, fun _ _ => rfl⟩
  obtain ⟨m, F, E, I', L', s1, b, s2⟩ := split_loop (I0 := zu I 4 2 0) (L0 := L) h1 (by rw [zu_p _ _ (by decide)]; exact h2) (fun k hk => ⟨(hT k hk).1, by rw [zu_p _ _ (by decide)]; exact (hT k hk).2.1⟩) n 0 0 _ _ _ _ 4 zF (by omega) (zF_lt (by omega)) si
  obtain ⟨hm, ht, -, -, -, hw, hI, hL⟩ := s2
  refine ⟨n, m, T, F, E, zu I' 5 m 0, L', h1, hm, h3, fun k hk => ⟨(hT k hk).1, (hT k hk).2.2⟩, ht, ?_, CW_of ht hw, fun p p4 p5 => ?_, hL⟩
  · unfold f_X10_split
    rw [zlt_b]
    exact s1
  · rw [zu_pf _ _ p5, hI p p4 p5, zu_pf _ _ p4]
theorem sx_read : Sx_read zInv := by
  rintro I L ⟨P, Q, hp, h⟩
  refine ⟨P, zpq_l hp, Q, zpq_r hp, ?_⟩
  obtain ⟨h1, h2, h3, h4, h5, h6, h7, h8, h9, h10⟩ := h
  have hq := zpq_r hp
  obtain ⟨ni, i1, i2, i3, i4, i5⟩ := h3
  obtain ⟨n, m, T, F, E, Ia, La, n1, n2, n3, n4, ht, s1, cw, fa, fl⟩ := c_split (L := L) h4
  have hT : ∀ k, k < n → T k < 127 := fun k hk => (n4 k hk).1
  -- the class's state before the loop
  have Qf : Q ≠ 3 ∧ Q ≠ 4 ∧ Q ≠ 5 ∧ Q ≠ 97 ∧ Q ≠ 117 := by rcases hp with ⟨-, rfl⟩ | ⟨-, rfl⟩ <;> decide
  let I7 := zu (zu (zu (zu (zu Ia Q 12 0) Q 13 0) Q 14 0) Q 15 0) 3 4 0
  have hI7 : I7 = zu (zu (zu (zu (zu Ia Q 12 0) Q 13 0) Q 14 0) Q 15 0) 3 4 0 := rfl
  have f7 : ∀ p, p ≠ 3 → p ≠ 4 → p ≠ 5 → p ≠ Q → I7 p = I p := fun p a b d e => by rw [hI7, zu_pf _ _ a, zu_pf _ _ e, zu_pf _ _ e, zu_pf _ _ e, zu_pf _ _ e, fa p b d]
  have f73 : ∀ k, k ≠ 4 → I7 3 k = I 3 k := fun k a => by rw [hI7, zu_k _ _ a, zu_p _ _ Qf.1.symm, zu_p _ _ Qf.1.symm, zu_p _ _ Qf.1.symm, zu_p _ _ Qf.1.symm, fa 3 (by decide) (by decide)]
  have w7 : f_X8_wrongWord Q I L = zlp3 (f_X8_wrongWord_25 Q) zF (nI 0) I7 La := by
    unfold f_X8_wrongWord
    have a33 : Ia 3 3 = nI (Q + 1) := by rw [fa 3 (by decide) (by decide)]; exact h2
    rw [s1, zb2_b, zck_t _ (decide_eq_true a33)]
    unfold f_X7_clear
    simp only [zlt_b]
    rw [zb1_b]
    rfl
  have cs7 : CS Q T m F E 0 I7 La := ⟨Nat.zero_le _, by omega, zu_eq _ _ _ _, by rw [f73 3 (by decide)]; exact h2, cw.cg (by rw [hI7, zu_pf _ _ (by decide), zu_pf _ _ Qf.2.2.1.symm, zu_pf _ _ Qf.2.2.1.symm, zu_pf _ _ Qf.2.2.1.symm, zu_pf _ _ Qf.2.2.1.symm]) rfl⟩
  have pc7 : zPC Q (fun _ _ => 0) (fun _ => 0) (fun _ _ => []) I7 La := by
    refine ⟨fun i hi => ?_, fun l hl => absurd hl (Nat.not_lt_zero _), fun l hl => absurd hl (Nat.not_lt_zero _), fun l hl => absurd hl (Nat.not_lt_zero _), fun l hl => absurd hl (Nat.not_lt_zero _)⟩
    rw [hI7, zu_p _ _ Qf.1]
    match i, hi with
    | 0, _ => rw [zu_k _ _ (by decide), zu_k _ _ (by decide), zu_k _ _ (by decide), zu_eq]; rfl
    | 1, _ => rw [zu_k _ _ (by decide), zu_k _ _ (by decide), zu_eq]; rfl
    | 2, _ => rw [zu_k _ _ (by decide), zu_eq]; rfl
    | 3, _ => rw [zu_eq]; rfl
  have pg7 : zPG (fun _ _ => 0) (fun _ => 0) (fun _ _ => []) := ⟨⟨by decide, by decide, by decide, by decide⟩, fun l hl => absurd hl (Nat.not_lt_zero _), fun l k hl => absurd hl (Nat.not_lt_zero _), fun l hl => absurd hl (Nat.not_lt_zero _), fun l hl => absurd hl (Nat.not_lt_zero _), fun l hl => absurd hl (Nat.not_lt_zero _), fun l k hl => absurd hl (Nat.not_lt_zero _), fun l hl => absurd hl (Nat.not_lt_zero _), fun l hl => absurd hl (Nat.not_lt_zero _)⟩
  have h31 : I7 3 1 = nI ni := by rw [f73 1 (by decide)]; exact i5
  have both : ∀ (K : zI) (M : zL), K 97 29 = I 97 29 → K 97 1 = I 97 1 → K 117 = I 117 → ∃ x I' L' J' M', zlp3 (f_X8_wrongWord_25 Q) zF (nI 0) I7 La = some (x, I', L') ∧ f_X12_read K M = f_X12_read_69 J' M' ∧ FCl Q I7 La I' L' ∧ ((∀ p, p ≠ 97 → ¬ (106 ≤ p ∧ p ≤ 116) → J' p = K p) ∧ J' 97 0 = 0 ∧ (∀ k, k ≠ 0 → ¬ (46 ≤ k ∧ k ≤ 53) → J' 97 k = K 97 k) ∧ (∀ p, p ≠ 105 → p ≠ 113 → M' p = M p) ∧ ∀ p l, 106 ≤ p → p ≤ 116 → l < rg p → J' p l = K p l) ∧ ((x = -1 ∧ J' 97 49 = nI 1 ∧ ∃ G' c' N', zPC Q G' c' N' I' L' ∧ zPM G' c' N' J' M' ∧ zPG G' c' N') ∨ ∃ j', j' ≤ m ∧ x = nI j' ∧ J' 97 49 = 0 ∧ J' 97 48 = nI j') := by
    intro K M k1 k2 k3
    obtain ⟨J, j1, j2, j3, j0, j4, j5⟩ := m_start (M := M) n1 ht (K := K) ⟨by rw [k1]; exact n3, fun k hk => ⟨(n4 k hk).1, by rw [k3]; exact (n4 k hk).2⟩⟩
    have pmJ : zPM (fun _ _ => 0) (fun _ => 0) (fun _ _ => []) J M := ⟨j3, fun l hl => absurd hl (Nat.not_lt_zero _), fun l hl => absurd hl (Nat.not_lt_zero _), fun l hl => absurd hl (Nat.not_lt_zero _), fun l hl => absurd hl (Nat.not_lt_zero _)⟩
    obtain ⟨x, I', L', J', M', a1, a2, a3, a4, a5⟩ := r_loop (k := ni) hq n1 n2 ht hT i2 m 0 0 zF zF I7 La J M _ _ _ (by omega) (Nat.le_refl _) (zF_lt (by omega)) (zF_lt (by omega)) cs7 pc7 pg7 j2 pmJ h31 (by rw [j5 1 (by decide) (by omega), k2]; exact i4)
    refine ⟨x, I', L', J', M', a1, by rw [j1]; exact a2, a3, ⟨fun p a b => by rw [a4.1 p a b, j4 p a], by rw [a4.2.1 0 (by omega)]; exact j0, fun k a b => by rw [a4.2.1 k b, j5 k a b], a4.2.2.1, fun p l a b d => by rw [a4.2.2.2 p l a b d, j4 p (by omega)]⟩, a5⟩
  obtain ⟨x, I', L', J0, M0, c1, _, c2, _, c3⟩ := both I L rfl rfl rfl
  have c1' : f_X8_wrongWord Q I L = some (x, I', L') := by rw [w7]; exact c1
  have fI : ∀ p, p ≠ 3 → p ≠ 4 → p ≠ 5 → ¬ (Q ≤ p ∧ p ≤ Q + 12) → I' p = I p := fun p a b d e => by rw [c2.1 p a e, f7 p a b d (by omega)]
  have fI3 : ∀ k, k ≠ 4 → I' 3 k = I 3 k := fun k a => by rw [c2.2.1 k a, f73 k a]
  have fL : ∀ p, p ≠ 6 → p ≠ Q + 1 → p ≠ Q + 9 → L' p = L p := fun p a b d => by rw [c2.2.2 p b d, fl p a]
  have Q0 : ¬ (Q ≤ 0 ∧ 0 ≤ Q + 12) ∧ ¬ (Q ≤ 1 ∧ 1 ≤ Q + 12) ∧ ¬ (Q ≤ 97 ∧ 97 ≤ Q + 12) ∧ ¬ (Q ≤ 117 ∧ 117 ≤ Q + 12) ∧ (∀ p, 20 ≤ p → p ≤ 83 → ¬ (Q ≤ p ∧ p ≤ Q + 12)) ∧ (∀ p, 97 ≤ p → ¬ (Q ≤ p ∧ p ≤ Q + 12)) ∧ ∀ k, k ≤ 12 → ¬ (Q ≤ P + k ∧ P + k ≤ Q + 12) := by
    rcases hp with ⟨rfl, rfl⟩ | ⟨rfl, rfl⟩ <;> (refine ⟨by omega, by omega, by omega, by omega, fun p a b => by omega, fun p a => by omega, fun k hk => by omega⟩)
  have P0 : (∀ k, k ≤ 12 → P + k ≠ 0 ∧ P + k ≠ 1 ∧ P + k ≠ 3 ∧ P + k ≠ 4 ∧ P + k ≠ 5 ∧ P + k ≠ 97 ∧ ¬ (106 ≤ P + k ∧ P + k ≤ 116)) ∧ (∀ k, k ≤ 12 → Q + k ≠ 0 ∧ Q + k ≠ 1 ∧ Q + k ≠ 3 ∧ Q + k ≠ 4 ∧ Q + k ≠ 5 ∧ Q + k ≠ 97 ∧ ¬ (106 ≤ Q + k ∧ Q + k ≤ 116)) := by
    rcases hp with ⟨rfl, rfl⟩ | ⟨rfl, rfl⟩ <;> exact ⟨fun k hk => by omega, fun k hk => by omega⟩
  have I08 : I' 0 8 = nI (P + 1) := by rw [fI 0 (by decide) (by decide) (by decide) Q0.1]; exact h1
  have I33 : I' 3 3 = nI (Q + 1) := by rw [fI3 3 (by decide)]; exact h2
  rcases c3 with ⟨rfl, -, -⟩ | ⟨j', j1, rfl, -, -⟩
  · -- a right text
    let I11 := zu (zu (zu (zu (zu I' 1 1 0) 3 3 (nI (P + 1))) 0 8 (nI (Q + 1))) 0 9 1) 0 10 0
    have hI11 : I11 = zu (zu (zu (zu (zu I' 1 1 0) 3 3 (nI (P + 1))) 0 8 (nI (Q + 1))) 0 9 1) 0 10 0 := rfl
    have g11 : ∀ p, p ≠ 0 → p ≠ 1 → p ≠ 3 → I11 p = I' p := fun p a b d => by rw [hI11, zu_pf _ _ a, zu_pf _ _ a, zu_pf _ _ a, zu_pf _ _ d, zu_pf _ _ b]
    have cls : f_X11_read P Q I L = some (I11 Q 15, I11, L') := by
      unfold f_X11_read
      rw [c1', zb3_b, zlt_b, if_pos rfl, zck_t _ (decide_eq_true (by rw [zu_p _ _ (by decide)]; exact I08))]
      unfold f_X8_exchange
      rw [zck_t _ (decide_eq_true (by rw [zu_p _ _ (by decide)]; exact I33)), zlt_b, zb1_b]
      simp only [zlt_b]
      rw [zck_t _ (decide_eq_true (by simp [zu]))]
    obtain ⟨x2, I2', L2', J', M', d1, d2, d3, ⟨d4, d40, d5, d6, d7⟩, d8⟩ := both I11 L' (by rw [g11 97 (by decide) (by decide) (by decide), fI 97 (by decide) (by decide) (by decide) Q0.2.2.1]) (by rw [g11 97 (by decide) (by decide) (by decide), fI 97 (by decide) (by decide) (by decide) Q0.2.2.1]) (by rw [g11 117 (by decide) (by decide) (by decide), fI 117 (by decide) (by decide) (by decide) Q0.2.2.2.1])
    rw [c1] at d1
    have de := Option.some.inj d1
    have ex : (-1 : Int32) = x2 := congrArg Prod.fst de
    have eI : I' = I2' := congrArg (fun t => t.2.1) de
    have eL : L' = L2' := congrArg (fun t => t.2.2) de
    subst ex; subst eI; subst eL
    rcases d8 with ⟨-, e49, G, c, N, pc, pm, pg⟩ | ⟨j', jm, jx, -⟩
    · obtain ⟨K2, M2, a1, a2, a3, a4, a5, a6, a7, a8⟩ := e_adopt (J := zu J' 97 29 0) (M := M')
      have rf : f_X12_read I11 L' = some (K2 97 15, K2, M2) := by
        rw [d2]
        unfold f_X12_read_69
        rw [zlt_b, zu_k _ _ (by decide), e49, if_neg (show ¬ nI 1 = 0 by decide), a1, zb2_b, zlt_b]
      have z97 : ∀ k, k ≠ 0 → ¬ (46 ≤ k ∧ k ≤ 53) → k ≠ 11 → k ≠ 30 → ¬ (12 ≤ k ∧ k ≤ 15) → k ≠ 29 → K2 97 k = I 97 k := fun k e0 e1 e2 e3 e4 e5 => by rw [a5 k e2 e3 e4, zu_k _ _ e5, d5 k e0 e1, g11 97 (by decide) (by decide) (by decide), fI 97 (by decide) (by decide) (by decide) Q0.2.2.1]
      have zo : ∀ p, p ≠ 97 → ¬ (106 ≤ p ∧ p ≤ 116) → K2 p = I11 p := fun p e1 e2 => by rw [a6 p e1 e2, zu_pf _ _ e1, d4 p e1 e2]
      have zz : ∀ p, p ≠ 0 → p ≠ 1 → p ≠ 3 → p ≠ 4 → p ≠ 5 → p ≠ 97 → ¬ (106 ≤ p ∧ p ≤ 116) → ¬ (Q ≤ p ∧ p ≤ Q + 12) → K2 p = I p := fun p b0 b1 b3 b4 b5 b97 br bq => by rw [zo p b97 br, g11 p b0 b1 b3, fI p b3 b4 b5 bq]
      have rp : RPlan Q K2 := RPlan_of pc pm pg (fun k hk => by
          have q := P0.2 0 (by omega)
          rw [zo Q q.2.2.2.2.2.1 q.2.2.2.2.2.2, g11 Q q.1 q.2.1 q.2.2.1]) (fun k hk => by
          have q := P0.2 (1 + k) (by omega)
          rw [← Nat.add_assoc] at q
          rw [zo _ q.2.2.2.2.2.1 q.2.2.2.2.2.2, g11 _ q.1 q.2.1 q.2.2.1]) (fun i hi => by rw [a4 i hi, zu_k _ _ (by omega)]) (fun p l b1 b2 b3 hl => by rw [a7 p l b1 b2 b3 hl, zu_p _ _ (by omega)])
      have ev : I11 Q 15 = K2 97 15 := by
        have q := P0.2 0 (by omega)
        obtain ⟨nl, nw, nj, nk, -, -, -, ⟨-, k1, k2, -⟩⟩ := rp
        rw [← zo Q q.2.2.2.2.2.1 q.2.2.2.2.2.2, k1, k2]
      refine ⟨I11 Q 15, I11, L', K2, M2, cls, by rw [rf, ev], Q, P, zpq_s hp, ?_, ?_, ⟨ni, i1, i2, ?_, ?_, ?_⟩, ⟨0, by omega, ?_, ?_, fun k hk => absurd hk (by omega)⟩, ?_, ?_, rp, ⟨Or.inr ⟨?_, a2⟩, Or.inl ⟨?_, a3⟩⟩, ?_, fun z => ?_⟩
      · rw [zo 0 (by decide) (by decide), hI11]; simp [zu]
      · rw [zo 3 (by decide) (by decide), hI11]; simp [zu]
      · rw [zo 0 (by decide) (by decide), hI11]; simp [zu]; rw [fI 0 (by decide) (by decide) (by decide) Q0.1]; exact i3
      · rw [z97 1 (by decide) (by omega) (by decide) (by decide) (by omega) (by decide)]; exact i4
      · rw [zo 3 (by decide) (by decide), hI11]; simp [zu]; rw [fI3 1 (by decide)]; exact i5
      · rw [zo 1 (by decide) (by decide), hI11]; simp [zu]; rfl
      · rw [a5 29 (by decide) (by decide) (by decide), zu_eq]; rfl
      · exact h5.cg (by rw [zz 20 (by decide) (by decide) (by decide) (by decide) (by decide) (by decide) (by decide) (Q0.2.2.2.2.1 20 (by omega) (by omega))]) (z97 2 (by decide) (by omega) (by decide) (by decide) (by omega) (by decide)) (fun p hp' => zz p (by omega) (by omega) (by omega) (by omega) (by omega) (by omega) (by omega) (by rcases Nat.lt_or_ge p 84 with y | y; exact Q0.2.2.2.2.1 p (by omega) (by omega); exact Q0.2.2.2.2.2.1 p (by omega)))
      · exact h6.cg (by rw [zz 26 (by decide) (by decide) (by decide) (by decide) (by decide) (by decide) (by decide) (Q0.2.2.2.2.1 26 (by omega) (by omega))]) (z97 7 (by decide) (by omega) (by decide) (by decide) (by omega) (by decide)) (fun p hp' => zz p (by omega) (by omega) (by omega) (by omega) (by omega) (by omega) (by omega) (by rcases Nat.lt_or_ge p 84 with y | y; exact Q0.2.2.2.2.1 p (by omega) (by omega); exact Q0.2.2.2.2.2.1 p (by omega)))
      · rw [zo 0 (by decide) (by decide), hI11]; simp [zu]
      · rw [zo 0 (by decide) (by decide), hI11]; simp [zu]
      · refine h9.cg ?_ ?_ ?_
        · rw [zz 57 (by decide) (by decide) (by decide) (by decide) (by decide) (by decide) (by decide) (Q0.2.2.2.2.1 57 (by omega) (by omega))]
        · rw [zz 57 (by decide) (by decide) (by decide) (by decide) (by decide) (by decide) (by decide) (Q0.2.2.2.2.1 57 (by omega) (by omega))]
        · rw [a8 58 (by decide), d6 58 (by decide) (by decide), fL 58 (by decide) (by rcases hp with ⟨-, rfl⟩ | ⟨-, rfl⟩ <;> decide) (by rcases hp with ⟨-, rfl⟩ | ⟨-, rfl⟩ <;> decide)]
      · rw [zo 0 (by decide) (by decide), hI11] at z; simp [zu] at z
    · exact absurd jx.symm (nI_m1 (by omega))
  · -- a wrong word
    let I5 := zu I' 1 1 0
    have hI5 : I5 = zu I' 1 1 0 := rfl
    have g5 : ∀ p, p ≠ 1 → I5 p = I' p := fun p a => zu_pf _ _ a
    have cls : f_X11_read P Q I L = some (-1 - nI j', I5, L') := by
      unfold f_X11_read
      rw [c1', zb3_b, zlt_b, if_neg (nI_m1 (by omega)), zlt_b]
    obtain ⟨x2, I2', L2', J', M', d1, d2, d3, ⟨d4, d40, d5, d6, d7⟩, d8⟩ := both I5 L' (by rw [g5 97 (by decide), fI 97 (by decide) (by decide) (by decide) Q0.2.2.1]) (by rw [g5 97 (by decide), fI 97 (by decide) (by decide) (by decide) Q0.2.2.1]) (by rw [g5 117 (by decide), fI 117 (by decide) (by decide) (by decide) Q0.2.2.2.1])
    rw [c1] at d1
    have de := Option.some.inj d1
    have ex : nI j' = x2 := congrArg Prod.fst de
    rcases d8 with ⟨e1, -⟩ | ⟨j2, jm, jx, e49, e48⟩
    · exact absurd (ex.trans e1) (nI_m1 (by omega))
    · have ej : j2 = j' := (nI_eq (by omega) (by omega)).mp (jx.symm.trans ex.symm)
      subst ej
      have rf : f_X12_read I5 L' = some (-1 - nI j2, zu J' 97 29 0, M') := by
        rw [d2]
        unfold f_X12_read_69
        rw [zlt_b, zu_k _ _ (by decide), e49, if_pos rfl, zlt_b, zu_k _ _ (by decide), e48]
      have z97 : ∀ k, k ≠ 0 → ¬ (46 ≤ k ∧ k ≤ 53) → k ≠ 29 → zu J' 97 29 0 97 k = I 97 k := fun k e0 e1 e5 => by rw [zu_k _ _ e5, d5 k e0 e1, g5 97 (by decide), fI 97 (by decide) (by decide) (by decide) Q0.2.2.1]
      have zo : ∀ p, p ≠ 97 → ¬ (106 ≤ p ∧ p ≤ 116) → zu J' 97 29 0 p = I5 p := fun p e1 e2 => by rw [zu_pf _ _ e1, d4 p e1 e2]
      have zz : ∀ p, p ≠ 1 → p ≠ 3 → p ≠ 4 → p ≠ 5 → p ≠ 97 → ¬ (106 ≤ p ∧ p ≤ 116) → ¬ (Q ≤ p ∧ p ≤ Q + 12) → zu J' 97 29 0 p = I p := fun p b1 b3 b4 b5 b97 br bq => by rw [zo p b97 br, g5 p b1, fI p b3 b4 b5 bq]
      have zr : ∀ p l, 106 ≤ p → p ≤ 116 → l < rg p → zu J' 97 29 0 p l = I p l := fun p l b1 b2 b3 => by rw [zu_p _ _ (by omega), d7 p l b1 b2 b3, g5 p (by omega), fI p (by omega) (by omega) (by omega) (Q0.2.2.2.2.2.1 p (by omega))]
      have zP : ∀ k, k ≤ 12 → zu J' 97 29 0 (P + k) = I (P + k) := fun k hk => by
        have q := P0.1 k hk
        exact zz _ q.2.1 q.2.2.1 q.2.2.2.1 q.2.2.2.2.1 q.2.2.2.2.2.1 q.2.2.2.2.2.2 (Q0.2.2.2.2.2.2 k hk)
      have z3 : ∀ k, k ≠ 4 → zu J' 97 29 0 3 k = I 3 k := fun k a => by rw [zo 3 (by decide) (by decide), g5 3 (by decide), fI3 k a]
      have z0 : zu J' 97 29 0 0 = I 0 := zz 0 (by decide) (by decide) (by decide) (by decide) (by decide) (by decide) Q0.1
      have zp : ∀ p, 20 ≤ p → p ≤ 83 ∨ 97 ≤ p → p ≠ 97 → ¬ (106 ≤ p ∧ p ≤ 116) → zu J' 97 29 0 p = I p := fun p b1 b2 b3 b4 => zz p (by omega) (by omega) (by omega) (by omega) b3 b4 (by rcases b2 with y | y; exact Q0.2.2.2.2.1 p b1 y; exact Q0.2.2.2.2.2.1 p y)
      refine ⟨-1 - nI j2, I5, L', zu J' 97 29 0, M', cls, rf, P, Q, hp, by rw [z0]; exact h1, by rw [z3 3 (by decide)]; exact h2, ⟨ni, i1, i2, by rw [z0]; exact i3, by rw [z97 1 (by decide) (by omega) (by decide)]; exact i4, by rw [z3 1 (by decide)]; exact i5⟩, ⟨0, by omega, by rw [zo 1 (by decide) (by decide), hI5, zu_eq]; rfl, zu_eq _ _ _ _, fun k hk => absurd hk (by omega)⟩, ?_, ?_, ?_, ?_, ?_, fun z => ?_⟩
      · exact h5.cg (by rw [zp 20 (by decide) (by decide) (by decide) (by decide)]) (z97 2 (by decide) (by omega) (by decide)) (fun p hp' => zp p (by omega) (by omega) (by omega) (by omega))
      · exact h6.cg (by rw [zp 26 (by decide) (by decide) (by decide) (by decide)]) (z97 7 (by decide) (by omega) (by decide)) (fun p hp' => zp p (by omega) (by omega) (by omega) (by omega))
      · refine h7.cg2 (fun k k1 k2 => by have := zP 0 (by omega); rw [Nat.add_zero] at this; rw [this]) (fun k k1 k2 => z97 k (by omega) (by omega) (by omega)) (fun k hk => ?_) zr
        have := zP (1 + k) (by omega)
        rw [← Nat.add_assoc] at this
        exact this
      · exact h8.cg (by rw [z0]) (z97 11 (by decide) (by omega) (by decide)) (by rw [z0]) (z97 30 (by decide) (by omega) (by decide))
      · refine h9.cg (by rw [zp 57 (by decide) (by decide) (by decide) (by decide)]) (by rw [zp 57 (by decide) (by decide) (by decide) (by decide)]) ?_
        rw [d6 58 (by decide) (by decide), fL 58 (by decide) (by rcases hp with ⟨-, rfl⟩ | ⟨-, rfl⟩ <;> decide) (by rcases hp with ⟨-, rfl⟩ | ⟨-, rfl⟩ <;> decide)]
      · rw [z0] at z
        refine ⟨?_, (h10 z).2.cg (fun p hp' => zp p (by omega) (by omega) (by omega) (by omega)) (fun D _ hd => hd.cgP zP (fun p b1 b2 => zp p (by omega) (by omega) (by omega) (by omega)))⟩
        refine (h10 z).1.cg2 (z97 38 (by decide) (by omega) (by decide)) (z97 39 (by decide) (by omega) (by decide)) (by have := zP 0 (by omega); rw [Nat.add_zero] at this; rw [this]) (by have := zP 0 (by omega); rw [Nat.add_zero] at this; rw [this]) (by rw [zp 26 (by decide) (by decide) (by decide) (by decide)]) (by rw [zp 73 (by decide) (by decide) (by decide) (by decide)]) (by rw [zp 61 (by decide) (by decide) (by decide) (by decide)]) (fun p hp' => zp p (by omega) (by omega) (by omega) (by omega)) (fun l hl => zr 109 l (by decide) (by decide) hl) (fun l hl => zr 115 l (by decide) (by decide) hl) ?_
        rw [d6 129 (by decide) (by decide), fL 129 (by decide) (by rcases hp with ⟨-, rfl⟩ | ⟨-, rfl⟩ <;> decide) (by rcases hp with ⟨-, rfl⟩ | ⟨-, rfl⟩ <;> decide)]
