/-! read: its loop, its end -/
theorem RPlan.cg2 {P : Nat} {I J : zI} (h : RPlan P I) (e1 : ∀ k, 12 ≤ k → k < 16 → J P k = I P k) (e2 : ∀ k, 12 ≤ k → k < 16 → J 97 k = I 97 k) (e3 : ∀ k, k < 12 → J (P + 1 + k) = I (P + 1 + k)) (e : ∀ p l, 106 ≤ p → p ≤ 116 → l < rg p → J p l = I p l) : RPlan P J := by
  obtain ⟨nl, nw, nj, nk, ⟨a1, a2, a3, a4⟩, ⟨b1, b2, b3, b4⟩, ⟨c1, c2, c3, c4⟩, ⟨d1, d2, d3, d4⟩⟩ := h
  have e106 : ∀ l, l < 24 → J 106 l = I 106 l := fun l hl => e 106 l (by decide) (by decide) hl
  have e107 : ∀ l, l < 24 → J 107 l = I 107 l := fun l hl => e 107 l (by decide) (by decide) hl
  have e108 : ∀ l, l < 24 → J 108 l = I 108 l := fun l hl => e 108 l (by decide) (by decide) hl
  have e109 : ∀ l, l < 8 → J 109 l = I 109 l := fun l hl => e 109 l (by decide) (by decide) hl
  have e110 : ∀ l, l < 16 → J 110 l = I 110 l := fun l hl => e 110 l (by decide) (by decide) hl
  have e111 : ∀ l, l < 16 → J 111 l = I 111 l := fun l hl => e 111 l (by decide) (by decide) hl
  have e112 : ∀ l, l < 16 → J 112 l = I 112 l := fun l hl => e 112 l (by decide) (by decide) hl
  have e114 : ∀ l, l < 8 → J 114 l = I 114 l := fun l hl => e 114 l (by decide) (by decide) hl
  have e115 : ∀ l, l < 8 → J 115 l = I 115 l := fun l hl => e 115 l (by decide) (by decide) hl
  have e116 : ∀ l, l < 32 → J 116 l = I 116 l := fun l hl => e 116 l (by decide) (by decide) hl
  refine ⟨nl, nw, nj, nk, ⟨a1, by rw [e1 12 (by omega) (by omega)]; exact a2, by rw [e2 12 (by omega) (by omega)]; exact a3, fun l hl => ?_⟩, ⟨b1, by rw [e1 13 (by omega) (by omega)]; exact b2, by rw [e2 13 (by omega) (by omega)]; exact b3, fun w hw => ?_⟩, ⟨c1, by rw [e1 14 (by omega) (by omega)]; exact c2, by rw [e2 14 (by omega) (by omega)]; exact c3, fun j hj => ?_⟩, ⟨d1, by rw [e1 15 (by omega) (by omega)]; exact d2, by rw [e2 15 (by omega) (by omega)]; exact d3, fun k hk => ?_⟩⟩
  · rw [e3 1 (by omega), e3 2 (by omega), e3 3 (by omega), e106 l (by omega), e107 l (by omega), e108 l (by omega)]; exact a4 l hl
  · rw [e3 4 (by omega), e109 w (by omega)]; exact b4 w hw
  · rw [e3 5 (by omega), e3 6 (by omega), e3 7 (by omega), e110 j (by omega), e111 j (by omega), e112 j (by omega)]; exact c4 j hj
  · obtain ⟨x, c, q1, q2, q3, q4, q5⟩ := d4 k hk
    rw [e3 9 (by omega), e3 10 (by omega), e3 11 (by omega), e114 k (by omega), e115 k (by omega)]
    refine ⟨x, c, q1, q2, q3, q4, fun i hi => ?_⟩
    rw [e116 _ (by omega)]; exact q5 i hi
theorem RFound.cg2 {P : Nat} {I J : zI} {L M : zL} (h : RFound P I L) (e1 : J 97 38 = I 97 38) (e2 : J 97 39 = I 97 39) (e3 : J P 13 = I P 13) (e4 : J P 15 = I P 15) (e5 : J 26 0 = I 26 0)
    (e6 : J 73 7 = I 73 7) (e7 : J 61 1 = I 61 1) (e : ∀ p, p = 27 ∨ p = 28 ∨ p = 30 ∨ p = 72 ∨ p = 77 ∨ p = 78 ∨ p = 79 ∨ p = 80 ∨ p = 81 ∨ p = 82 ∨ p = 83 ∨ p = 119 ∨ p = 121 ∨ p = 123 ∨ p = 124 ∨ p = 125 ∨ p = 126 ∨ p = 127 ∨ p = 128 ∨ (63 ≤ p ∧ p < 71) → J p = I p) (e9 : ∀ l, l < 8 → J 109 l = I 109 l) (e15 : ∀ l, l < 8 → J 115 l = I 115 l) (e8 : M 129 = L 129) : RFound P J M := by
  have hn : ∀ x, zNet J x = zNet I x := fun x => by unfold zNet; rw [e 123 (by omega)]
  have hd : ∀ w q, w < 8 → zNode J w q = zNode I w q := fun w q hw => by unfold zNode; rw [e 119 (by omega), e9 w hw, e 121 (by omega)]
  have hf : zFresh J = zFresh I := by funext c kd d; unfold zFresh zSame; rw [e 77 (by omega), e 79 (by omega), e 82 (by omega)]
  obtain ⟨D, nn, nd, nw, nk, h1, h2, h3, h4, h5, h6, h7, h8, h9, h10, h11, h12, h13, h14, h15, h16⟩ := h
  refine ⟨D, nn, nd, nw, nk, h1, h2, h3, h4, h5, e6 ▸ h6, e2 ▸ h7, e7 ▸ h8, e1 ▸ h9, e3 ▸ h10, e4 ▸ h11, ?_, ?_, ?_, ?_, ?_⟩
  · intro d hD
    obtain ⟨k, k0, r⟩ := h12 d hD
    refine ⟨k, k0, ?_⟩
    simp only [hn]
    rw [e 77 (by omega), e 124 (by omega), e 78 (by omega), e 125 (by omega), e 79 (by omega), e 127 (by omega), e 80 (by omega), e 126 (by omega), e 81 (by omega), e 82 (by omega), e15 k (by omega), e 128 (by omega), e8]
    exact r
  · intro kd hkd
    obtain ⟨c, r⟩ := h13 kd hkd
    refine ⟨c, ?_⟩
    rw [e15 kd (by omega), e 83 (by omega), hf]; exact r
  · rw [e 72 (by omega), e 123 (by omega)]; exact h14
  · intro w q hw hq
    rw [e (63 + w) (by omega), hd w q (by omega)]; exact h15 w q hw hq
  · intro t w q q1 q2 q3 q4 q5 q6
    rw [e5] at q1; rw [e 27 (by omega)] at q3; rw [e 28 (by omega)] at q5
    rw [e 30 (by omega), hn, hd w q q4]
    exact h16 t w q q1 q2 q3 q4 q5 q6
section Rd
variable {Q : Nat} {T : Nat → Nat} {n m : Nat} {F E : Nat → Nat} {k : Nat}
theorem e_atEnd {I : zI} {L : zL} {j : Nat} (hs : CS Q T m F E j I L) : (j = m → f_X8_isAtEnd I = some 1) ∧ (j ≠ m → f_X8_isAtEnd I = some 0) := by
  obtain ⟨hj, hm, h34, h33, hw⟩ := hs
  obtain ⟨w1, -⟩ := hw j hj
  unfold f_X8_isAtEnd f_X8_isAtEnd_20
  simp only [zlt_b]
  rw [h34, zck_t _ (zbd_nI (by omega) (by decide)), nI_clamp (by omega), w1, zck_t _ zbo_1, zck_t _ zbo_0]
  constructor
  · intro z
    rw [wS_end (by omega), if_pos (show nI 0 = 0 from rfl)]
  · intro z
    rw [if_neg (show ¬ nI (wS T m F E j) = 0 from fun y => wS_in (show j < m by omega) ((nI_wS (k := 0) (by decide)).mp y))]
/-- both loops -/
theorem r_loop (hq : zpl Q) (hn : n ≤ 800) (hmn : m ≤ n) (ht : Tok T n m F E) (hT : ∀ k, k < n → T k < 127) (hk : k ≤ 65536) :
    ∀ r j s f g I L J M G c N, j + r = m → s ≤ j → r < f → r + 1 < g → CS Q T m F E j I L → zPC Q G c N I L → zPG G c N → RS T n m F E j 1 J → zPM G c N J M → I 3 1 = nI k → J 97 1 = nI k →
    ∃ x I' L' J' M', zlp3 (f_X8_wrongWord_25 Q) f (nI s) I L = some (x, I', L') ∧ zlp2 f_X12_read_44 g J M = f_X12_read_69 J' M' ∧ FCl Q I L I' L' ∧ FRf J M J' M' ∧ ((x = -1 ∧ J' 97 49 = nI 1 ∧ ∃ G' c' N', zPC Q G' c' N' I' L' ∧ zPM G' c' N' J' M' ∧ zPG G' c' N') ∨ ∃ j', j' ≤ m ∧ x = nI j' ∧ J' 97 49 = 0 ∧ J' 97 48 = nI j')
  | _, _, _, 0, _, _, _, _, _, _, _, _, _, _, h, _, _, _, _, _, _, _, _ => absurd h (by omega)
  | _, _, _, _, 0, _, _, _, _, _, _, _, _, _, _, h, _, _, _, _, _, _, _ => absurd h (by omega)
  | r, j, s, f + 1, g + 1, I, L, J, M, G, c, N, hj, hs, hf, hg, cs, pc, pg, rs, pm, h31, hJ1 => by
    have ih : ∀ j' s' I L J M G c N, j < j' → s' ≤ j' → j' ≤ m → CS Q T m F E j' I L → zPC Q G c N I L → zPG G c N → RS T n m F E j' 1 J → zPM G c N J M → I 3 1 = nI k → J 97 1 = nI k → ∃ x I' L' J' M', zlp3 (f_X8_wrongWord_25 Q) f (nI s') I L = some (x, I', L') ∧ zlp2 f_X12_read_44 g J M = f_X12_read_69 J' M' ∧ FCl Q I L I' L' ∧ FRf J M J' M' ∧ ((x = -1 ∧ J' 97 49 = nI 1 ∧ ∃ G' c' N', zPC Q G' c' N' I' L' ∧ zPM G' c' N' J' M' ∧ zPG G' c' N') ∨ ∃ j', j' ≤ m ∧ x = nI j' ∧ J' 97 49 = 0 ∧ J' 97 48 = nI j') := by
      intro j' s' I L J M G c N a b d
      exact r_loop hq hn hmn ht hT hk (m - j') j' s' f g I L J M G c N (by omega) b (by omega) (by omega)
    have out0 : ∀ J M, J 97 49 = 0 → zlp2 f_X12_read_44 g J M = f_X12_read_69 J M := by
      intro J M h49
      obtain ⟨g, rfl⟩ : ∃ x, g = x + 1 := ⟨g - 1, by omega⟩
      show f_X12_read_44 _ J M = _
      unfold f_X12_read_44
      rw [if_pos h49]
    have e1 : zlp3 (f_X8_wrongWord_25 Q) (f + 1) (nI s) I L = f_X8_wrongWord_25 Q (zlp3 (f_X8_wrongWord_25 Q) f) (nI s) I L := rfl
    have e2 : zlp2 f_X12_read_44 (g + 1) J M = f_X12_read_44 (zlp2 f_X12_read_44 g) J M := rfl
    rw [e1, e2]
    generalize zlp3 (f_X8_wrongWord_25 Q) f = k1 at ih ⊢
    generalize zlp2 f_X12_read_44 g = k2 at ih out0 ⊢
    unfold f_X8_wrongWord_25 f_X8_wrongWord_57 f_X12_read_44
    obtain ⟨⟨t1, t2, t3, t4⟩, t5⟩ := rs
    rw [t5, if_neg (show ¬ nI 1 = 0 by decide), t1.1, t2]
    have te := tok_E ht cs.1
    by_cases hjm : j = m
    · have eF : Fx n m F j = n := if_neg (by omega)
      rw [eF, if_pos (Int32.le_refl _), (e_atEnd cs).1 hjm]
      refine ⟨-1, I, L, J, M, ?_, rfl, FCl.refl _ _ _, FRf.refl _ _, Or.inl ⟨rfl, t5, G, c, N, pc, pm, pg⟩⟩
      rw [zb1_b, if_neg n10, ite_self]
    · have hjm' : j < m := by have := cs.1; omega
      have eF : Fx n m F j = F j := if_pos hjm'
      have := ht.1 j hjm'
      rw [eF, if_neg (nI_ge (by omega) (by omega)), (e_atEnd cs).2 hjm, if_neg (show ¬ (800 : Int32) ≤ nI s from nI_ge (b := 800) (by omega) (by decide)), zb1_b, if_pos rfl]
      obtain ⟨x, I', L', J', M', a1, a2, a3, a4, a5⟩ := s_step hq hn ht hT hjm' cs pc pg ⟨⟨t1, t2, t3, t4⟩, t5⟩ pm hk h31 hJ1
      rw [a1, a2, zb3_b, zb2_b]
      rcases a5 with ⟨rfl, j', G', c', N', b1, b2, b3, b4, b5, b6⟩ | ⟨rfl, j', b1, b2, b3⟩
      · rw [if_neg n10, zlt_b, nI_1]
        obtain ⟨y, I2, L2, J2, M2, d1, d2, d3, d4, d5⟩ := ih j' (s + 1) I' L' J' M' G' c' N' b1 (by omega) b2.1 b2 b3 b6 b4 b5 (by rw [a3.2.1 1 (by decide)]; exact h31) (by rw [a4.2.1 1 (by omega)]; exact hJ1)
        exact ⟨y, I2, L2, J2, M2, d1, d2, a3.trans d3, a4.trans d4, d5⟩
      · rw [if_pos rfl, zlt_b, out0 J' M' b3.2]
        exact ⟨_, I', L', J', M', rfl, rfl, a3, a4, Or.inr ⟨j', b1, b2, b3.2, b3.1.2.2.2⟩⟩
end Rd
/-- the plan that was read -/
theorem RPlan_of {Q : Nat} {G : zI} {c : Nat → Nat} {N : Nat → Nat → List Nat} {I J K : zI} {L M : zL} (pc : zPC Q G c N I L) (pm : zPM G c N J M) (pg : zPG G c N) (eQ : ∀ k, k < 16 → K Q k = I Q k) (eA : ∀ k, k < 12 → K (Q + 1 + k) = I (Q + 1 + k)) (e97 : ∀ i, i < 4 → K 97 (12 + i) = J 97 (50 + i)) (eR : ∀ p l, 106 ≤ p → p ≤ 116 → p ≠ 113 → l < rg p → K p l = J p (rg p + l)) : RPlan Q K := by
  obtain ⟨⟨b0, b1, b2, b3⟩, -, -, -, g4, g5, -, g7, g8⟩ := pg
  obtain ⟨p1, p2, p3, p4, p5⟩ := pc
  obtain ⟨q1, q2, q3, q4, q5⟩ := pm
  have c1 : ∀ i, i < 4 → K Q (12 + i) = nI (c i) := fun i hi => by rw [eQ _ (by omega)]; exact p1 i hi
  have c2 : ∀ i, i < 4 → K 97 (12 + i) = nI (c i) := fun i hi => by rw [e97 i hi]; exact q1 i hi
  refine ⟨c 0, c 1, c 2, c 3, ⟨b0, c1 0 (by decide), c2 0 (by decide), fun l hl => ?_⟩, ⟨b1, c1 1 (by decide), c2 1 (by decide), fun w hw => ?_⟩, ⟨b2, c1 2 (by decide), c2 2 (by decide), fun j hj => ?_⟩, ⟨b3, c1 3 (by decide), c2 3 (by decide), fun k hk => ?_⟩⟩
  · obtain ⟨-, r2, r3, r4⟩ := p2 l hl
    obtain ⟨-, s2, s3, s4⟩ := q2 l hl
    obtain ⟨w, w1, w2, w3, w4⟩ := g4 l hl
    have k106 : K 106 l = J 106 (24 + l) := eR 106 l (by decide) (by decide) (by decide) (show l < 24 by omega)
    have k107 : K 107 l = J 107 (24 + l) := eR 107 l (by decide) (by decide) (by decide) (show l < 24 by omega)
    have k108 : K 108 l = J 108 (24 + l) := eR 108 l (by decide) (by decide) (by decide) (show l < 24 by omega)
    refine ⟨w, w1, by rw [eA 1 (by omega), r2, w2], by rw [k106, s2, w2], fun z => ?_, fun z => ?_⟩
    · obtain ⟨i, i1, i2⟩ := w3 z
      exact ⟨i, i1, by rw [eA 2 (by omega), r3, i2], by rw [k107, s3, i2]⟩
    · obtain ⟨⟨a, a1, a2⟩, ⟨b, b1, b2⟩⟩ := w4 z
      refine ⟨⟨a, a1, by rw [eA 2 (by omega), r3, a2], by rw [k107, s3, a2]⟩, ⟨b, b1, by rw [eA 3 (by omega), r4, b2], ?_⟩⟩
      rw [k108, s4 (by rw [w2]; exact nI_ne0 (by omega) (by omega)), b2]
  · obtain ⟨l, l1, l2⟩ := g5 w hw
    have k109 : K 109 w = J 109 (8 + w) := eR 109 w (by decide) (by decide) (by decide) (show w < 8 by omega)
    exact ⟨l, l1, by rw [eA 4 (by omega), p3 w hw, l2], by rw [k109, q3 w hw, l2]⟩
  · obtain ⟨⟨a, a1, a2⟩, ⟨b, b1, b2⟩, ⟨l, l1, l2⟩⟩ := g7 j hj
    obtain ⟨r1, r2, r3⟩ := p4 j hj
    obtain ⟨s1, s2, s3⟩ := q4 j hj
    have k110 : K 110 j = J 110 (16 + j) := eR 110 j (by decide) (by decide) (by decide) (show j < 16 by omega)
    have k111 : K 111 j = J 111 (16 + j) := eR 111 j (by decide) (by decide) (by decide) (show j < 16 by omega)
    have k112 : K 112 j = J 112 (16 + j) := eR 112 j (by decide) (by decide) (by decide) (show j < 16 by omega)
    exact ⟨⟨a, a1, by rw [eA 5 (by omega), r1, a2], by rw [k110, s1, a2]⟩, ⟨b, b1, by rw [eA 6 (by omega), r2, b2], by rw [k111, s2, b2]⟩, ⟨l, l1, by rw [eA 7 (by omega), r3, l2], by rw [k112, s3, l2]⟩⟩
  · obtain ⟨⟨l, l1, l2⟩, p, x1, x2, x3, x4⟩ := g8 k hk
    obtain ⟨-, r2, r3, r4⟩ := p5 k hk
    obtain ⟨-, s2, s3, s4⟩ := q5 k hk
    have k114 : K 114 k = J 114 (8 + k) := eR 114 k (by decide) (by decide) (by decide) (show k < 8 by omega)
    have k115 : K 115 k = J 115 (8 + k) := eR 115 k (by decide) (by decide) (by decide) (show k < 8 by omega)
    refine ⟨⟨l, l1, by rw [eA 9 (by omega), r2, l2], by rw [k114, s2, l2]⟩, p, x1, x2, by rw [eA 10 (by omega), r3, x3], by rw [k115, s3, x3], fun i hi => ?_⟩
    obtain ⟨w, w1, w2⟩ := x4 i hi
    have lt : nI i < G 8 k := by rw [x3]; exact nI_lt hi (by omega)
    have k116 : K 116 (4 * k + i) = J 116 (4 * (8 + k) + i) := by
      rw [eR 116 (4 * k + i) (by decide) (by decide) (by decide) (show 4 * k + i < 32 by omega)]
      show J 116 (32 + (4 * k + i)) = _
      congr 1; omega
    exact ⟨w, w1, by rw [eA 11 (by omega), r4 i (by omega) lt, w2], by rw [k116, s4 i (by omega) lt, w2]⟩
