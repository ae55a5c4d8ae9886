/-! a sentence -/
theorem zb1_b {α β : Type} (a : α) (f : α → Option β) : zb1 (some a) f = f a := (fun h => h) (Eq.refl (f a))
theorem zb2_b {α α2 β : Type} (a : α) (b : α2) (f : α → α2 → Option β) : zb2 (some (a, b)) f = f a b := (fun h => h) (Eq.refl (f a b))
theorem zb3_b {α α2 α3 β : Type} (a : α) (b : α2) (c : α3) (f : α → α2 → α3 → Option β) : zb3 (some (a, b, c)) f = f a b c := (fun h => h) (Eq.refl (f a b c))
section Se
variable {Q : Nat} {G : zI} {c : Nat → Nat} {N : Nat → Nat → List Nat} {I J : zI} {L M : zL} {T : Nat → Nat} {n m : Nat} {F E : Nat → Nat} {j r k : Nat}
/-- what a sentence comes to -/
def SR (Q : Nat) (T : Nat → Nat) (n m : Nat) (F E : Nat → Nat) (j : Nat) (x : Int32) (I' : zI) (L' : zL) (J' : zI) (M' : zL) : Prop := (x = 1 ∧ ∃ j' G' c' N', j < j' ∧ CS Q T m F E j' I' L' ∧ zPC Q G' c' N' I' L' ∧ RS T n m F E j' 1 J' ∧ zPM G' c' N' J' M' ∧ zPG G' c' N') ∨ (x = 0 ∧ ∃ j', j' ≤ m ∧ I' 3 4 = nI j' ∧ RS T n m F E j' 0 J')
theorem LA_nI (hg : zPG G c N) {v : Int32} (h : LA T m F E (c 0) (N 0) j v) (ho : lyOk T m F E (c 0) (N 0) j) : ∃ l, l < c 0 ∧ v = nI l := by
  obtain ⟨u, u1, u2⟩ := ho
  have : v = u := LA_u hg.2.2.1 h u1
  subst this
  exact (LA_lt h u2).2
theorem WA_nI (hg : zPG G c N) {u : Int32} (h : WA T m F E G c N j u) (ho : wrOk T m F E (c 0) (N 0) (c 1) (G 3) j) : ∃ w, w < c 1 ∧ u = nI w := by
  by_cases z : u = -1
  · exact absurd ho (WA_no hg h z)
  · obtain ⟨v, -, a⟩ := h
    exact wrR_lt a z
theorem s_input (hq : zpl Q) (hn : n ≤ 800) (ht : Tok T n m F E) (hT : ∀ k, k < n → T k < 127) (hj : j < m) (hs : CS Q T m F E j I L) (hc : zPC Q G c N I L) (hg : zPG G c N) (hr : RS T n m F E j 1 J) (hm : zPM G c N J M) (hk : k ≤ 65536) (h31 : I 3 1 = nI k) (hJ1 : J 97 1 = nI k) :
    ∃ x I' L' J' M', (if (24 : Int32) ≤ (I Q 12) then (some ((0 : Int32), I, L)) else f_X8_takeInputSentence Q I L) = some (x, I', L') ∧ f_X12_readInput J M = some (J', M') ∧ FCl Q I L I' L' ∧ FRf J M J' M' ∧ SR Q T n m F E j x I' L' J' M' := by
  obtain ⟨J', M', r1, r2, r3⟩ := m_readInput hn ht hj hr hm hg hk hJ1
  have h12 : I Q 12 = nI (c 0) := hc.1 0 (by decide)
  have b24 := hg.1.1
  by_cases h24 : c 0 < 24
  · rw [h12, if_neg (show ¬ (24 : Int32) ≤ nI (c 0) from nI_ge (b := 24) h24 (by decide))]
    have cs := c_inputS hq hn ht hT hj hs hc hg hk h31 h24
    rcases r3 with ⟨a1, a2, a3⟩ | ⟨h, a1, a2⟩
    · obtain ⟨I', L', b1, b2, b3, b4⟩ := cs.1 a1
      have hnw : nwL T m F E (c 0) (N 0) (j + 1) := a1 1 (by omega)
      have hin : inRg T m F E (j + 3) k := a1 3 (by omega)
      exact ⟨1, I', L', J', M', b1, r1, b2, r2, Or.inl ⟨rfl, _, _, _, _, by omega, b3, b4, a2, a3, zPG_addL hg h24 (wG_good ht hnw.1) hnw.2 (by decide) (fun _ => ⟨_, Nat.lt_of_lt_of_le hin.2 hk, rfl⟩) (fun z => absurd rfl z)⟩⟩
    · obtain ⟨I', b1, b2, b3⟩ := cs.2 h a1
      refine ⟨0, I', L, J', M', b1, r1, b2, r2, Or.inr ⟨rfl, j + h, ?_, b3, a2⟩⟩
      by_cases z : h = 0
      · omega
      · have := aIn_lt hj _ (a1.2.1 (h - 1) (by omega)); omega
  · rw [h12, if_pos (show (24 : Int32) ≤ nI (c 0) from nI_le (a := 24) (by omega) (by omega))]
    rcases r3 with ⟨a1, -⟩ | ⟨h, a1, a2⟩
    · exact absurd (a1 0 (by omega)) h24
    · have : h = 0 := chF_u a1 (l := 5) (h := 0) ⟨by omega, fun i hi => absurd hi (by omega), h24⟩
      subst this
      exact ⟨0, I, L, J', M', rfl, r1, FCl.refl _ _ _, r2, Or.inr ⟨rfl, j, by omega, hs.2.2.1, a2⟩⟩
theorem s_make (hq : zpl Q) (hn : n ≤ 800) (ht : Tok T n m F E) (hT : ∀ k, k < n → T k < 127) (hj : j < m) (hs : CS Q T m F E j I L) (hc : zPC Q G c N I L) (hg : zPG G c N) (hr : RS T n m F E j 1 J) (hm : zPM G c N J M) :
    ∃ x I' L' J' M', (if (24 : Int32) ≤ (I Q 12) then (some ((0 : Int32), I, L)) else f_X8_takeMakeSentence Q I L) = some (x, I', L') ∧ f_X12_readMake J M = some (J', M') ∧ FCl Q I L I' L' ∧ FRf J M J' M' ∧ SR Q T n m F E j x I' L' J' M' := by
  obtain ⟨J', M', r1, r2, r3⟩ := m_readMake hn ht hj hr hm hg
  have h12 : I Q 12 = nI (c 0) := hc.1 0 (by decide)
  have b24 := hg.1.1
  by_cases h24 : c 0 < 24
  · rw [h12, if_neg (show ¬ (24 : Int32) ≤ nI (c 0) from nI_ge (b := 24) h24 (by decide))]
    have cs := c_makeS hq hn ht hT hj hs hc hg h24
    rcases r3 with ⟨a1, a2, v, w, u, v1, w1, u1, a3⟩ | ⟨h, a1, a2⟩
    · obtain ⟨v', w', u', v2, w2, u2, I', L', b1, b2, b3, b4⟩ := cs.1 a1
      have ev : v' = v := LA_u hg.2.2.1 v2 v1
      have ew : w' = w := wayR_u w2 w1
      have eu : u' = u := LA_u hg.2.2.1 u2 u1
      subst ev; subst ew; subst eu
      have hnw : nwL T m F E (c 0) (N 0) (j + 1) := a1 1 (by omega)
      refine ⟨1, I', L', J', M', b1, r1, b2, r2, Or.inl ⟨rfl, _, _, _, _, by omega, b3, b4, a2, a3, zPG_addL hg h24 (wG_good ht hnw.1) hnw.2 (wayR_le w1) (fun z => ?_) (fun _ => ⟨LA_nI hg v1 (a1 3 (by omega)), LA_nI hg u1 (a1 5 (by omega))⟩)⟩⟩
      have h4 : ¬ wayR T m F E (j + 4) 0 := a1 4 (by omega)
      rw [z] at w1
      exact absurd w1 h4
    · obtain ⟨I', b1, b2, b3⟩ := cs.2 h a1
      refine ⟨0, I', L, J', M', b1, r1, b2, r2, Or.inr ⟨rfl, j + h, ?_, b3, a2⟩⟩
      by_cases z : h = 0
      · omega
      · have := aMk_lt hj _ (a1.2.1 (h - 1) (by omega)); omega
  · rw [h12, if_pos (show (24 : Int32) ≤ nI (c 0) from nI_le (a := 24) (by omega) (by omega))]
    rcases r3 with ⟨a1, -⟩ | ⟨h, a1, a2⟩
    · exact absurd (a1 0 (by omega)) h24
    · have : h = 0 := chF_u a1 (l := 7) (h := 0) ⟨by omega, fun i hi => absurd hi (by omega), h24⟩
      subst this
      exact ⟨0, I, L, J', M', rfl, r1, FCl.refl _ _ _, r2, Or.inr ⟨rfl, j, by omega, hs.2.2.1, a2⟩⟩
theorem s_wire (hq : zpl Q) (hn : n ≤ 800) (ht : Tok T n m F E) (hT : ∀ k, k < n → T k < 127) (hj : j < m) (hs : CS Q T m F E j I L) (hc : zPC Q G c N I L) (hg : zPG G c N) (hr : RS T n m F E j 1 J) (hm : zPM G c N J M) :
    ∃ x I' J', (if (8 : Int32) ≤ (I Q 13) then (some ((0 : Int32), I)) else f_X8_takeWireSentence Q I L) = some (x, I') ∧ f_X12_readWire J M = some J' ∧ FCl Q I L I' L ∧ FRf J M J' M ∧ SR Q T n m F E j x I' L J' M := by
  obtain ⟨J', r1, r2, r3⟩ := m_readWire hn ht hj hr hm hg
  have h13 : I Q 13 = nI (c 1) := hc.1 1 (by decide)
  have b8 := hg.1.2.1
  by_cases h8 : c 1 < 8
  · rw [h13, if_neg (show ¬ (8 : Int32) ≤ nI (c 1) from nI_ge (b := 8) h8 (by decide))]
    have cs := c_wireS hq hn ht hT hj hs hc hg h8
    rcases r3 with ⟨a1, a2, v, v1, a3⟩ | ⟨h, a1, a2⟩
    · obtain ⟨v', v2, I', b1, b2, b3, b4⟩ := cs.1 a1
      have ev : v' = v := LA_u hg.2.2.1 v2 v1
      subst ev
      obtain ⟨u, u1, u2, u3⟩ : wnOk T m F E (c 0) (N 0) (c 1) (G 3) (j + 1) := a1 1 (by omega)
      have eu : u = v' := LA_u hg.2.2.1 u1 v1
      subst eu
      obtain ⟨l, l1, l2⟩ := (LA_lt v1 u2).2
      subst l2
      exact ⟨1, I', J', b1, r1, b2, r2, Or.inl ⟨rfl, _, _, _, _, by omega, b3, b4, a2, a3, zPG_W hg h8 l1 u3⟩⟩
    · obtain ⟨I', b1, b2, b3⟩ := cs.2 h a1
      refine ⟨0, I', J', b1, r1, b2, r2, Or.inr ⟨rfl, j + h, ?_, b3, a2⟩⟩
      by_cases z : h = 0
      · omega
      · have := aWi_lt hj _ (a1.2.1 (h - 1) (by omega)); omega
  · rw [h13, if_pos (show (8 : Int32) ≤ nI (c 1) from nI_le (a := 8) (by omega) (by omega))]
    rcases r3 with ⟨a1, -⟩ | ⟨h, a1, a2⟩
    · exact absurd (a1 0 (by omega)) h8
    · have : h = 0 := chF_u a1 (l := 3) (h := 0) ⟨by omega, fun i hi => absurd hi (by omega), h8⟩
      subst this
      exact ⟨0, I, J', rfl, r1, FCl.refl _ _ _, r2, Or.inr ⟨rfl, j, by omega, hs.2.2.1, a2⟩⟩
theorem s_join (hq : zpl Q) (hn : n ≤ 800) (ht : Tok T n m F E) (hT : ∀ k, k < n → T k < 127) (hj : j < m) (hs : CS Q T m F E j I L) (hc : zPC Q G c N I L) (hg : zPG G c N) (hr : RS T n m F E j 1 J) (hm : zPM G c N J M) :
    ∃ x I' J', (if (16 : Int32) ≤ (I Q 14) then (some ((0 : Int32), I)) else f_X8_takeJoinSentence Q I L) = some (x, I') ∧ f_X12_readJoin J M = some J' ∧ FCl Q I L I' L ∧ FRf J M J' M ∧ SR Q T n m F E j x I' L J' M := by
  obtain ⟨J', r1, r2, r3⟩ := m_readJoin hn ht hj hr hm hg
  have h14 : I Q 14 = nI (c 2) := hc.1 2 (by decide)
  have b16 := hg.1.2.2.1
  by_cases h16 : c 2 < 16
  · rw [h14, if_neg (show ¬ (16 : Int32) ≤ nI (c 2) from nI_ge (b := 16) h16 (by decide))]
    have cs := c_joinS hq hn ht hT hj hs hc hg h16
    rcases r3 with ⟨a1, a2, a, b, v, x1, x2, v1, a3⟩ | ⟨h, a1, a2⟩
    · obtain ⟨a', b', v', y1, y2, v2, I', b1, b2, b3, b4⟩ := cs.1 a1
      have ea : a' = a := WA_u hg y1 x1
      have eb : b' = b := WA_u hg y2 x2
      have ev : v' = v := LA_u hg.2.2.1 v2 v1
      subst ea; subst eb; subst ev
      obtain ⟨p, p1, rfl⟩ := WA_nI hg x1 (a1 1 (by omega))
      obtain ⟨q, q1, rfl⟩ := WA_nI hg x2 (a1 2 (by omega))
      obtain ⟨l, l1, rfl⟩ := LA_nI hg v1 (a1 4 (by omega))
      exact ⟨1, I', J', b1, r1, b2, r2, Or.inl ⟨rfl, _, _, _, _, by omega, b3, b4, a2, a3, zPG_J hg h16 p1 q1 l1⟩⟩
    · obtain ⟨I', b1, b2, b3⟩ := cs.2 h a1
      refine ⟨0, I', J', b1, r1, b2, r2, Or.inr ⟨rfl, j + h, ?_, b3, a2⟩⟩
      by_cases z : h = 0
      · omega
      · have := aJo_lt hj _ (a1.2.1 (h - 1) (by omega)); omega
  · rw [h14, if_pos (show (16 : Int32) ≤ nI (c 2) from nI_le (a := 16) (by omega) (by omega))]
    rcases r3 with ⟨a1, -⟩ | ⟨h, a1, a2⟩
    · exact absurd (a1 0 (by omega)) h16
    · have : h = 0 := chF_u a1 (l := 6) (h := 0) ⟨by omega, fun i hi => absurd hi (by omega), h16⟩
      subst this
      exact ⟨0, I, J', rfl, r1, FCl.refl _ _ _, r2, Or.inr ⟨rfl, j, by omega, hs.2.2.1, a2⟩⟩
theorem s_device (hq : zpl Q) (hn : n ≤ 800) (ht : Tok T n m F E) (hT : ∀ k, k < n → T k < 127) (hj : j < m) (hs : CS Q T m F E j I L) (hc : zPC Q G c N I L) (hg : zPG G c N) (hr : RS T n m F E j 1 J) (hm : zPM G c N J M) :
    ∃ x I' L' J' M', (if (8 : Int32) ≤ (I Q 15) then (some ((0 : Int32), I, L)) else f_X8_takeDeviceSentence Q I L) = some (x, I', L') ∧ f_X12_readDevice J M = some (J', M') ∧ FCl Q I L I' L' ∧ FRf J M J' M' ∧ SR Q T n m F E j x I' L' J' M' := by
  obtain ⟨J', M', r1, r2, r3⟩ := m_readDevice hn ht hj hr hm hg
  have h15 : I Q 15 = nI (c 3) := hc.1 3 (by decide)
  have b8 := hg.1.2.2.2
  have nof : ∀ h, chS (aDe T m F E c N j) 5 → ¬ chF (aDe T m F E c N j) 5 h := fun h a b => b.2.2 (a h b.1)
  by_cases h8 : c 3 < 8
  · rw [h15, if_neg (show ¬ (8 : Int32) ≤ nI (c 3) from nI_ge (b := 8) h8 (by decide))]
    rcases c_devS hq hn ht hT hj hs hc hg h8 with ⟨p, v, U, c1, c2, c3, c4, c5, c6, I', L', b1, b2, b3, b4⟩ | ⟨h, I', c1, b1, b2, b3⟩
    · rcases r3 with ⟨p', v', U', d1, d2, d3, d4, d5, d6, d7, d8⟩ | ⟨h, d1, -⟩
      · have ep : p' = p := pinsR_u d2 c2
        have ev : v' = v := LA_u hg.2.2.1 d5 c5
        subst ep; subst ev
        obtain ⟨l, l1, rfl⟩ := LA_nI hg c5 (c1 3 (by omega))
        have hnw : nwL T m F E (c 3) (N 1) (j + 1) := c1 1 (by omega)
        exact ⟨1, I', L', J', M', b1, r1, b2, r2, Or.inl ⟨rfl, _, _, _, _, by omega, b3, b4, d7, d8 U (fun i hi => WA_u hg (c6 i hi) (d6 i hi)), zPG_K hg h8 (wG_good ht hnw.1) l1 c3 c2.1 (fun i hi => WA_nI hg (c6 i hi) (c2.2.1 i hi))⟩⟩
      · exfalso
        rcases d1 with d1 | ⟨-, q, -, q2, q3⟩
        · exact nof h c1 d1
        · have := pinsR_u q2 c2
          subst this
          rcases q3 with z | z
          · omega
          · exact z c4
    · have key : ∀ h', ((chF (aDe T m F E c N j) 5 h') ∨ (chS (aDe T m F E c N j) 5 ∧ ∃ p, h' = 5 + p ∧ pinsR T m F E G c N (j + 5) p ∧ (p = 0 ∨ ¬ sg T m F E (j + 5 + p) 59))) → h' = h := by
        intro h' d1
        rcases c1 with c1 | ⟨c1, p, rfl, p2, p3⟩ <;> rcases d1 with d1 | ⟨d1, q, rfl, q2, q3⟩
        · exact chF_u d1 c1
        · exact absurd c1 (nof h d1)
        · exact absurd d1 (nof h' c1)
        · rw [pinsR_u q2 p2]
      rcases r3 with ⟨p', v', U', d1, d2, d3, d4, -⟩ | ⟨h', d1, d2⟩
      · exfalso
        rcases c1 with c1 | ⟨-, q, -, q2, q3⟩
        · exact nof h d1 c1
        · have := pinsR_u q2 d2
          subst this
          rcases q3 with z | z
          · omega
          · exact z d4
      · have e := key h' d1
        subst e
        refine ⟨0, I', L, J', M', b1, r1, b2, r2, Or.inr ⟨rfl, j + h', ?_, b3, d2⟩⟩
        rcases d1 with d1 | ⟨d1, q, rfl, q2, -⟩
        · by_cases z : h' = 0
          · omega
          · have := aDe_lt hj _ (d1.2.1 (h' - 1) (by omega)); omega
        · have w4 := wd_lt (d1 4 (by omega))
          by_cases z : q = 0
          · omega
          · have := wrOk_lt (q2.2.1 (q - 1) (by omega)); omega
  · rw [h15, if_pos (show (8 : Int32) ≤ nI (c 3) from nI_le (a := 8) (by omega) (by omega))]
    have n0 : chF (aDe T m F E c N j) 5 0 := ⟨by omega, fun i hi => absurd hi (by omega), h8⟩
    rcases r3 with ⟨p', v', U', d1, -⟩ | ⟨h, d1, d2⟩
    · exact absurd (d1 0 (by omega)) h8
    · have : h = 0 := by
        rcases d1 with d1 | ⟨d1, -⟩
        · exact chF_u d1 n0
        · exact absurd (d1 0 (by omega)) h8
      subst this
      exact ⟨0, I, L, J', M', rfl, r1, FCl.refl _ _ _, r2, Or.inr ⟨rfl, j, by omega, hs.2.2.1, d2⟩⟩
theorem s_step (hq : zpl Q) (hn : n ≤ 800) (ht : Tok T n m F E) (hT : ∀ k, k < n → T k < 127) (hj : j < m) (hs : CS Q T m F E j I L) (hc : zPC Q G c N I L) (hg : zPG G c N) (hr : RS T n m F E j 1 J) (hm : zPM G c N J M) (hk : k ≤ 65536) (h31 : I 3 1 = nI k) (hJ1 : J 97 1 = nI k) :
    ∃ x I' L' J' M', f_X8_takeSentence Q I L = some (x, I', L') ∧ f_X12_readSentence J M = some (J', M') ∧ FCl Q I L I' L' ∧ FRf J M J' M' ∧ SR Q T n m F E j x I' L' J' M' := by
  have en : f_X12_name J = some (wNm T m F E j) := e_mname hn ht (by omega) hr.1
  have g33 := decide_eq_true hs.2.2.2.1
  have bx : ∀ (x : Int32) (I' : zI) (L' : zL) (J' : zI) (M' : zL), SR Q T n m F E j x I' L' J' M' → x = 0 ∨ x = 1 := fun x I' L' J' M' h => by
    rcases h with ⟨h, -⟩ | ⟨h, -⟩
    · exact Or.inr h
    · exact Or.inl h
  obtain ⟨q0, q1, -, -, -, q5, q6, -, -, q8⟩ := e_word
  have k0 := wN_kw (j := j) ht (t := 0) (by decide)
  have k1 := wN_kw (j := j) ht (t := 1) (by decide)
  have k5 := wN_kw (j := j) ht (t := 5) (by decide)
  have k6 := wN_kw (j := j) ht (t := 6) (by decide)
  have k8 := wN_kw (j := j) ht (t := 8) (by decide)
  have i0 := c_isWord ht hs (t := 0) (by decide)
  have i1 := c_isWord ht hs (t := 1) (by decide)
  have i5 := c_isWord ht hs (t := 5) (by decide)
  have i6 := c_isWord ht hs (t := 6) (by decide)
  have i8 := c_isWord ht hs (t := 8) (by decide)
  obtain ⟨dv, d1, d2⟩ := zb1_e q8
  have d2 : 27 * dv + 5 = z27 (kw 8) := Option.some.inj d2
  have m1 : ∀ X, f_X12_readSentence J M = X ↔ (if wNm T m F E j = z27 (kw 0) then (zb2 (f_X12_readInput J M) (fun I22 L23 => f_X12_readSentence_148 I22 L23)) else (if wNm T m F E j = z27 (kw 1) then (zb2 (f_X12_readMake J M) (fun I19 L20 => f_X12_readSentence_148 I19 L20)) else (if wNm T m F E j = z27 (kw 5) then (zb1 (f_X12_readWire J M) (fun I17 => f_X12_readSentence_148 I17 M)) else (if wNm T m F E j = z27 (kw 6) then (zb1 (f_X12_readJoin J M) (fun I15 => f_X12_readSentence_148 I15 M)) else (if wNm T m F E j = z27 (kw 8) then (f_X12_readSentence_134 (1 : Int32) J M) else (f_X12_readSentence_134 (0 : Int32) J M)))))) = X := by
    intro X
    unfold f_X12_readSentence
    rw [en, q0, q1, q5, q6, d1]
    simp only [zb1_b, zlt_b]
    rw [d2]
  simp only [m1]
  unfold f_X8_takeSentence f_X8_takeSentence_32 f_X8_takeSentence_66 f_X8_takeSentence_100 f_X8_takeSentence_134 f_X8_takeSentence_168 f_X8_takeSentence_33 f_X8_takeSentence_67 f_X8_takeSentence_101 f_X8_takeSentence_135 f_X8_takeSentence_169 f_X12_readSentence_148
  rw [zck_t _ zbo_0]
  by_cases h0 : wd T m F E j 0
  · rw [i0.1 h0, if_pos (k0.mpr h0)]
    simp only [zb1_b]
    rw [if_neg n10, zck_t _ g33]
    obtain ⟨x, I', L', J', M', a1, a2, a3, a4, a5⟩ := s_input hq hn ht hT hj hs hc hg hr hm hk h31 hJ1
    refine ⟨x, I', L', J', M', ?_, by rw [a2]; rfl, a3, a4, a5⟩
    by_cases z : (24 : Int32) ≤ I Q 12
    · rw [if_pos z] at a1 ⊢; exact a1
    · rw [if_neg z] at a1 ⊢
      rw [a1]
      rcases bx _ _ _ _ _ a5 with rfl | rfl
      · simp only [zb3_b, if_true]; exact zck_t _ zbo_0
      · simp only [zb3_b]; rw [if_neg n10]; exact zck_t _ zbo_1
  rw [i0.2 h0, if_neg (fun z => h0 (k0.mp z))]
  simp only [zb1_b, if_true]
  by_cases h1 : wd T m F E j 1
  · rw [i1.1 h1, if_pos (k1.mpr h1)]
    simp only [zb1_b]
    rw [if_neg n10, zck_t _ g33]
    obtain ⟨x, I', L', J', M', a1, a2, a3, a4, a5⟩ := s_make hq hn ht hT hj hs hc hg hr hm
    refine ⟨x, I', L', J', M', ?_, by rw [a2]; rfl, a3, a4, a5⟩
    by_cases z : (24 : Int32) ≤ I Q 12
    · rw [if_pos z] at a1 ⊢; exact a1
    · rw [if_neg z] at a1 ⊢
      rw [a1]
      rcases bx _ _ _ _ _ a5 with rfl | rfl
      · simp only [zb3_b, if_true]; exact zck_t _ zbo_0
      · simp only [zb3_b]; rw [if_neg n10]; exact zck_t _ zbo_1
  rw [i1.2 h1, if_neg (fun z => h1 (k1.mp z))]
  simp only [zb1_b, if_true]
  by_cases h5 : wd T m F E j 5
  · rw [i5.1 h5, if_pos (k5.mpr h5)]
    simp only [zb1_b]
    rw [if_neg n10, zck_t _ g33]
    obtain ⟨x, I', J', a1, a2, a3, a4, a5⟩ := s_wire hq hn ht hT hj hs hc hg hr hm
    refine ⟨x, I', L, J', M, ?_, by rw [a2]; rfl, a3, a4, a5⟩
    by_cases z : (8 : Int32) ≤ I Q 13
    · rw [if_pos z] at a1 ⊢
      have e := Option.some.inj a1
      have e1 : (0 : Int32) = x := congrArg Prod.fst e
      have e2 : I = I' := congrArg Prod.snd e
      rw [e1, e2]
    · rw [if_neg z] at a1 ⊢
      rw [a1]
      rcases bx _ _ _ _ _ a5 with rfl | rfl
      · simp only [zb2_b, if_true]; exact zck_t _ zbo_0
      · simp only [zb2_b]; rw [if_neg n10]; exact zck_t _ zbo_1
  rw [i5.2 h5, if_neg (fun z => h5 (k5.mp z))]
  simp only [zb1_b, if_true]
  by_cases h6 : wd T m F E j 6
  · rw [i6.1 h6, if_pos (k6.mpr h6)]
    simp only [zb1_b]
    rw [if_neg n10, zck_t _ g33]
    obtain ⟨x, I', J', a1, a2, a3, a4, a5⟩ := s_join hq hn ht hT hj hs hc hg hr hm
    refine ⟨x, I', L, J', M, ?_, by rw [a2]; rfl, a3, a4, a5⟩
    by_cases z : (16 : Int32) ≤ I Q 14
    · rw [if_pos z] at a1 ⊢
      have e := Option.some.inj a1
      have e1 : (0 : Int32) = x := congrArg Prod.fst e
      have e2 : I = I' := congrArg Prod.snd e
      rw [e1, e2]
    · rw [if_neg z] at a1 ⊢
      rw [a1]
      rcases bx _ _ _ _ _ a5 with rfl | rfl
      · simp only [zb2_b, if_true]; exact zck_t _ zbo_0
      · simp only [zb2_b]; rw [if_neg n10]; exact zck_t _ zbo_1
  rw [i6.2 h6, if_neg (fun z => h6 (k6.mp z))]
  simp only [zb1_b, if_true]
  unfold f_X12_readSentence_134 f_X12_readSentence_148
  by_cases h8 : wd T m F E j 8
  · rw [i8.1 h8, if_pos (k8.mpr h8)]
    simp only [zb1_b]
    have e49 : zu J 97 49 1 = J := by
      funext p q
      simp only [zu]
      split
      · rename_i h; rw [h.1, h.2]; exact hr.2.symm
      · rfl
    rw [if_neg n10, zck_t _ g33, zck_t _ zbo_1, zlt_b, e49, if_neg (show ¬ J 97 49 = 0 by rw [hr.2]; decide)]
    obtain ⟨x, I', L', J', M', a1, a2, a3, a4, a5⟩ := s_device hq hn ht hT hj hs hc hg hr hm
    refine ⟨x, I', L', J', M', ?_, by rw [a2]; rfl, a3, a4, a5⟩
    by_cases z : (8 : Int32) ≤ I Q 15
    · rw [if_pos z] at a1 ⊢; exact a1
    · rw [if_neg z] at a1 ⊢
      rw [a1]
      rcases bx _ _ _ _ _ a5 with rfl | rfl
      · simp only [zb3_b, if_true]; exact zck_t _ zbo_0
      · simp only [zb3_b]; rw [if_neg n10]; exact zck_t _ zbo_1
  · rw [i8.2 h8, if_neg (fun z => h8 (k8.mp z))]
    simp only [zb1_b, if_true]
    rw [zck_t _ zbo_0, zlt_b, zu_eq, if_pos rfl]
    have cf : CF J (zu J 97 49 0) := ⟨fun p hp => zu_pf _ _ hp, fun q hq => zu_k _ _ (by omega) _⟩
    refine ⟨0, I, L, zu J 97 49 0, M, rfl, rfl, FCl.refl _ _ _, cf.rf M, Or.inr ⟨rfl, j, by omega, hs.2.2.1, ?_⟩⟩
    obtain ⟨⟨t1, t2, t3, t4⟩, t5⟩ := hr
    exact ⟨⟨t1.cg (zu_k _ _ (by decide) _) (zu_pf _ _ (by decide)), by rw [zu_k _ _ (by decide)]; exact t2, by rw [zu_k _ _ (by decide)]; exact t3, by rw [zu_k _ _ (by decide)]; exact t4⟩, zu_eq _ _ _ _⟩
end Se
