/-! the join sentence -/
section Jo
variable {Q : Nat} {G : zI} {c : Nat → Nat} {N : Nat → Nat → List Nat} {I J : zI} {L M : zL} {T : Nat → Nat} {n m : Nat} {F E : Nat → Nat} {j r k : Nat}
/-- the wire at hand -/
def WA (T : Nat → Nat) (m : Nat) (F E : Nat → Nat) (G : zI) (c : Nat → Nat) (N : Nat → Nat → List Nat) (j : Nat) (u : Int32) : Prop := ∃ v, LA T m F E (c 0) (N 0) j v ∧ wrR (c 1) (G 3) v u
theorem WA_u (hg : zPG G c N) {u w : Int32} (h1 : WA T m F E G c N j u) (h2 : WA T m F E G c N j w) : u = w := by
  obtain ⟨v, a1, a2⟩ := h1
  obtain ⟨x, b1, b2⟩ := h2
  rw [LA_u hg.2.2.1 a1 b1] at a2
  exact wrR_u hg.2.2.2.2.2.2.1 a2 b2
theorem WA_ok {u : Int32} (h : WA T m F E G c N j u) (hu : ¬ u = -1) : wrOk T m F E (c 0) (N 0) (c 1) (G 3) j := by
  obtain ⟨v, a1, a2⟩ := h; exact ⟨v, u, a1, a2, hu⟩
theorem WA_no (hg : zPG G c N) {u : Int32} (h : WA T m F E G c N j u) (hu : u = -1) : ¬ wrOk T m F E (c 0) (N 0) (c 1) (G 3) j := by
  rintro ⟨v, w, a1, a2, a3⟩
  exact a3 (by rw [WA_u hg ⟨v, a1, a2⟩ h]; exact hu)
theorem m_wrST {A : Nat → Prop} (hn : n ≤ 800) (ht : Tok T n m F E) (hA : ∀ i, A i → j + i < m) (hj : j ≤ m) {i : Nat} (Ai : A i ↔ wrOk T m F E (c 0) (N 0) (c 1) (G 3) (j + i)) (hm : zPM G c N J M) (hg : zPG G c N) (st : zST T n m F E A j i J) : ∃ u J', f_X12_takeWire J M = some (u, J') ∧ CF J J' ∧ zST T n m F E A j (i + 1) J' ∧ (chS A i → WA T m F E G c N (j + i) u) := by
  obtain ⟨j0, r, hr, hj0, hs1, h1, h0⟩ := ST_ex hA hj st
  obtain ⟨v, u, J', k1, k2, k2', k3, k4⟩ := m_takeWire hn ht hr hj0 hs1 hm hg
  have hl : r = 1 → WA T m F E G c N (j + i) u := fun z => by rw [← (h1 z).1]; exact ⟨v, k2, k2'⟩
  refine ⟨u, J', k1, k3, ST_go hr h1 h0 ?_, fun hs => ?_⟩
  · rcases k4 with ⟨a, b, d⟩ | ⟨a, b⟩
    · exact Or.inl ⟨a, Ai.mpr (WA_ok (hl a) b), d⟩
    · exact Or.inr ⟨fun z => a ⟨z.1, fun y => WA_no hg (hl z.1) y (Ai.mp z.2)⟩, b⟩
  · rcases hr with rfl | rfl
    · obtain ⟨h, q, -⟩ := h0 rfl; exact absurd (hs h q.1) q.2.2
    · exact hl rfl
theorem m_readJoin (hn : n ≤ 800) (ht : Tok T n m F E) (hj : j < m) (hs : RS T n m F E j 1 J) (hm : zPM G c N J M) (hg : zPG G c N) :
    ∃ J', f_X12_readJoin J M = some J' ∧ FRf J M J' M ∧ ((chS (aJo T m F E G c N j) 6 ∧ RS T n m F E (j + 6) 1 J' ∧ ∃ a b v, WA T m F E G c N (j + 1) a ∧ WA T m F E G c N (j + 2) b ∧ LA T m F E (c 0) (N 0) (j + 4) v ∧ zPM (zu (zu (zu G 4 (c 2) a) 5 (c 2) b) 6 (c 2) v) (cu c 2) N J' M) ∨ ∃ h, chF (aJo T m F E G c N j) 6 h ∧ RS T n m F E (j + h) 0 J') := by
  have hA := aJo_lt (T := T) (m := m) (F := F) (E := E) (G := G) (c := c) (N := N) hj
  have b16 := hg.1.2.2.1
  have e52 : J 97 52 = nI (c 2) := hm.1 2 (by decide)
  have hw : ∃ w : Int32, f_X12_readJoin J M = f_X12_readJoin_15 w J M ∧ ((aJo T m F E G c N j 0 ∧ ¬ w = 0) ∨ (¬ aJo T m F E G c N j 0 ∧ w = 0)) := by
    unfold f_X12_readJoin
    rw [e52]
    by_cases z : c 2 < 16
    · rw [if_neg (show ¬ (16 : Int32) ≤ nI (c 2) from nI_ge (b := 16) z (by decide))]
      exact ⟨1, rfl, Or.inl ⟨z, n10⟩⟩
    · rw [if_pos (show (16 : Int32) ≤ nI (c 2) from nI_le (a := 16) (by omega) (by omega))]
      exact ⟨0, rfl, Or.inr ⟨z, rfl⟩⟩
  obtain ⟨w, w1, w2⟩ := hw
  obtain ⟨J1, g1, g2, st1⟩ := m_tkST (A := aJo T m F E G c N j) hn ht hA (by omega) (i := 0) (x := w) (fun _ _ => w2) (ST_0 hs)
  rw [w1]
  unfold f_X12_readJoin_15
  rw [g1]
  simp only [zb1, Option.bind_some]
  obtain ⟨a, J2, a1, a2, st2, a3⟩ := m_wrST hn ht hA (by omega) (i := 1) (Iff.rfl) (hm.cf g2) hg st1
  rw [a1]
  simp only [zb2, Option.bind_some]
  obtain ⟨b, J3, b1, b2, st3, b3⟩ := m_wrST hn ht hA (by omega) (i := 2) (Iff.rfl) ((hm.cf g2).cf a2) hg st2
  rw [b1]
  simp only [Option.bind_some]
  have cf3 : CF J J3 := (g2.trans a2).trans b2
  obtain ⟨j0, r, hr, hj0, hs1, h1, h0⟩ := ST_ex hA (by omega) st3
  have en : f_X12_name J3 = some (wNm T m F E j0) := e_mname hn ht hj0 hs1.1
  obtain ⟨-, -, -, -, -, -, -, q7, -⟩ := e_word
  rw [en, q7]
  simp only [Option.bind_some]
  have k7 := wN_kw (j := j0) ht (t := 7) (by decide)
  have h52 : ∃ x : Int32, (if wNm T m F E j0 = z27 (kw 7) then (f_X12_readJoin_52 a b (1 : Int32) J3 M) else (f_X12_readJoin_52 a b (0 : Int32) J3 M)) = f_X12_readJoin_52 a b x J3 M ∧ ((wd T m F E j0 7 ∧ ¬ x = 0) ∨ (¬ wd T m F E j0 7 ∧ x = 0)) := by
    by_cases z : wd T m F E j0 7
    · exact ⟨1, if_pos (k7.mpr z), Or.inl ⟨z, n10⟩⟩
    · exact ⟨0, if_neg (fun y => z (k7.mp y)), Or.inr ⟨z, rfl⟩⟩
  obtain ⟨x, x1, x2⟩ := h52
  rw [x1]
  unfold f_X12_readJoin_52 f_X12_readJoin_126
  obtain ⟨J4, k1, k2, st4⟩ := m_tkST hn ht hA (by omega) (i := 3) (x := x) (fun s _ => by
    have e : j0 = j + 3 := by
      rcases hr with rfl | rfl
      · obtain ⟨h, q, -⟩ := h0 rfl; exact absurd (s h q.1) q.2.2
      · exact (h1 rfl).1
    rw [e] at x2
    exact x2) st3
  rw [k1]
  simp only [zb1, Option.bind_some]
  obtain ⟨v, J5, v1, v2, st5, v3⟩ := m_lyST hn ht hA (by omega) (i := 4) (Iff.rfl) ((hm.cf cf3).cf k2) hg st4
  rw [v1]
  simp only [zb2, Option.bind_some]
  obtain ⟨t, J6, t1, t2, t3, st6⟩ := m_sgST hn ht hA (by omega) (i := 5) (ch := 59) (by decide) (by decide) (Iff.rfl) st5
  have t1' : f_X12_is 59 J5 = some t := t1
  rw [t1']
  simp only [Option.bind_some]
  rw [t2]
  simp only [Option.bind_some]
  have cf : CF J J6 := ((cf3.trans k2).trans v2).trans t3
  rcases zST_49 st6 with ⟨s1, s2, s3⟩ | ⟨s1, s2⟩
  · rw [if_neg s3]
    have e52' : J6 97 52 = nI (c 2) := by rw [cf.2 52 (by omega)]; exact e52
    have h16 : c 2 < 16 := s1 0 (by omega)
    have e16 : (16 : Int32) + nI (c 2) = nI (16 + c 2) := nI_add 16 _
    have hb : zbd (nI (16 + c 2)) 32 = true := zbd_nI (by omega) (by decide)
    have hcl : (nI (16 + c 2)).toNatClampNeg = 16 + c 2 := nI_clamp (by omega)
    have q1 : ∀ a, zu J6 110 (16 + c 2) a 97 52 = nI (c 2) := fun a => by rw [zu_p _ _ (by decide)]; exact e52'
    have q2 : ∀ a b, zu (zu J6 110 (16 + c 2) a) 111 (16 + c 2) b 97 52 = nI (c 2) := fun a b => by rw [zu_p _ _ (by decide)]; exact q1 a
    have q3 : ∀ a b d, zu (zu (zu J6 110 (16 + c 2) a) 111 (16 + c 2) b) 112 (16 + c 2) d 97 52 = nI (c 2) := fun a b d => by rw [zu_p _ _ (by decide)]; exact q2 a b
    simp only [zlt_b, e52', e16, zck_t _ hb, hcl, q1, q2, q3, nI_1]
    refine ⟨_, rfl, ?_, Or.inl ⟨s1, ?_, a, b, v, a3 (fun i hi => s1 i (by omega)), b3 (fun i hi => s1 i (by omega)), v3 (fun i hi => s1 i (by omega)), ?_⟩⟩
    · refine ⟨fun p a b => ?_, fun q a => ?_, fun p a b => rfl, fun p l a b d => ?_⟩
      · rw [zu_pf _ _ a, zu_pf _ _ (by omega), zu_pf _ _ (by omega), zu_pf _ _ (by omega), cf.1 p a]
      · rw [zu_k _ _ (by omega), zu_p _ _ (by decide), zu_p _ _ (by decide), zu_p _ _ (by decide), cf.2 q (by omega)]
      · have : l < 16 ∨ ¬ (110 ≤ p ∧ p ≤ 112) := by
          by_cases z : 110 ≤ p ∧ p ≤ 112
          · left; unfold rg at d; rw [if_neg (by omega), if_neg (by omega), if_pos (by omega)] at d; exact d
          · exact Or.inr z
        rw [zu_p _ _ (by omega), ← cf.1 p (by omega)]
        rcases this with z | z
        · rw [zu_k _ _ (by omega), zu_k _ _ (by omega), zu_k _ _ (by omega)]
        · rw [zu_p _ _ (by omega), zu_p _ _ (by omega), zu_p _ _ (by omega)]
    · refine s2.wr (fun k hk => ?_) ?_
      · rw [zu_k _ _ (by omega), zu_p _ _ (by decide), zu_p _ _ (by decide), zu_p _ _ (by decide)]
      · rw [zu_pf _ _ (by decide), zu_pf _ _ (by decide), zu_pf _ _ (by decide), zu_pf _ _ (by decide)]
    · refine zPM_J (J := J) hm (zu_eq _ _ _ _) (fun k hk => ?_) ?_ ?_ ?_ (fun p l a b d => ?_) (fun p a b d => ?_)
      · rw [zu_k _ _ (by omega), zu_p _ _ (by decide), zu_p _ _ (by decide), zu_p _ _ (by decide), cf.2 k (by omega)]
      · rw [zu_p _ _ (by decide), zu_p _ _ (by decide), zu_p _ _ (by decide), zu_eq]
      · rw [zu_p _ _ (by decide), zu_p _ _ (by decide), zu_eq]
      · rw [zu_p _ _ (by decide), zu_eq]
      · rw [zu_p _ _ (by omega), ← cf.1 p (by omega), zu_k _ _ (by omega), zu_k _ _ (by omega), zu_k _ _ (by omega)]
      · rw [zu_pf _ _ (by omega), zu_pf _ _ (by omega), zu_pf _ _ (by omega), zu_pf _ _ (by omega), cf.1 p (by omega)]
  · rw [if_pos s2]
    exact ⟨_, rfl, cf.rf M, Or.inr s1⟩
/-- one step of the class: a wire -/
theorem c_wr (hq : zpl Q) (ht : Tok T n m F E) (hs : CS Q T m F E j I L) (hc : zPC Q G c N I L) (hg : zPG G c N) : ∃ u, WA T m F E G c N j u ∧ (u = -1 → f_X8_takeWire Q I L = some (u, I)) ∧ (¬ u = -1 → f_X8_takeWire Q I L = some (u, zu I 3 4 (nI (j + 1))) ∧ CS Q T m F E (j + 1) (zu I 3 4 (nI (j + 1))) L ∧ zPC Q G c N (zu I 3 4 (nI (j + 1))) L ∧ FCl Q I L (zu I 3 4 (nI (j + 1))) L) := by
  obtain ⟨v, u, a1, a2, a3, a4⟩ := c_takeWire ht hs hc hg
  refine ⟨u, ⟨v, a1, a2⟩, a3, fun z => ⟨a4 z, hs.up (wrOk_lt ⟨v, u, a1, a2, z⟩), hc.up hq, FCl.at hq _⟩⟩
theorem c_joinS (hq : zpl Q) (hn : n ≤ 800) (ht : Tok T n m F E) (hT : ∀ k, k < n → T k < 127) (hj : j < m) (hs : CS Q T m F E j I L) (hc : zPC Q G c N I L) (hg : zPG G c N) (h16 : c 2 < 16) :
    (chS (aJo T m F E G c N j) 6 → ∃ a b v, WA T m F E G c N (j + 1) a ∧ WA T m F E G c N (j + 2) b ∧ LA T m F E (c 0) (N 0) (j + 4) v ∧ ∃ I', f_X8_takeJoinSentence Q I L = some (1, I') ∧ FCl Q I L I' L ∧ CS Q T m F E (j + 6) I' L ∧ zPC Q (zu (zu (zu G 4 (c 2) a) 5 (c 2) b) 6 (c 2) v) (cu c 2) N I' L) ∧
    (∀ h, chF (aJo T m F E G c N j) 6 h → ∃ I', f_X8_takeJoinSentence Q I L = some (0, I') ∧ FCl Q I L I' L ∧ I' 3 4 = nI (j + h)) := by
  have s1 : CS Q T m F E (j + 1) (zu I 3 4 (nI (j + 1))) L := hs.up hj
  have p1 : zPC Q G c N (zu I 3 4 (nI (j + 1))) L := hc.up hq
  have f1 : FCl Q I L (zu I 3 4 (nI (j + 1))) L := FCl.at hq _
  unfold f_X8_takeJoinSentence f_X8_takeJoinSentence_41 f_X8_takeJoinSentence_62
  rw [zlt_b, zlt_b, hs.2.2.1, nI_1]
  generalize zu I 3 4 (nI (j + 1)) = I1 at s1 p1 f1 ⊢
  obtain ⟨a, a1, a2, a3⟩ := c_wr hq ht s1 p1 hg
  by_cases z1 : a = -1
  · rw [a2 z1]
    simp only [zb2, Option.bind_some]
    rw [if_pos z1]
    have n1 := WA_no hg a1 z1
    refine ⟨fun z => absurd (z 1 (by omega)) n1, fun h hh => ⟨I1, rfl, f1, ?_⟩⟩
    have : h = 1 := chF_u hh (l := 6) (h := 1) ⟨by omega, fun i hi => by match i, hi with | 0, _ => exact h16, n1⟩
    rw [this]; exact s1.2.2.1
  have o1 := WA_ok a1 z1
  obtain ⟨b0, s2, p2, f2⟩ := a3 z1
  rw [b0]
  simp only [zb2, Option.bind_some]
  rw [if_neg z1]
  rw [show j + 1 + 1 = j + 2 from rfl] at s2 p2 f2 ⊢
  replace f2 := f1.trans f2
  generalize zu I1 3 4 (nI (j + 2)) = I2 at s2 p2 f2 ⊢
  obtain ⟨b, b1, b2, b3⟩ := c_wr hq ht s2 p2 hg
  by_cases z2 : b = -1
  · rw [b2 z2]
    simp only [Option.bind_some]
    rw [if_pos z2]
    have n2 := WA_no hg b1 z2
    refine ⟨fun z => absurd (z 2 (by omega)) n2, fun h hh => ⟨I2, rfl, f2, ?_⟩⟩
    have : h = 2 := chF_u hh (l := 6) (h := 2) ⟨by omega, fun i hi => by match i, hi with | 0, _ => exact h16 | 1, _ => exact o1, n2⟩
    rw [this]; exact s2.2.2.1
  have o2 := WA_ok b1 z2
  obtain ⟨b4, s3, p3, f3⟩ := b3 z2
  rw [b4]
  simp only [Option.bind_some]
  rw [if_neg z2]
  rw [show j + 2 + 1 = j + 3 from rfl] at s3 p3 f3 ⊢
  replace f3 := f2.trans f3
  generalize zu I2 3 4 (nI (j + 3)) = I3 at s3 p3 f3 ⊢
  have tw := c_takeWord ht s3 (t := 7) (by decide)
  by_cases z3 : wd T m F E (j + 3) 7
  · have s4 : CS Q T m F E (j + 4) (zu I3 3 4 (nI (j + 4))) L := s3.up (wd_lt z3)
    have p4 : zPC Q G c N (zu I3 3 4 (nI (j + 4))) L := p3.up hq
    have f4 : FCl Q I L (zu I3 3 4 (nI (j + 4))) L := f3.trans (FCl.at hq _)
    have tw' : f_X8_takeWord 7 I3 L = some (1, zu I3 3 4 (nI (j + 4))) := tw.1 z3
    rw [tw']
    simp only [Option.bind_some]
    generalize zu I3 3 4 (nI (j + 4)) = I4 at s4 p4 f4 ⊢
    rw [if_neg n10]
    obtain ⟨v, v1, v2, v3⟩ := c_takeLayer ht s4 p4 hg
    by_cases z4 : v = -1
    · have z4' : ¬ lyOk T m F E (c 0) (N 0) (j + 4) := fun ⟨y, y1, y2⟩ => y2 (by rw [LA_u hg.2.2.1 y1 v1]; exact z4)
      rw [v2 z4]
      simp only [Option.bind_some]
      rw [if_pos z4]
      refine ⟨fun z => absurd (z 4 (by omega)) z4', fun h hh => ⟨I4, rfl, f4, ?_⟩⟩
      have : h = 4 := chF_u hh (l := 6) (h := 4) ⟨by omega, fun i hi => by match i, hi with | 0, _ => exact h16 | 1, _ => exact o1 | 2, _ => exact o2 | 3, _ => exact z3, z4'⟩
      rw [this]; exact s4.2.2.1
    · have z4' : lyOk T m F E (c 0) (N 0) (j + 4) := ⟨v, v1, z4⟩
      have s5 : CS Q T m F E (j + 5) (zu I4 3 4 (nI (j + 5))) L := s4.up (LA_lt v1 z4).1
      have p5 : zPC Q G c N (zu I4 3 4 (nI (j + 5))) L := p4.up hq
      have f5 : FCl Q I L (zu I4 3 4 (nI (j + 5))) L := f4.trans (FCl.at hq _)
      have v3' : f_X8_takeLayer Q I4 L = some (v, zu I4 3 4 (nI (j + 5))) := v3 z4
      rw [v3']
      simp only [Option.bind_some]
      generalize zu I4 3 4 (nI (j + 5)) = I5 at s5 p5 f5 ⊢
      rw [if_neg z4]
      have sn := c_sign hn ht hT s5 (ch := 59) (by decide)
      by_cases z5 : sg T m F E (j + 5) 59
      · have s6 : CS Q T m F E (j + 6) (zu I5 3 4 (nI (j + 6))) L := s5.up (sg_lt z5)
        have p6 : zPC Q G c N (zu I5 3 4 (nI (j + 6))) L := p5.up hq
        have f6 : FCl Q I L (zu I5 3 4 (nI (j + 6))) L := f5.trans (FCl.at hq _)
        have sn' : f_X8_takeSign 59 I5 L = some (1, zu I5 3 4 (nI (j + 6))) := sn.1 z5
        rw [sn']
        simp only [Option.bind_some]
        generalize zu I5 3 4 (nI (j + 6)) = I6 at s6 p6 f6 ⊢
        rw [if_neg n10, zck_t _ (decide_eq_true s6.2.2.2.1)]
        have h14 : I6 Q 14 = nI (c 2) := p6.1 2 (by decide)
        have hb : zbd (nI (c 2)) 16 = true := zbd_nI h16 (by decide)
        have hcl : (nI (c 2)).toNatClampNeg = c 2 := nI_clamp (by omega)
        have q1 : ∀ a, zu I6 (Q + 1 + 5) (c 2) a Q 14 = nI (c 2) := fun a => by rw [zu_p _ _ (by omega)]; exact h14
        have q2 : ∀ a b, zu (zu I6 (Q + 1 + 5) (c 2) a) (Q + 1 + 6) (c 2) b Q 14 = nI (c 2) := fun a b => by rw [zu_p _ _ (by omega)]; exact q1 a
        have q3 : ∀ a b d, zu (zu (zu I6 (Q + 1 + 5) (c 2) a) (Q + 1 + 6) (c 2) b) (Q + 1 + 7) (c 2) d Q 14 = nI (c 2) := fun a b d => by rw [zu_p _ _ (by omega)]; exact q2 a b
        have hQ3 : 3 ≠ Q ∧ ∀ k, 3 ≠ Q + 1 + k := by rcases hq with rfl | rfl <;> exact ⟨by omega, fun k => by omega⟩
        have ad : f_X7_addJoin Q a b v I6 = some (zu (zu (zu (zu I6 (Q + 1 + 5) (c 2) a) (Q + 1 + 6) (c 2) b) (Q + 1 + 7) (c 2) v) Q 14 (nI (c 2 + 1))) := by
          unfold f_X7_addJoin
          rw [h14, zck_t _ hb]
          simp only [zlt_b, hcl, q1, q2, q3, zck_t _ hb, nI_1]
        rw [ad]
        have x2 : FCl Q I6 L (zu (zu (zu (zu I6 (Q + 1 + 5) (c 2) a) (Q + 1 + 6) (c 2) b) (Q + 1 + 7) (c 2) v) Q 14 (nI (c 2 + 1))) L := ⟨fun p a b => by rw [zu_pf _ _ (by omega), zu_pf _ _ (by omega), zu_pf _ _ (by omega), zu_pf _ _ (by omega)], fun k a => by rw [zu_p _ _ hQ3.1, zu_p _ _ (hQ3.2 7), zu_p _ _ (hQ3.2 6), zu_p _ _ (hQ3.2 5)], fun _ _ _ => rfl⟩
        refine ⟨fun _ => ⟨a, b, v, a1, b1, v1, _, rfl, f6.trans x2, s6.fc hq x2 s6.1 (by rw [zu_p _ _ hQ3.1, zu_p _ _ (hQ3.2 7), zu_p _ _ (hQ3.2 6), zu_p _ _ (hQ3.2 5)]; exact s6.2.2.1), zPC_J p6 (zu_eq _ _ _ _) (fun k hk => ?_) ?_ ?_ ?_ (fun p l a b d => ?_) (fun p a b => ?_)⟩, fun h hh => ?_⟩
        · rw [zu_k _ _ (by omega), zu_p _ _ (by omega), zu_p _ _ (by omega), zu_p _ _ (by omega)]
        · rw [zu_p _ _ (by omega), zu_p _ _ (by omega), zu_p _ _ (by omega), zu_eq]
        · rw [zu_p _ _ (by omega), zu_p _ _ (by omega), zu_eq]
        · rw [zu_p _ _ (by omega), zu_eq]
        · rw [zu_p _ _ (by omega), zu_k _ _ (by omega), zu_k _ _ (by omega), zu_k _ _ (by omega)]
        · rw [zu_pf _ _ (by omega), zu_pf _ _ (by omega), zu_pf _ _ (by omega), zu_pf _ _ (by omega)]
        · exfalso
          have : aJo T m F E G c N j h := by
            match h, hh.1 with
            | 0, _ => exact h16
            | 1, _ => exact o1
            | 2, _ => exact o2
            | 3, _ => exact z3
            | 4, _ => exact z4'
            | 5, _ => exact z5
          exact hh.2.2 this
      · have sn' : f_X8_takeSign 59 I5 L = some (0, I5) := sn.2 z5
        rw [sn']
        simp only [Option.bind_some, if_true]
        refine ⟨fun z => absurd (z 5 (by omega)) z5, fun h hh => ⟨I5, rfl, f5, ?_⟩⟩
        have : h = 5 := chF_u hh (l := 6) (h := 5) ⟨by omega, fun i hi => by match i, hi with | 0, _ => exact h16 | 1, _ => exact o1 | 2, _ => exact o2 | 3, _ => exact z3 | 4, _ => exact z4', z5⟩
        rw [this]; exact s5.2.2.1
  · rw [tw.2 z3]
    simp only [Option.bind_some, if_true]
    refine ⟨fun z => absurd (z 3 (by omega)) z3, fun h hh => ⟨I3, rfl, f3, ?_⟩⟩
    have : h = 3 := chF_u hh (l := 6) (h := 3) ⟨by omega, fun i hi => by match i, hi with | 0, _ => exact h16 | 1, _ => exact o1 | 2, _ => exact o2, z3⟩
    rw [this]; exact s3.2.2.1
end Jo
