/-! the make sentence -/
def lyOk (T : Nat → Nat) (m : Nat) (F E : Nat → Nat) (n : Nat) (N : Nat → List Nat) (j : Nat) : Prop := ∃ v, LA T m F E n N j v ∧ ¬ v = -1
def aMk (T : Nat → Nat) (m : Nat) (F E : Nat → Nat) (c : Nat → Nat) (N : Nat → Nat → List Nat) (j : Nat) : Nat → Prop
  | 0 => c 0 < 24
  | 1 => nwL T m F E (c 0) (N 0) (j + 1)
  | 2 => sg T m F E (j + 2) 61
  | 3 => lyOk T m F E (c 0) (N 0) (j + 3)
  | 4 => ¬ wayR T m F E (j + 4) 0
  | 5 => lyOk T m F E (c 0) (N 0) (j + 5)
  | i + 6 => sg T m F E (j + 6 + i) 59
section Mk
variable {Q : Nat} {G : zI} {c : Nat → Nat} {N : Nat → Nat → List Nat} {I J : zI} {L M : zL} {T : Nat → Nat} {n m : Nat} {F E : Nat → Nat} {j r k : Nat}
theorem lyOk_lt {W : Nat → List Nat} (h : lyOk T m F E n W j) : j < m := by
  obtain ⟨v, h1, h2⟩ := h; exact (LA_lt h1 h2).1
theorem way_lt (h : ¬ wayR T m F E j 0) : j < m := by
  by_cases z2 : wd T m F E j 2
  · exact wd_lt z2
  · by_cases z3 : wd T m F E j 3
    · exact wd_lt z3
    · by_cases z4 : wd T m F E j 4
      · exact wd_lt z4
      · exact absurd (Or.inr (Or.inr (Or.inr ⟨rfl, z2, z3, z4⟩))) h
theorem aMk_lt (hj : j < m) : ∀ i, aMk T m F E c N j i → j + i < m
  | 0, _ => hj
  | 1, h => nwL_lt h
  | 2, h => sg_lt h
  | 3, h => lyOk_lt h
  | 4, h => way_lt h
  | 5, h => lyOk_lt h
  | i + 6, h => by have := sg_lt h; omega
theorem m_lyST {A : Nat → Prop} (hn : n ≤ 800) (ht : Tok T n m F E) (hA : ∀ i, A i → j + i < m) (hj : j ≤ m) {i : Nat} (Ai : A i ↔ lyOk T m F E (c 0) (N 0) (j + i)) (hm : zPM G c N J M) (hg : zPG G c N) (st : zST T n m F E A j i J) : ∃ v J', f_X12_takeLayer J M = some (v, J') ∧ CF J J' ∧ zST T n m F E A j (i + 1) J' ∧ (chS A i → LA T m F E (c 0) (N 0) (j + i) v) := by
  obtain ⟨j0, r, hr, hj0, hs1, h1, h0⟩ := ST_ex hA hj st
  obtain ⟨v, J', k1, k2, k3, k4⟩ := m_takeLayer hn ht hr hj0 hs1 hm hg
  have hl : r = 1 → LA T m F E (c 0) (N 0) (j + i) v := fun z => by rw [← (h1 z).1]; exact k2
  refine ⟨v, J', k1, k3, ST_go hr h1 h0 ?_, fun hs => ?_⟩
  · rcases k4 with ⟨a, b, d⟩ | ⟨a, b⟩
    · exact Or.inl ⟨a, Ai.mpr ⟨v, hl a, b⟩, d⟩
    · refine Or.inr ⟨fun z => a ⟨z.1, fun y => ?_⟩, b⟩
      obtain ⟨w, w1, w2⟩ := Ai.mp z.2
      exact w2 (by rw [LA_u hg.2.2.1 w1 (hl z.1)]; exact y)
  · rcases hr with rfl | rfl
    · obtain ⟨h, q, -⟩ := h0 rfl; exact absurd (hs h q.1) q.2.2
    · exact hl rfl
/-- the way's word -/
theorem m_way (hn : n ≤ 800) (ht : Tok T n m F E) (hj : j ≤ m) (hs : RC T n m F E j J) {x7 : Int32} : ∃ w, wayR T m F E j w ∧ zb1 (f_X12_name J) (fun x10 => zb1 (f_X12_word (97 : Int32) (110 : Int32) (100 : Int32) (0 : Int32) (0 : Int32)) (fun x12 => if x10 = x12 then (f_X12_readMake_93 x7 (1 : Int32) J M) else (zb1 (f_X12_word (111 : Int32) (114 : Int32) (0 : Int32) (0 : Int32) (0 : Int32)) (fun x14 => if x10 = x14 then (f_X12_readMake_93 x7 (2 : Int32) J M) else (zb1 (f_X12_word (108 : Int32) (101 : Int32) (115 : Int32) (115 : Int32) (0 : Int32)) (fun x16 => if x10 = x16 then (f_X12_readMake_93 x7 (3 : Int32) J M) else (f_X12_readMake_93 x7 (0 : Int32) J M))))))) = f_X12_readMake_93 x7 (nI w) J M := by
  obtain ⟨-, -, q2, q3, q4, -⟩ := e_word
  have en : f_X12_name J = some (wNm T m F E j) := e_mname hn ht hj hs
  rw [en, q2, q3, q4]
  simp only [zb1, Option.bind_some]
  have k2 := wN_kw (j := j) ht (t := 2) (by decide)
  have k3 := wN_kw (j := j) ht (t := 3) (by decide)
  have k4 := wN_kw (j := j) ht (t := 4) (by decide)
  by_cases h2 : wd T m F E j 2
  · exact ⟨1, Or.inl ⟨rfl, h2⟩, if_pos (k2.mpr h2)⟩
  · rw [if_neg (fun z => h2 (k2.mp z))]
    by_cases h3 : wd T m F E j 3
    · exact ⟨2, Or.inr (Or.inl ⟨rfl, h3⟩), if_pos (k3.mpr h3)⟩
    · rw [if_neg (fun z => h3 (k3.mp z))]
      by_cases h4 : wd T m F E j 4
      · exact ⟨3, Or.inr (Or.inr (Or.inl ⟨rfl, h4⟩)), if_pos (k4.mpr h4)⟩
      · exact ⟨0, Or.inr (Or.inr (Or.inr ⟨rfl, h2, h3, h4⟩)), if_neg (fun z => h4 (k4.mp z))⟩
theorem wayR_u {v w : Nat} (h1 : wayR T m F E j v) (h2 : wayR T m F E j w) : v = w := by
  have k23 : kw 2 ≠ kw 3 := by decide
  have k24 : kw 2 ≠ kw 4 := by decide
  have k34 : kw 3 ≠ kw 4 := by decide
  rcases h1 with ⟨rfl, a⟩ | ⟨rfl, a⟩ | ⟨rfl, a⟩ | ⟨rfl, a, b, d⟩ <;> rcases h2 with ⟨rfl, e⟩ | ⟨rfl, e⟩ | ⟨rfl, e⟩ | ⟨rfl, e, f, g⟩
  · rfl
  · exact absurd e (wd_ne a k23)
  · exact absurd e (wd_ne a k24)
  · exact absurd a e
  · exact absurd a (wd_ne e k23)
  · rfl
  · exact absurd e (wd_ne a k34)
  · exact absurd a f
  · exact absurd a (wd_ne e k24)
  · exact absurd a (wd_ne e k34)
  · rfl
  · exact absurd a g
  · exact absurd e a
  · exact absurd e b
  · exact absurd e d
  · rfl
theorem wayR_le {v : Nat} (h : wayR T m F E j v) : v ≤ 3 := by
  rcases h with ⟨rfl, -⟩ | ⟨rfl, -⟩ | ⟨rfl, -⟩ | ⟨rfl, -⟩ <;> decide
/-- the cursor moves on over writes elsewhere -/
theorem RS.wr {J' : zI} (h : RS T n m F E j r J) (h97 : ∀ k, k ≤ 49 → J' 97 k = J 97 k) (h117 : J' 117 = J 117) : RS T n m F E j r J' := by
  obtain ⟨⟨t1, t2, t3, t4⟩, t5⟩ := h
  exact ⟨⟨t1.cg (h97 29 (by decide)) h117, by rw [h97 46 (by decide)]; exact t2, by rw [h97 47 (by decide)]; exact t3, by rw [h97 48 (by decide)]; exact t4⟩, by rw [h97 49 (by decide)]; exact t5⟩
theorem m_readMake (hn : n ≤ 800) (ht : Tok T n m F E) (hj : j < m) (hs : RS T n m F E j 1 J) (hm : zPM G c N J M) (hg : zPG G c N) :
    ∃ J' M', f_X12_readMake J M = some (J', M') ∧ FRf J M J' M' ∧ ((chS (aMk T m F E c N j) 7 ∧ RS T n m F E (j + 7) 1 J' ∧ ∃ v w u, LA T m F E (c 0) (N 0) (j + 3) v ∧ wayR T m F E (j + 4) w ∧ LA T m F E (c 0) (N 0) (j + 5) u ∧ zPM (zu (zu (zu G 0 (c 0) (nI w)) 1 (c 0) v) 2 (c 0) u) (cu c 0) (nu N 0 (c 0) (wG T F E (j + 1))) J' M') ∨ ∃ h, chF (aMk T m F E c N j) 7 h ∧ RS T n m F E (j + h) 0 J') := by
  have hA := aMk_lt (T := T) (m := m) (F := F) (E := E) (c := c) (N := N) hj
  have b24 := hg.1.1
  have e50 : J 97 50 = nI (c 0) := hm.1 0 (by decide)
  have hw : ∃ w : Int32, f_X12_readMake J M = f_X12_readMake_15 w J M ∧ ((aMk T m F E c N j 0 ∧ w = 1) ∨ (¬ aMk T m F E c N j 0 ∧ w = 0)) := by
    unfold f_X12_readMake
    rw [e50]
    by_cases z : c 0 < 24
    · rw [if_neg (show ¬ (24 : Int32) ≤ nI (c 0) from nI_ge (b := 24) z (by decide))]
      exact ⟨1, rfl, Or.inl ⟨z, rfl⟩⟩
    · rw [if_pos (show (24 : Int32) ≤ nI (c 0) from nI_le (a := 24) (by omega) (by omega))]
      exact ⟨0, rfl, Or.inr ⟨z, rfl⟩⟩
  obtain ⟨w, w1, w2⟩ := hw
  obtain ⟨J1, J2, M2, g1, g2, g3, g4, g5, g6, g7⟩ := m_begin hn ht hA hj (Iff.rfl) (Iff.rfl) (Iff.rfl) hs hm hg w2
  rw [w1]
  unfold f_X12_readMake_15
  rw [g1]
  simp only [zb1, Option.bind_some]
  rw [g2]
  simp only [zb2, Option.bind_some]
  obtain ⟨v, J3, v1, v2, st4, v3⟩ := m_lyST hn ht hA (by omega) (i := 3) (Iff.rfl) g5 hg g4
  rw [v1]
  simp only [Option.bind_some]
  have pm3 := g5.cf v2
  obtain ⟨j0, r, hr, hj0, hs1, h1, h0⟩ := ST_ex hA (by omega) st4
  obtain ⟨y, y1, y2⟩ := m_way (M := M2) (x7 := v) hn ht hj0 hs1.1
  simp only [zb1] at y2
  rw [y2]
  have ey : chS (aMk T m F E c N j) 4 → wayR T m F E (j + 4) y := fun a => by
    rcases hr with rfl | rfl
    · obtain ⟨h, q, -⟩ := h0 rfl; exact absurd (a h q.1) q.2.2
    · rw [← (h1 rfl).1]; exact y1
  have h93 : ∃ x : Int32, f_X12_readMake_93 v (nI y) J3 M2 = f_X12_readMake_106 v (nI y) x J3 M2 ∧ ((y ≠ 0 ∧ ¬ x = 0) ∨ (y = 0 ∧ x = 0)) := by
    unfold f_X12_readMake_93
    by_cases z : y = 0
    · subst z; rw [if_pos (by decide)]; exact ⟨0, rfl, Or.inr ⟨rfl, rfl⟩⟩
    · rw [if_neg (nI_nle (by omega) (by have := wayR_le y1; omega))]; exact ⟨1, rfl, Or.inl ⟨z, n10⟩⟩
  obtain ⟨x, x1, x2⟩ := h93
  rw [x1]
  unfold f_X12_readMake_106 f_X12_readMake_183
  obtain ⟨J4, k1, k2, st5⟩ := m_tkST hn ht hA (by omega) (i := 4) (x := x) (fun a b => by
    have q := ey a
    rcases x2 with ⟨z1, z2⟩ | ⟨z1, z2⟩
    · exact Or.inl ⟨fun z => z1 (wayR_u q z), z2⟩
    · subst z1; exact Or.inr ⟨fun z => z q, z2⟩) st4
  rw [k1]
  simp only [zb1, Option.bind_some]
  obtain ⟨u, J5, u1, u2, st6, u3⟩ := m_lyST hn ht hA (by omega) (i := 5) (Iff.rfl) (pm3.cf k2) hg st5
  rw [u1]
  simp only [zb2, Option.bind_some]
  obtain ⟨t, J6, t1, t2, t3, st7⟩ := m_sgST hn ht hA (by omega) (i := 6) (ch := 59) (by decide) (by decide) (Iff.rfl) st6
  have t1' : f_X12_is 59 J5 = some t := t1
  rw [t1']
  simp only [Option.bind_some]
  rw [t2]
  simp only [Option.bind_some]
  have cf : CF J J6 := (((g3.trans v2).trans k2).trans u2).trans t3
  rcases zST_49 st7 with ⟨s1, s2, s3⟩ | ⟨s1, s2⟩
  · rw [if_neg s3]
    have e50' : J6 97 50 = nI (c 0) := by rw [cf.2 50 (by omega)]; exact e50
    have h24 : c 0 < 24 := s1 0 (by omega)
    have e24 : (24 : Int32) + nI (c 0) = nI (24 + c 0) := nI_add 24 _
    have hb : zbd (nI (24 + c 0)) 48 = true := zbd_nI (by omega) (by decide)
    have hcl : (nI (24 + c 0)).toNatClampNeg = 24 + c 0 := nI_clamp (by omega)
    have q1 : ∀ a, zu J6 106 (24 + c 0) a 97 50 = nI (c 0) := fun a => by rw [zu_p _ _ (by decide)]; exact e50'
    have q2 : ∀ a b, zu (zu J6 106 (24 + c 0) a) 107 (24 + c 0) b 97 50 = nI (c 0) := fun a b => by rw [zu_p _ _ (by decide)]; exact q1 a
    have q3 : ∀ a b d, zu (zu (zu J6 106 (24 + c 0) a) 107 (24 + c 0) b) 108 (24 + c 0) d 97 50 = nI (c 0) := fun a b d => by rw [zu_p _ _ (by decide)]; exact q2 a b
    simp only [zlt_b, e50', e24, zck_t _ hb, hcl, q1, q2, q3, nI_1]
    have em := g6 (fun i hi => s1 i (by omega))
    refine ⟨_, _, rfl, ?_, Or.inl ⟨s1, ?_, v, y, u, v3 (fun i hi => s1 i (by omega)), ey (fun i hi => s1 i (by omega)), u3 (fun i hi => s1 i (by omega)), ?_⟩⟩
    · refine ⟨fun p a b => ?_, fun q a => ?_, fun p a b => g7 p a, fun p l a b d => ?_⟩
      · rw [zu_pf _ _ a, zu_pf _ _ (by omega), zu_pf _ _ (by omega), zu_pf _ _ (by omega), cf.1 p a]
      · rw [zu_k _ _ (by omega), zu_p _ _ (by decide), zu_p _ _ (by decide), zu_p _ _ (by decide), cf.2 q (by omega)]
      · have : l < 24 ∨ ¬ (p = 106 ∨ p = 107 ∨ p = 108) := by
          by_cases z : p = 106 ∨ p = 107 ∨ p = 108
          · left; unfold rg at d; rw [if_pos (by omega)] at d; exact d
          · exact Or.inr z
        rw [zu_p _ _ (by omega), ← cf.1 p (by omega)]
        rcases this with z | z
        · rw [zu_k _ _ (by omega), zu_k _ _ (by omega), zu_k _ _ (by omega)]
        · rw [zu_p _ _ (by omega), zu_p _ _ (by omega), zu_p _ _ (by omega)]
    · refine s2.wr (fun k hk => ?_) ?_
      · rw [zu_k _ _ (by omega), zu_p _ _ (by decide), zu_p _ _ (by decide), zu_p _ _ (by decide)]
      · rw [zu_pf _ _ (by decide), zu_pf _ _ (by decide), zu_pf _ _ (by decide), zu_pf _ _ (by decide)]
    · refine zPM_addL (M := M) (J := J) hm h24 ?_ ?_ ?_ ?_ ?_ ?_ ?_ ?_ ?_ ?_
      · rw [em, zul_eq]
      · intro l hl; rw [em, zul_k _ _ (by omega)]
      · exact g7 113 (by decide)
      · rw [zu_eq]
      · intro q a b; rw [zu_k _ _ (by omega), zu_p _ _ (by decide), zu_p _ _ (by decide), zu_p _ _ (by decide), cf.2 q (by omega)]
      · rw [zu_p _ _ (by decide), zu_p _ _ (by decide), zu_p _ _ (by decide), zu_eq]
      · rw [zu_p _ _ (by decide), zu_p _ _ (by decide), zu_eq]
      · intro z; rw [zu_p _ _ (by decide), zu_eq]
      · intro p l a b d
        rw [zu_p _ _ (by omega), ← cf.1 p (by omega), zu_k _ _ (by omega), zu_k _ _ (by omega), zu_k _ _ (by omega)]
      · intro p a b
        rw [zu_pf _ _ (by omega), zu_pf _ _ (by omega), zu_pf _ _ (by omega), zu_pf _ _ (by omega), cf.1 p (by omega)]
  · rw [if_pos s2]
    exact ⟨_, _, rfl, ⟨(cf.rf M).1, (cf.rf M).2.1, fun p a b => g7 p a, (cf.rf M).2.2.2⟩, Or.inr s1⟩
theorem c_makeS (hq : zpl Q) (hn : n ≤ 800) (ht : Tok T n m F E) (hT : ∀ k, k < n → T k < 127) (hj : j < m) (hs : CS Q T m F E j I L) (hc : zPC Q G c N I L) (hg : zPG G c N) (h24 : c 0 < 24) :
    (chS (aMk T m F E c N j) 7 → ∃ v w u, LA T m F E (c 0) (N 0) (j + 3) v ∧ wayR T m F E (j + 4) w ∧ LA T m F E (c 0) (N 0) (j + 5) u ∧ ∃ I' L', f_X8_takeMakeSentence Q I L = some (1, I', L') ∧ FCl Q I L I' L' ∧ CS Q T m F E (j + 7) I' L' ∧ zPC Q (zu (zu (zu G 0 (c 0) (nI w)) 1 (c 0) v) 2 (c 0) u) (cu c 0) (nu N 0 (c 0) (wG T F E (j + 1))) I' L') ∧
    (∀ h, chF (aMk T m F E c N j) 7 h → ∃ I', f_X8_takeMakeSentence Q I L = some (0, I', L) ∧ FCl Q I L I' L ∧ I' 3 4 = nI (j + h)) := by
  have s1 : CS Q T m F E (j + 1) (zu I 3 4 (nI (j + 1))) L := hs.up hj
  have p1 : zPC Q G c N (zu I 3 4 (nI (j + 1))) L := hc.up hq
  have f1 : FCl Q I L (zu I 3 4 (nI (j + 1))) L := FCl.at hq _
  unfold f_X8_takeMakeSentence f_X8_takeMakeSentence_32 f_X8_takeMakeSentence_81
  rw [zlt_b, zlt_b, hs.2.2.1, nI_1]
  generalize zu I 3 4 (nI (j + 1)) = I1 at s1 p1 f1 ⊢
  have nl := c_newLayer ht s1 p1 hg
  by_cases a1 : nwL T m F E (c 0) (N 0) (j + 1)
  · have gg := wG_good ht a1.1
    have s2 : CS Q T m F E (j + 2) (zu I1 3 4 (nI (j + 2))) L := s1.up (nwL_lt a1)
    have p2 : zPC Q G c N (zu I1 3 4 (nI (j + 2))) L := p1.up hq
    have f2 : FCl Q I L (zu I1 3 4 (nI (j + 2))) L := f1.trans (FCl.at hq _)
    have nl' : f_X8_takeNewLayer Q I1 L = some (z5c (wG T F E (j + 1)), zu I1 3 4 (nI (j + 2))) := nl.1 a1
    rw [nl']
    simp only [zb2, Option.bind_some]
    generalize zu I1 3 4 (nI (j + 2)) = I2 at s2 p2 f2 ⊢
    rw [if_neg (c5_m1 gg)]
    have sn := c_sign hn ht hT s2 (ch := 61) (by decide)
    by_cases a2 : sg T m F E (j + 2) 61
    · have s3 : CS Q T m F E (j + 3) (zu I2 3 4 (nI (j + 3))) L := s2.up (sg_lt a2)
      have p3 : zPC Q G c N (zu I2 3 4 (nI (j + 3))) L := p2.up hq
      have f3 : FCl Q I L (zu I2 3 4 (nI (j + 3))) L := f2.trans (FCl.at hq _)
      have sn' : f_X8_takeSign 61 I2 L = some (1, zu I2 3 4 (nI (j + 3))) := sn.1 a2
      rw [sn']
      simp only [Option.bind_some]
      generalize zu I2 3 4 (nI (j + 3)) = I3 at s3 p3 f3 ⊢
      rw [if_neg n10]
      obtain ⟨v, v1, v2, v3⟩ := c_takeLayer ht s3 p3 hg
      by_cases a3 : v = -1
      · have a3' : ¬ lyOk T m F E (c 0) (N 0) (j + 3) := fun ⟨y, y1, y2⟩ => y2 (by rw [LA_u hg.2.2.1 y1 v1]; exact a3)
        rw [v2 a3]
        simp only [Option.bind_some]
        rw [if_pos a3]
        refine ⟨fun z => absurd (z 3 (by omega)) a3', fun h hh => ⟨I3, rfl, f3, ?_⟩⟩
        have : h = 3 := chF_u hh (l := 7) (h := 3) ⟨by omega, fun i hi => by match i, hi with | 0, _ => exact h24 | 1, _ => exact a1 | 2, _ => exact a2, a3'⟩
        rw [this]; exact s3.2.2.1
      · have a3' : lyOk T m F E (c 0) (N 0) (j + 3) := ⟨v, v1, a3⟩
        have s4 : CS Q T m F E (j + 4) (zu I3 3 4 (nI (j + 4))) L := s3.up (LA_lt v1 a3).1
        have p4 : zPC Q G c N (zu I3 3 4 (nI (j + 4))) L := p3.up hq
        have f4 : FCl Q I L (zu I3 3 4 (nI (j + 4))) L := f3.trans (FCl.at hq _)
        have v3' : f_X8_takeLayer Q I3 L = some (v, zu I3 3 4 (nI (j + 4))) := v3 a3
        rw [v3']
        simp only [Option.bind_some]
        generalize zu I3 3 4 (nI (j + 4)) = I4 at s4 p4 f4 ⊢
        rw [if_neg a3]
        obtain ⟨w, w1⟩ := wayR_ex (T := T) (m := m) (F := F) (E := E) (j := j + 4)
        have cw := c_way ht s4 w1
        by_cases a4 : w = 0
        · subst a4
          have cw' : f_X8_takeWay I4 L = some (-1, I4) := cw.2 rfl
          rw [cw']
          simp only [Option.bind_some, if_true]
          have a4' : ¬ aMk T m F E c N j 4 := fun z => z w1
          refine ⟨fun z => absurd (z 4 (by omega)) a4', fun h hh => ⟨I4, rfl, f4, ?_⟩⟩
          have : h = 4 := chF_u hh (l := 7) (h := 4) ⟨by omega, fun i hi => by match i, hi with | 0, _ => exact h24 | 1, _ => exact a1 | 2, _ => exact a2 | 3, _ => exact a3', a4'⟩
          rw [this]; exact s4.2.2.1
        · have a4' : ¬ wayR T m F E (j + 4) 0 := fun z => a4 (wayR_u w1 z)
          have s5 : CS Q T m F E (j + 5) (zu I4 3 4 (nI (j + 5))) L := s4.up (way_lt a4')
          have p5 : zPC Q G c N (zu I4 3 4 (nI (j + 5))) L := p4.up hq
          have f5 : FCl Q I L (zu I4 3 4 (nI (j + 5))) L := f4.trans (FCl.at hq _)
          have cw' : f_X8_takeWay I4 L = some (nI w, zu I4 3 4 (nI (j + 5))) := cw.1 a4
          rw [cw']
          simp only [Option.bind_some]
          generalize zu I4 3 4 (nI (j + 5)) = I5 at s5 p5 f5 ⊢
          rw [if_neg (nI_m1 (by have := wayR_le w1; omega))]
          obtain ⟨u, u1, u2, u3⟩ := c_takeLayer ht s5 p5 hg
          by_cases a5 : u = -1
          · have a5' : ¬ lyOk T m F E (c 0) (N 0) (j + 5) := fun ⟨y, y1, y2⟩ => y2 (by rw [LA_u hg.2.2.1 y1 u1]; exact a5)
            rw [u2 a5]
            simp only [Option.bind_some]
            rw [if_pos a5]
            refine ⟨fun z => absurd (z 5 (by omega)) a5', fun h hh => ⟨I5, rfl, f5, ?_⟩⟩
            have : h = 5 := chF_u hh (l := 7) (h := 5) ⟨by omega, fun i hi => by match i, hi with | 0, _ => exact h24 | 1, _ => exact a1 | 2, _ => exact a2 | 3, _ => exact a3' | 4, _ => exact a4', a5'⟩
            rw [this]; exact s5.2.2.1
          · have a5' : lyOk T m F E (c 0) (N 0) (j + 5) := ⟨u, u1, a5⟩
            have s6 : CS Q T m F E (j + 6) (zu I5 3 4 (nI (j + 6))) L := s5.up (LA_lt u1 a5).1
            have p6 : zPC Q G c N (zu I5 3 4 (nI (j + 6))) L := p5.up hq
            have f6 : FCl Q I L (zu I5 3 4 (nI (j + 6))) L := f5.trans (FCl.at hq _)
            have u3' : f_X8_takeLayer Q I5 L = some (u, zu I5 3 4 (nI (j + 6))) := u3 a5
            rw [u3']
            simp only [Option.bind_some]
            generalize zu I5 3 4 (nI (j + 6)) = I6 at s6 p6 f6 ⊢
            rw [if_neg a5]
            have sn6 := c_sign hn ht hT s6 (ch := 59) (by decide)
            by_cases a6 : sg T m F E (j + 6) 59
            · have s7 : CS Q T m F E (j + 7) (zu I6 3 4 (nI (j + 7))) L := s6.up (sg_lt a6)
              have p7 : zPC Q G c N (zu I6 3 4 (nI (j + 7))) L := p6.up hq
              have f7 : FCl Q I L (zu I6 3 4 (nI (j + 7))) L := f6.trans (FCl.at hq _)
              have sn6' : f_X8_takeSign 59 I6 L = some (1, zu I6 3 4 (nI (j + 7))) := sn6.1 a6
              rw [sn6']
              simp only [Option.bind_some]
              generalize zu I6 3 4 (nI (j + 7)) = I7 at s7 p7 f7 ⊢
              rw [if_neg n10, zck_t _ (decide_eq_true s7.2.2.2.1)]
              obtain ⟨I8, L8, x1, x2, x3, x4⟩ := zPC_addL hq p7 h24 (g := wG T F E (j + 1)) (w := nI w) (a := v) (b := u)
              rw [x1]
              refine ⟨fun _ => ⟨v, w, u, v1, w1, u1, I8, L8, rfl, f7.trans x2, s7.fc hq x2 s7.1 (by rw [x3]; exact s7.2.2.1), x4⟩, fun h hh => ?_⟩
              exfalso
              have : aMk T m F E c N j h := by
                match h, hh.1 with
                | 0, _ => exact h24
                | 1, _ => exact a1
                | 2, _ => exact a2
                | 3, _ => exact a3'
                | 4, _ => exact a4'
                | 5, _ => exact a5'
                | 6, _ => exact a6
              exact hh.2.2 this
            · have sn6' : f_X8_takeSign 59 I6 L = some (0, I6) := sn6.2 a6
              rw [sn6']
              simp only [Option.bind_some, if_true]
              refine ⟨fun z => absurd (z 6 (by omega)) a6, fun h hh => ⟨I6, rfl, f6, ?_⟩⟩
              have : h = 6 := chF_u hh (l := 7) (h := 6) ⟨by omega, fun i hi => by match i, hi with | 0, _ => exact h24 | 1, _ => exact a1 | 2, _ => exact a2 | 3, _ => exact a3' | 4, _ => exact a4' | 5, _ => exact a5', a6⟩
              rw [this]; exact s6.2.2.1
    · have sn' : f_X8_takeSign 61 I2 L = some (0, I2) := sn.2 a2
      rw [sn']
      simp only [Option.bind_some, if_true]
      refine ⟨fun z => absurd (z 2 (by omega)) a2, fun h hh => ⟨I2, rfl, f2, ?_⟩⟩
      have : h = 2 := chF_u hh (l := 7) (h := 2) ⟨by omega, fun i hi => by match i, hi with | 0, _ => exact h24 | 1, _ => exact a1, a2⟩
      rw [this]; exact s2.2.2.1
  · rw [nl.2 a1]
    simp only [zb2, Option.bind_some, if_true]
    refine ⟨fun z => absurd (z 1 (by omega)) a1, fun h hh => ⟨I1, rfl, f1, ?_⟩⟩
    have : h = 1 := chF_u hh (l := 7) (h := 1) ⟨by omega, fun i hi => by match i, hi with | 0, _ => exact h24, a1⟩
    rw [this]; exact s1.2.2.1
end Mk
