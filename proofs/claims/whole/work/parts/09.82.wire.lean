/-! the wire sentence and the join sentence -/
def wnOk (T : Nat → Nat) (m : Nat) (F E : Nat → Nat) (n : Nat) (N : Nat → List Nat) (k : Nat) (W : Nat → Int32) (j : Nat) : Prop := ∃ v, LA T m F E n N j v ∧ ¬ v = -1 ∧ ∀ w, w < k → W w ≠ v
def wrOk (T : Nat → Nat) (m : Nat) (F E : Nat → Nat) (n : Nat) (N : Nat → List Nat) (k : Nat) (W : Nat → Int32) (j : Nat) : Prop := ∃ v u, LA T m F E n N j v ∧ wrR k W v u ∧ ¬ u = -1
def aWi (T : Nat → Nat) (m : Nat) (F E : Nat → Nat) (G : zI) (c : Nat → Nat) (N : Nat → Nat → List Nat) (j : Nat) : Nat → Prop
  | 0 => c 1 < 8
  | 1 => wnOk T m F E (c 0) (N 0) (c 1) (G 3) (j + 1)
  | i + 2 => sg T m F E (j + 2 + i) 59
def aJo (T : Nat → Nat) (m : Nat) (F E : Nat → Nat) (G : zI) (c : Nat → Nat) (N : Nat → Nat → List Nat) (j : Nat) : Nat → Prop
  | 0 => c 2 < 16
  | 1 => wrOk T m F E (c 0) (N 0) (c 1) (G 3) (j + 1)
  | 2 => wrOk T m F E (c 0) (N 0) (c 1) (G 3) (j + 2)
  | 3 => wd T m F E (j + 3) 7
  | 4 => lyOk T m F E (c 0) (N 0) (j + 4)
  | i + 5 => sg T m F E (j + 5 + i) 59
section Wi
variable {Q : Nat} {G : zI} {c : Nat → Nat} {N : Nat → Nat → List Nat} {I J : zI} {L M : zL} {T : Nat → Nat} {n m : Nat} {F E : Nat → Nat} {j r k : Nat}
theorem wrOk_lt {W : Nat → List Nat} {V : Nat → Int32} (h : wrOk T m F E n W k V j) : j < m := by
  obtain ⟨v, u, h1, h2, h3⟩ := h
  rcases h2 with ⟨-, x⟩ | ⟨x, -⟩
  · exact absurd x h3
  · exact (LA_lt h1 x).1
theorem aWi_lt (hj : j < m) : ∀ i, aWi T m F E G c N j i → j + i < m
  | 0, _ => hj
  | 1, ⟨_, h1, h2, _⟩ => (LA_lt h1 h2).1
  | i + 2, h => by have := sg_lt h; omega
theorem aJo_lt (hj : j < m) : ∀ i, aJo T m F E G c N j i → j + i < m
  | 0, _ => hj
  | 1, h => wrOk_lt h
  | 2, h => wrOk_lt h
  | 3, h => wd_lt h
  | 4, h => lyOk_lt h
  | i + 5, h => by have := sg_lt h; omega
theorem zPC_W (hc : zPC Q G c N I L) {a : Int32} {I' : zI} (e13 : I' Q 13 = nI (c 1 + 1)) (eQ : ∀ k, k = 12 ∨ k = 14 ∨ k = 15 → I' Q k = I Q k) (e1 : I' (Q + 1 + 4) (c 1) = a) (eo : ∀ l, l < c 1 → I' (Q + 1 + 4) l = I (Q + 1 + 4) l) (er : ∀ p, p ≤ 11 → p ≠ 4 → I' (Q + 1 + p) = I (Q + 1 + p)) :
    zPC Q (zu G 3 (c 1) a) (cu c 1) N I' L := by
  obtain ⟨p1, p2, p3, p4, p5⟩ := hc
  refine ⟨fun i hi => ?_, fun l hl => ?_, fun w hw => ?_, fun j hj => ?_, fun k hk => ?_⟩
  · by_cases z : i = 1
    · subst z; exact e13
    · rw [eQ (12 + i) (by omega), p1 i hi]
      show nI (c i) = nI (if i = 1 then c i + 1 else c i)
      rw [if_neg z]
  · have hl' : l < c 0 := hl
    obtain ⟨r1, r2, r3, r4⟩ := p2 l hl'
    rw [er 1 (by decide) (by decide), er 2 (by decide) (by decide), er 3 (by decide) (by decide), r1, r2, r3, r4]; simp [zu]
  · by_cases z : w = c 1
    · subst z; rw [e1]; simp [zu]
    · have hw' : w < c 1 := by have : w < c 1 + 1 := hw; omega
      rw [eo w hw', p3 w hw']; simp [zu, z]
  · have hj' : j < c 2 := hj
    obtain ⟨r1, r2, r3⟩ := p4 j hj'
    rw [er 5 (by decide) (by decide), er 6 (by decide) (by decide), er 7 (by decide) (by decide), r1, r2, r3]; simp [zu]
  · have hk' : k < c 3 := hk
    obtain ⟨r1, r2, r3, r4⟩ := p5 k hk'
    rw [er 9 (by decide) (by decide), er 10 (by decide) (by decide), er 11 (by decide) (by decide)]
    refine ⟨r1, by rw [r2]; simp [zu], by rw [r3]; simp [zu], fun i hi hlt => ?_⟩
    have hlt' : nI i < G 8 k := by simpa [zu] using hlt
    rw [r4 i hi hlt']; simp [zu]
theorem zPM_W (hm : zPM G c N J M) {a : Int32} {J' : zI} (e51 : J' 97 51 = nI (c 1 + 1)) (eQ : ∀ k, k = 50 ∨ k = 52 ∨ k = 53 → J' 97 k = J 97 k) (e1 : J' 109 (8 + c 1) = a) (eo : ∀ l, l < c 1 → J' 109 (8 + l) = J 109 (8 + l)) (er : ∀ p, 106 ≤ p → p ≤ 116 → p ≠ 109 → J' p = J p) :
    zPM (zu G 3 (c 1) a) (cu c 1) N J' M := by
  obtain ⟨p1, p2, p3, p4, p5⟩ := hm
  refine ⟨fun i hi => ?_, fun l hl => ?_, fun w hw => ?_, fun j hj => ?_, fun k hk => ?_⟩
  · by_cases z : i = 1
    · subst z; exact e51
    · rw [eQ (50 + i) (by omega), p1 i hi]
      show nI (c i) = nI (if i = 1 then c i + 1 else c i)
      rw [if_neg z]
  · have hl' : l < c 0 := hl
    obtain ⟨r1, r2, r3, r4⟩ := p2 l hl'
    rw [er 106 (by decide) (by decide) (by decide), er 107 (by decide) (by decide) (by decide), er 108 (by decide) (by decide) (by decide)]
    refine ⟨r1, by rw [r2]; simp [zu], by rw [r3]; simp [zu], fun h => ?_⟩
    have h' : ¬ G 0 l = 0 := by simpa [zu] using h
    rw [r4 h']; simp [zu]
  · by_cases z : w = c 1
    · subst z; rw [e1]; simp [zu]
    · have hw' : w < c 1 := by have : w < c 1 + 1 := hw; omega
      rw [eo w hw', p3 w hw']; simp [zu, z]
  · have hj' : j < c 2 := hj
    obtain ⟨r1, r2, r3⟩ := p4 j hj'
    rw [er 110 (by decide) (by decide) (by decide), er 111 (by decide) (by decide) (by decide), er 112 (by decide) (by decide) (by decide), r1, r2, r3]; simp [zu]
  · have hk' : k < c 3 := hk
    obtain ⟨r1, r2, r3, r4⟩ := p5 k hk'
    rw [er 114 (by decide) (by decide) (by decide), er 115 (by decide) (by decide) (by decide), er 116 (by decide) (by decide) (by decide)]
    refine ⟨r1, by rw [r2]; simp [zu], by rw [r3]; simp [zu], fun i hi hlt => ?_⟩
    have hlt' : nI i < G 8 k := by simpa [zu] using hlt
    rw [r4 i hi hlt']; simp [zu]
theorem zPG_W (hg : zPG G c N) (h8 : c 1 < 8) {l : Nat} (hl : l < c 0) (hf : ∀ w, w < c 1 → G 3 w ≠ nI l) : zPG (zu G 3 (c 1) (nI l)) (cu c 1) N := by
  obtain ⟨⟨b0, b1, b2, b3⟩, p1, p2, p3, p4, p5, p6, p7, p8⟩ := hg
  have c0 : cu c 1 0 = c 0 := rfl
  have c1 : cu c 1 1 = c 1 + 1 := rfl
  have c2 : cu c 1 2 = c 2 := rfl
  have c3 : cu c 1 3 = c 3 := rfl
  unfold zPG
  rw [c0, c1, c2, c3]
  refine ⟨⟨b0, by omega, b2, b3⟩, p1, p2, p3, fun q hq => ?_, fun v hv => ?_, fun v u hv hu e => ?_, fun i hi => ?_, fun k hk => ?_⟩
  · have := p4 q hq; simpa [zu] using this
  · by_cases z : v = c 1
    · subst z; exact ⟨l, hl, by simp [zu]⟩
    · have := p5 v (by omega); simpa [zu, z] using this
  · by_cases z : v = c 1
    · by_cases y : u = c 1
      · omega
      · rw [z] at e; simp [zu, y] at e; exact absurd e.symm (hf u (by omega))
    · by_cases y : u = c 1
      · rw [y] at e; simp [zu, z] at e; exact absurd e (hf v (by omega))
      · simp [zu, z, y] at e; exact p6 v u (by omega) (by omega) e
  · obtain ⟨⟨x, x1, x2⟩, ⟨y, y1, y2⟩, z⟩ := p7 i hi
    exact ⟨⟨x, by omega, by simpa [zu] using x2⟩, ⟨y, by omega, by simpa [zu] using y2⟩, by simpa [zu] using z⟩
  · obtain ⟨z, p, q1, q2, q3, q4⟩ := p8 k hk
    refine ⟨by simpa [zu] using z, p, q1, q2, by simpa [zu] using q3, fun i hi => ?_⟩
    obtain ⟨v, v1, v2⟩ := q4 i hi
    exact ⟨v, by omega, by simpa [zu] using v2⟩
theorem zPC_J (hc : zPC Q G c N I L) {a b d : Int32} {I' : zI} (e14 : I' Q 14 = nI (c 2 + 1)) (eQ : ∀ k, k = 12 ∨ k = 13 ∨ k = 15 → I' Q k = I Q k) (e1 : I' (Q + 1 + 5) (c 2) = a) (e2 : I' (Q + 1 + 6) (c 2) = b) (e3 : I' (Q + 1 + 7) (c 2) = d) (eo : ∀ p l, 5 ≤ p → p ≤ 7 → l < c 2 → I' (Q + 1 + p) l = I (Q + 1 + p) l) (er : ∀ p, p ≤ 11 → ¬ (5 ≤ p ∧ p ≤ 7) → I' (Q + 1 + p) = I (Q + 1 + p)) :
    zPC Q (zu (zu (zu G 4 (c 2) a) 5 (c 2) b) 6 (c 2) d) (cu c 2) N I' L := by
  obtain ⟨p1, p2, p3, p4, p5⟩ := hc
  refine ⟨fun i hi => ?_, fun l hl => ?_, fun w hw => ?_, fun j hj => ?_, fun k hk => ?_⟩
  · by_cases z : i = 2
    · subst z; exact e14
    · rw [eQ (12 + i) (by omega), p1 i hi]
      show nI (c i) = nI (if i = 2 then c i + 1 else c i)
      rw [if_neg z]
  · have hl' : l < c 0 := hl
    obtain ⟨r1, r2, r3, r4⟩ := p2 l hl'
    rw [er 1 (by decide) (by decide), er 2 (by decide) (by decide), er 3 (by decide) (by decide), r1, r2, r3, r4]; simp [zu]
  · have hw' : w < c 1 := hw
    rw [er 4 (by decide) (by decide), p3 w hw']; simp [zu]
  · by_cases z : j = c 2
    · subst z; rw [e1, e2, e3]; simp [zu]
    · have hj' : j < c 2 := by have : j < c 2 + 1 := hj; omega
      obtain ⟨r1, r2, r3⟩ := p4 j hj'
      rw [eo 5 j (by decide) (by decide) hj', eo 6 j (by decide) (by decide) hj', eo 7 j (by decide) (by decide) hj', r1, r2, r3]; simp [zu, z]
  · have hk' : k < c 3 := hk
    obtain ⟨r1, r2, r3, r4⟩ := p5 k hk'
    rw [er 9 (by decide) (by decide), er 10 (by decide) (by decide), er 11 (by decide) (by decide)]
    refine ⟨r1, by rw [r2]; simp [zu], by rw [r3]; simp [zu], fun i hi hlt => ?_⟩
    have hlt' : nI i < G 8 k := by simpa [zu] using hlt
    rw [r4 i hi hlt']; simp [zu]
theorem zPM_J (hm : zPM G c N J M) {a b d : Int32} {J' : zI} (e52 : J' 97 52 = nI (c 2 + 1)) (eQ : ∀ k, k = 50 ∨ k = 51 ∨ k = 53 → J' 97 k = J 97 k) (e1 : J' 110 (16 + c 2) = a) (e2 : J' 111 (16 + c 2) = b) (e3 : J' 112 (16 + c 2) = d) (eo : ∀ p l, 110 ≤ p → p ≤ 112 → l < c 2 → J' p (16 + l) = J p (16 + l)) (er : ∀ p, 106 ≤ p → p ≤ 116 → ¬ (110 ≤ p ∧ p ≤ 112) → J' p = J p) :
    zPM (zu (zu (zu G 4 (c 2) a) 5 (c 2) b) 6 (c 2) d) (cu c 2) N J' M := by
  obtain ⟨p1, p2, p3, p4, p5⟩ := hm
  refine ⟨fun i hi => ?_, fun l hl => ?_, fun w hw => ?_, fun j hj => ?_, fun k hk => ?_⟩
  · by_cases z : i = 2
    · subst z; exact e52
    · rw [eQ (50 + i) (by omega), p1 i hi]
      show nI (c i) = nI (if i = 2 then c i + 1 else c i)
      rw [if_neg z]
  · have hl' : l < c 0 := hl
    obtain ⟨r1, r2, r3, r4⟩ := p2 l hl'
    rw [er 106 (by decide) (by decide) (by decide), er 107 (by decide) (by decide) (by decide), er 108 (by decide) (by decide) (by decide)]
    refine ⟨r1, by rw [r2]; simp [zu], by rw [r3]; simp [zu], fun h => ?_⟩
    have h' : ¬ G 0 l = 0 := by simpa [zu] using h
    rw [r4 h']; simp [zu]
  · have hw' : w < c 1 := hw
    rw [er 109 (by decide) (by decide) (by decide), p3 w hw']; simp [zu]
  · by_cases z : j = c 2
    · subst z; rw [e1, e2, e3]; simp [zu]
    · have hj' : j < c 2 := by have : j < c 2 + 1 := hj; omega
      obtain ⟨r1, r2, r3⟩ := p4 j hj'
      rw [eo 110 j (by decide) (by decide) hj', eo 111 j (by decide) (by decide) hj', eo 112 j (by decide) (by decide) hj', r1, r2, r3]; simp [zu, z]
  · have hk' : k < c 3 := hk
    obtain ⟨r1, r2, r3, r4⟩ := p5 k hk'
    rw [er 114 (by decide) (by decide) (by decide), er 115 (by decide) (by decide) (by decide), er 116 (by decide) (by decide) (by decide)]
    refine ⟨r1, by rw [r2]; simp [zu], by rw [r3]; simp [zu], fun i hi hlt => ?_⟩
    have hlt' : nI i < G 8 k := by simpa [zu] using hlt
    rw [r4 i hi hlt']; simp [zu]
theorem zPG_J (hg : zPG G c N) (h16 : c 2 < 16) {a b l : Nat} (ha : a < c 1) (hb : b < c 1) (hl : l < c 0) : zPG (zu (zu (zu G 4 (c 2) (nI a)) 5 (c 2) (nI b)) 6 (c 2) (nI l)) (cu c 2) N := by
  obtain ⟨⟨b0, b1, b2, b3⟩, p1, p2, p3, p4, p5, p6, p7, p8⟩ := hg
  have c0 : cu c 2 0 = c 0 := rfl
  have c1 : cu c 2 1 = c 1 := rfl
  have c2 : cu c 2 2 = c 2 + 1 := rfl
  have c3 : cu c 2 3 = c 3 := rfl
  unfold zPG
  rw [c0, c1, c2, c3]
  refine ⟨⟨b0, b1, by omega, b3⟩, p1, p2, p3, fun q hq => ?_, fun v hv => ?_, fun v u hv hu e => ?_, fun i hi => ?_, fun k hk => ?_⟩
  · have := p4 q hq; simpa [zu] using this
  · have := p5 v hv; simpa [zu] using this
  · simp [zu] at e; exact p6 v u hv hu e
  · by_cases z : i = c 2
    · subst z; exact ⟨⟨a, ha, by simp [zu]⟩, ⟨b, hb, by simp [zu]⟩, ⟨l, hl, by simp [zu]⟩⟩
    · have := p7 i (by omega); simpa [zu, z] using this
  · have := p8 k hk; simpa [zu] using this
theorem wrR_lt {W : Nat → Int32} {v u : Int32} (h : wrR k W v u) (hu : ¬ u = -1) : ∃ w, w < k ∧ u = nI w := by
  rcases h with ⟨-, x⟩ | ⟨-, ⟨w, w1, -, w3⟩ | ⟨-, x⟩⟩
  · exact absurd x hu
  · exact ⟨w, w1, w3⟩
  · exact absurd x hu
/-- the wire's freshness, as the reference sees it -/
theorem m_fresh (hm : zPM G c N J M) (hg : zPG G c N) {v : Int32} : ∀ r w f x, w + r = c 1 → r < f → ((x = 1 ∧ ¬ v = -1 ∧ ∀ u, u < w → G 3 u ≠ v) ∨ (x = 0 ∧ ¬ (¬ v = -1 ∧ ∀ u, u < w → G 3 u ≠ v))) → ∃ y, zlp5 f_X12_readWire_36 f v x (nI w) J M = (zb1 (f_X12_take y J) (fun I6 => zb1 (f_X12_is (59 : Int32) I6) (fun x8 => zb1 (f_X12_take x8 I6) (fun I10 => if (I10 97 49) = 0 then (f_X12_readWire_118 I10 M) else (zlt ((8 : Int32) + (I10 97 51)) (fun x11 => zck (zbd x11 16) (zlt (zu I10 109 x11.toNatClampNeg v) (fun I13 => zlt ((I13 97 51) + (1 : Int32)) (fun x14 => zlt (zu I13 97 51 x14) (fun I15 => f_X12_readWire_118 I15 M)))))))))) ∧ ((y = 1 ∧ ¬ v = -1 ∧ ∀ u, u < c 1 → G 3 u ≠ v) ∨ (y = 0 ∧ ¬ (¬ v = -1 ∧ ∀ u, u < c 1 → G 3 u ≠ v)))
  | _, _, 0, _, _, h, _ => absurd h (by omega)
  | 0, w, f + 1, x, hw, _, hx => by
    have : w = c 1 := by omega
    subst this
    refine ⟨x, ?_, hx⟩
    show f_X12_readWire_36 _ v x (nI (c 1)) J M = _
    unfold f_X12_readWire_36
    rw [hm.1 1 (by decide), if_pos (Int32.le_refl _)]
  | r + 1, w, f + 1, x, hw, hf, hx => by
    have ih := fun x => m_fresh hm hg (v := v) r (w + 1) f x (by omega) (by omega)
    have e1 : zlp5 f_X12_readWire_36 (f + 1) v x (nI w) J M = f_X12_readWire_36 (zlp5 f_X12_readWire_36 f) v x (nI w) J M := rfl
    rw [e1]
    generalize zlp5 f_X12_readWire_36 f = k1 at ih ⊢
    have h8 := hg.1.2.1
    have e2 : ∀ y, f_X12_readWire_36 k1 v y (nI w) J M = if y = 0 then k1 v 0 (nI (w + 1)) J M else (if G 3 w = v then k1 v 0 (nI (w + 1)) J M else k1 v 1 (nI (w + 1)) J M) := by
      intro y
      unfold f_X12_readWire_36 f_X12_readWire_65 f_X12_readWire_66
      rw [hm.1 1 (by decide), if_neg (nI_ge (by omega) (by omega))]
      simp only [zlt_b, nI_1]
      rw [show (8 : Int32) + nI w = nI (8 + w) from nI_add 8 w, zck_t _ (zbd_nI (by omega) (by decide)), nI_clamp (by omega), hm.2.2.1 w (by omega)]
    rw [e2]
    rcases hx with ⟨rfl, a, b⟩ | ⟨rfl, a⟩
    · rw [if_neg n10]
      by_cases z : G 3 w = v
      · rw [if_pos z]
        exact ih 0 (Or.inr ⟨rfl, fun q => q.2 w (by omega) z⟩)
      · rw [if_neg z]
        refine ih 1 (Or.inl ⟨rfl, a, fun u hu => ?_⟩)
        by_cases q : u = w
        · subst q; exact z
        · exact b u (by omega)
    · rw [if_pos rfl]
      exact ih 0 (Or.inr ⟨rfl, fun q => a ⟨q.1, fun u hu => q.2 u (by omega)⟩⟩)
theorem m_readWire (hn : n ≤ 800) (ht : Tok T n m F E) (hj : j < m) (hs : RS T n m F E j 1 J) (hm : zPM G c N J M) (hg : zPG G c N) :
    ∃ J', f_X12_readWire J M = some J' ∧ FRf J M J' M ∧ ((chS (aWi T m F E G c N j) 3 ∧ RS T n m F E (j + 3) 1 J' ∧ ∃ v, LA T m F E (c 0) (N 0) (j + 1) v ∧ zPM (zu G 3 (c 1) v) (cu c 1) N J' M) ∨ ∃ h, chF (aWi T m F E G c N j) 3 h ∧ RS T n m F E (j + h) 0 J') := by
  have hA := aWi_lt (T := T) (m := m) (F := F) (E := E) (G := G) (c := c) (N := N) hj
  have b8 := hg.1.2.1
  have e51 : J 97 51 = nI (c 1) := hm.1 1 (by decide)
  have hw : ∃ w : Int32, f_X12_readWire J M = f_X12_readWire_15 w J M ∧ ((aWi T m F E G c N j 0 ∧ ¬ w = 0) ∨ (¬ aWi T m F E G c N j 0 ∧ w = 0)) := by
    unfold f_X12_readWire
    rw [e51]
    by_cases z : c 1 < 8
    · rw [if_neg (show ¬ (8 : Int32) ≤ nI (c 1) from nI_ge (b := 8) z (by decide))]
      exact ⟨1, rfl, Or.inl ⟨z, n10⟩⟩
    · rw [if_pos (show (8 : Int32) ≤ nI (c 1) from nI_le (a := 8) (by omega) (by omega))]
      exact ⟨0, rfl, Or.inr ⟨z, rfl⟩⟩
  obtain ⟨w, w1, w2⟩ := hw
  obtain ⟨J1, g1, g2, st1⟩ := m_tkST (A := aWi T m F E G c N j) hn ht hA (by omega) (i := 0) (x := w) (fun _ _ => w2) (ST_0 hs)
  rw [w1]
  unfold f_X12_readWire_15 f_X12_readWire_33
  rw [g1]
  simp only [zb1, Option.bind_some]
  obtain ⟨j0, r, hr, hj0, hs1, h1, h0⟩ := ST_ex hA (by omega) st1
  obtain ⟨v, v1, v2⟩ := m_lah hn ht hj0 hs1.1 (hm.cf g2) hg
  rw [v1]
  simp only [Option.bind_some]
  have hv : chS (aWi T m F E G c N j) 1 → LA T m F E (c 0) (N 0) (j + 1) v := fun a => by
    rcases hr with rfl | rfl
    · obtain ⟨h, q, -⟩ := h0 rfl; exact absurd (a h q.1) q.2.2
    · rw [← (h1 rfl).1]; exact v2
  have fr : ∃ y : Int32, (if v = (-1 : Int32) then (zlp5 (f_X12_readWire_36) zF v (0 : Int32) (0 : Int32) J1 M) else (zlp5 (f_X12_readWire_36) zF v (1 : Int32) (0 : Int32) J1 M)) = (zb1 (f_X12_take y J1) (fun I6 => zb1 (f_X12_is (59 : Int32) I6) (fun x8 => zb1 (f_X12_take x8 I6) (fun I10 => if (I10 97 49) = 0 then (f_X12_readWire_118 I10 M) else (zlt ((8 : Int32) + (I10 97 51)) (fun x11 => zck (zbd x11 16) (zlt (zu I10 109 x11.toNatClampNeg v) (fun I13 => zlt ((I13 97 51) + (1 : Int32)) (fun x14 => zlt (zu I13 97 51 x14) (fun I15 => f_X12_readWire_118 I15 M)))))))))) ∧ ((y = 1 ∧ ¬ v = -1 ∧ ∀ u, u < c 1 → G 3 u ≠ v) ∨ (y = 0 ∧ ¬ (¬ v = -1 ∧ ∀ u, u < c 1 → G 3 u ≠ v))) := by
    by_cases z : v = -1
    · rw [if_pos z]
      exact m_fresh (hm.cf g2) hg (c 1) 0 zF 0 (by omega) (zF_lt (by omega)) (Or.inr ⟨rfl, fun q => q.1 z⟩)
    · rw [if_neg z]
      exact m_fresh (hm.cf g2) hg (c 1) 0 zF 1 (by omega) (zF_lt (by omega)) (Or.inl ⟨rfl, z, fun u hu => absurd hu (by omega)⟩)
  obtain ⟨y, y1, y2⟩ := fr
  simp only [zb1] at y1
  rw [y1]
  obtain ⟨J2, k1, k2, st2⟩ := m_tkST hn ht hA (by omega) (i := 1) (x := y) (fun a b => by
    have q := hv a
    rcases y2 with ⟨z1, z2, z3⟩ | ⟨z1, z2⟩
    · exact Or.inl ⟨⟨v, q, z2, z3⟩, by rw [z1]; exact n10⟩
    · exact Or.inr ⟨fun ⟨u, u1, u2, u3⟩ => z2 (by rw [LA_u hg.2.2.1 q u1]; exact ⟨u2, u3⟩), z1⟩) st1
  rw [k1]
  simp only [Option.bind_some]
  obtain ⟨t, J3, t1, t2, t3, st3⟩ := m_sgST hn ht hA (by omega) (i := 2) (ch := 59) (by decide) (by decide) (Iff.rfl) st2
  have t1' : f_X12_is 59 J2 = some t := t1
  rw [t1']
  simp only [Option.bind_some]
  rw [t2]
  simp only [Option.bind_some]
  unfold f_X12_readWire_118
  have cf : CF J J3 := (g2.trans k2).trans t3
  rcases zST_49 st3 with ⟨s1, s2, s3⟩ | ⟨s1, s2⟩
  · rw [if_neg s3]
    have e51' : J3 97 51 = nI (c 1) := by rw [cf.2 51 (by omega)]; exact e51
    have h8 : c 1 < 8 := s1 0 (by omega)
    have hb : zbd (nI (8 + c 1)) 16 = true := zbd_nI (by omega) (by decide)
    have hcl : (nI (8 + c 1)).toNatClampNeg = 8 + c 1 := nI_clamp (by omega)
    have q1 : ∀ a, zu J3 109 (8 + c 1) a 97 51 = nI (c 1) := fun a => by rw [zu_p _ _ (by decide)]; exact e51'
    simp only [zlt_b, e51', show (8 : Int32) + nI (c 1) = nI (8 + c 1) from nI_add 8 _, zck_t _ hb, hcl, q1, nI_1]
    refine ⟨_, rfl, ?_, Or.inl ⟨s1, ?_, v, hv (fun i hi => s1 i (by omega)), ?_⟩⟩
    · refine ⟨fun p a b => ?_, fun q a => ?_, fun p a b => rfl, fun p l a b d => ?_⟩
      · rw [zu_pf _ _ a, zu_pf _ _ (by omega), cf.1 p a]
      · rw [zu_k _ _ (by omega), zu_p _ _ (by decide), cf.2 q (by omega)]
      · rw [zu_p _ _ (by omega), ← cf.1 p (by omega)]
        by_cases z : p = 109
        · subst z
          have : l < 8 := d
          rw [zu_k _ _ (by omega)]
        · rw [zu_p _ _ z]
    · refine s2.wr (fun k hk => ?_) ?_
      · rw [zu_k _ _ (by omega), zu_p _ _ (by decide)]
      · rw [zu_pf _ _ (by decide), zu_pf _ _ (by decide)]
    · refine zPM_W (J := J) hm (zu_eq _ _ _ _) (fun k hk => ?_) ?_ (fun l hl => ?_) (fun p a b d => ?_)
      · rw [zu_k _ _ (by omega), zu_p _ _ (by decide), cf.2 k (by omega)]
      · rw [zu_p _ _ (by decide), zu_eq]
      · rw [zu_p _ _ (by decide), zu_k _ _ (by omega), cf.1 109 (by decide)]
      · rw [zu_pf _ _ (by omega), zu_pf _ _ d, cf.1 p (by omega)]
  · rw [if_pos s2]
    exact ⟨_, rfl, cf.rf M, Or.inr s1⟩
theorem c_wireS (hq : zpl Q) (hn : n ≤ 800) (ht : Tok T n m F E) (hT : ∀ k, k < n → T k < 127) (hj : j < m) (hs : CS Q T m F E j I L) (hc : zPC Q G c N I L) (hg : zPG G c N) (h8 : c 1 < 8) :
    (chS (aWi T m F E G c N j) 3 → ∃ v, LA T m F E (c 0) (N 0) (j + 1) v ∧ ∃ I', f_X8_takeWireSentence Q I L = some (1, I') ∧ FCl Q I L I' L ∧ CS Q T m F E (j + 3) I' L ∧ zPC Q (zu G 3 (c 1) v) (cu c 1) N I' L) ∧
    (∀ h, chF (aWi T m F E G c N j) 3 h → ∃ I', f_X8_takeWireSentence Q I L = some (0, I') ∧ FCl Q I L I' L ∧ I' 3 4 = nI (j + h)) := by
  have s1 : CS Q T m F E (j + 1) (zu I 3 4 (nI (j + 1))) L := hs.up hj
  have p1 : zPC Q G c N (zu I 3 4 (nI (j + 1))) L := hc.up hq
  have f1 : FCl Q I L (zu I 3 4 (nI (j + 1))) L := FCl.at hq _
  unfold f_X8_takeWireSentence f_X8_takeWireSentence_32
  rw [zlt_b, zlt_b, hs.2.2.1, nI_1]
  generalize zu I 3 4 (nI (j + 1)) = I1 at s1 p1 f1 ⊢
  obtain ⟨v, v1, v2⟩ := c_lah ht s1 p1 hg
  rw [v1]
  simp only [zb1, Option.bind_some]
  have bad1 : ¬ wnOk T m F E (c 0) (N 0) (c 1) (G 3) (j + 1) → ∀ h, chF (aWi T m F E G c N j) 3 h → h = 1 := fun z h hh => chF_u hh (l := 3) (h := 1) ⟨by omega, fun i hi => by match i, hi with | 0, _ => exact h8, z⟩
  by_cases a0 : v = -1
  · rw [if_pos a0]
    have a1 : ¬ wnOk T m F E (c 0) (N 0) (c 1) (G 3) (j + 1) := fun ⟨u, u1, u2, _⟩ => u2 (by rw [LA_u hg.2.2.1 u1 v2]; exact a0)
    exact ⟨fun z => absurd (z 1 (by omega)) a1, fun h hh => ⟨I1, rfl, f1, by rw [bad1 a1 h hh]; exact s1.2.2.1⟩⟩
  · rw [if_neg a0, zck_t _ (decide_eq_true s1.2.2.2.1)]
    obtain ⟨u, u1, u2⟩ := c_wireOf p1 hg a0 (c 1) 0 zF (by omega) (zF_lt (by have := hg.1.2.1; omega)) (fun k hk => absurd hk (by omega))
    have e : f_X7_wireOf Q v I1 = some u := u1
    rw [e]
    simp only [Option.bind_some]
    rcases u2 with ⟨x, -⟩ | ⟨-, ⟨w, w1, w2, w3⟩ | ⟨w1, w2⟩⟩
    · exact absurd x a0
    · rw [if_neg (by rw [w3]; exact nI_m1 (by omega))]
      have a1 : ¬ wnOk T m F E (c 0) (N 0) (c 1) (G 3) (j + 1) := fun ⟨y, y1, y2, y3⟩ => y3 w w1 (by rw [LA_u hg.2.2.1 y1 v2]; exact w2)
      exact ⟨fun z => absurd (z 1 (by omega)) a1, fun h hh => ⟨I1, rfl, f1, by rw [bad1 a1 h hh]; exact s1.2.2.1⟩⟩
    · rw [if_pos w2]
      have a1 : wnOk T m F E (c 0) (N 0) (c 1) (G 3) (j + 1) := ⟨v, v2, a0, w1⟩
      have s2 : CS Q T m F E (j + 2) (zu I1 3 4 (nI (j + 2))) L := s1.up (LA_lt v2 a0).1
      have p2 : zPC Q G c N (zu I1 3 4 (nI (j + 2))) L := p1.up hq
      have f2 : FCl Q I L (zu I1 3 4 (nI (j + 2))) L := f1.trans (FCl.at hq _)
      rw [zlt_b, zlt_b, s1.2.2.1, nI_1]
      rw [show j + 1 + 1 = j + 2 from rfl]
      generalize zu I1 3 4 (nI (j + 2)) = I2 at s2 p2 f2 ⊢
      have sn := c_sign hn ht hT s2 (ch := 59) (by decide)
      by_cases a2 : sg T m F E (j + 2) 59
      · have s3 : CS Q T m F E (j + 3) (zu I2 3 4 (nI (j + 3))) L := s2.up (sg_lt a2)
        have p3 : zPC Q G c N (zu I2 3 4 (nI (j + 3))) L := p2.up hq
        have f3 : FCl Q I L (zu I2 3 4 (nI (j + 3))) L := f2.trans (FCl.at hq _)
        have sn' : f_X8_takeSign 59 I2 L = some (1, zu I2 3 4 (nI (j + 3))) := sn.1 a2
        rw [sn']
        simp only [zb2, Option.bind_some]
        generalize zu I2 3 4 (nI (j + 3)) = I3 at s3 p3 f3 ⊢
        rw [if_neg n10, zck_t _ (decide_eq_true s3.2.2.2.1)]
        have h13 : I3 Q 13 = nI (c 1) := p3.1 1 (by decide)
        have hb : zbd (nI (c 1)) 8 = true := zbd_nI h8 (by decide)
        have hcl : (nI (c 1)).toNatClampNeg = c 1 := nI_clamp (by omega)
        have q1 : ∀ a, zu I3 (Q + 1 + 4) (c 1) a Q 13 = nI (c 1) := fun a => by rw [zu_p _ _ (by omega)]; exact h13
        have hQ3 : 3 ≠ Q ∧ ∀ k, 3 ≠ Q + 1 + k := by rcases hq with rfl | rfl <;> exact ⟨by omega, fun k => by omega⟩
        have ad : f_X7_addWire Q v I3 = some (zu (zu I3 (Q + 1 + 4) (c 1) v) Q 13 (nI (c 1 + 1))) := by
          unfold f_X7_addWire
          rw [h13, zck_t _ hb]
          simp only [zlt_b, hcl, q1, nI_1]
        rw [ad]
        have x2 : FCl Q I3 L (zu (zu I3 (Q + 1 + 4) (c 1) v) Q 13 (nI (c 1 + 1))) L := ⟨fun p a b => by rw [zu_pf _ _ (by omega), zu_pf _ _ (by omega)], fun k a => by rw [zu_p _ _ hQ3.1, zu_p _ _ (hQ3.2 4)], fun _ _ _ => rfl⟩
        refine ⟨fun _ => ⟨v, v2, _, rfl, f3.trans x2, s3.fc hq x2 s3.1 (by rw [zu_p _ _ hQ3.1, zu_p _ _ (hQ3.2 4)]; exact s3.2.2.1), zPC_W p3 (zu_eq _ _ _ _) (fun k hk => ?_) ?_ (fun l hl => ?_) (fun p a b => ?_)⟩, fun h hh => ?_⟩
        · rw [zu_k _ _ (by omega), zu_p _ _ (by omega)]
        · rw [zu_p _ _ (by omega), zu_eq]
        · rw [zu_p _ _ (by omega), zu_k _ _ (by omega)]
        · rw [zu_pf _ _ (by omega), zu_pf _ _ (by omega)]
        · exfalso
          have : aWi T m F E G c N j h := by
            match h, hh.1 with
            | 0, _ => exact h8
            | 1, _ => exact a1
            | 2, _ => exact a2
          exact hh.2.2 this
      · have sn' : f_X8_takeSign 59 I2 L = some (0, I2) := sn.2 a2
        rw [sn']
        simp only [zb2, Option.bind_some, if_true]
        refine ⟨fun z => absurd (z 2 (by omega)) a2, fun h hh => ⟨I2, rfl, f2, ?_⟩⟩
        have : h = 2 := chF_u hh (l := 3) (h := 2) ⟨by omega, fun i hi => by match i, hi with | 0, _ => exact h8 | 1, _ => exact a1, a2⟩
        rw [this]; exact s2.2.2.1
end Wi
