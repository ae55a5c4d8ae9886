/-! the device sentence -/
def aDe (T : Nat → Nat) (m : Nat) (F E : Nat → Nat) (c : Nat → Nat) (N : Nat → Nat → List Nat) (j : Nat) : Nat → Prop
  | 0 => c 3 < 8
  | 1 => nwL T m F E (c 3) (N 1) (j + 1)
  | 2 => sg T m F E (j + 2) 61
  | 3 => lyOk T m F E (c 0) (N 0) (j + 3)
  | i + 4 => wd T m F E (j + 4 + i) 9
/-- p pins from word j on -/
def pinsR (T : Nat → Nat) (m : Nat) (F E : Nat → Nat) (G : zI) (c : Nat → Nat) (N : Nat → Nat → List Nat) (j p : Nat) : Prop := p ≤ 4 ∧ (∀ i, i < p → wrOk T m F E (c 0) (N 0) (c 1) (G 3) (j + i)) ∧ (p = 4 ∨ ¬ wrOk T m F E (c 0) (N 0) (c 1) (G 3) (j + p))
def gK (G : zI) (k : Nat) (v : Int32) (p : Nat) (U : Nat → Int32) : zI := fun b l => if b = 9 ∧ 4 * k ≤ l ∧ l < 4 * k + 4 then U (l - 4 * k) else zu (zu G 7 k v) 8 k (nI p) b l
section De
variable {Q : Nat} {G : zI} {c : Nat → Nat} {N : Nat → Nat → List Nat} {I J : zI} {L M : zL} {T : Nat → Nat} {n m : Nat} {F E : Nat → Nat} {j r k : Nat}
theorem pinsR_u {p q : Nat} (h1 : pinsR T m F E G c N j p) (h2 : pinsR T m F E G c N j q) : p = q := by
  rcases Nat.lt_trichotomy p q with z | z | z
  · rcases h1.2.2 with y | y
    · have := h2.1; omega
    · exact absurd (h2.2.1 p z) y
  · exact z
  · rcases h2.2.2 with y | y
    · have := h1.1; omega
    · exact absurd (h1.2.1 q z) y
theorem aDe_lt (hj : j < m) : ∀ i, aDe T m F E c N j i → j + i < m
  | 0, _ => hj
  | 1, h => nwL_lt h
  | 2, h => sg_lt h
  | 3, h => lyOk_lt h
  | i + 4, h => by have := wd_lt h; omega
theorem sg_wr {ch : Nat} {W : Nat → List Nat} {V : Nat → Int32} (h : sg T m F E j ch) : ¬ wrOk T m F E n W k V j := by
  rintro ⟨v, u, a1, a2, a3⟩
  rcases a2 with ⟨-, x⟩ | ⟨x, -⟩
  · exact a3 x
  · rcases a1 with ⟨y, -⟩ | ⟨-, y⟩
    · rw [h.1] at y; exact absurd y (by decide)
    · exact x y
theorem gK_o {v : Int32} {p : Nat} {U : Nat → Int32} {b l : Nat} (h : ¬ b = 9) : gK G k v p U b l = zu (zu G 7 k v) 8 k (nI p) b l := if_neg (fun z => h z.1)
theorem gK_9 {v : Int32} {p : Nat} {U : Nat → Int32} {a i : Nat} (h : a < k) (hi : i < 4) : gK G k v p U 9 (4 * a + i) = G 9 (4 * a + i) := by
  unfold gK; rw [if_neg (by omega)]; simp [zu]
theorem gK_n {v : Int32} {p : Nat} {U : Nat → Int32} {i : Nat} (hi : i < 4) : gK G k v p U 9 (4 * k + i) = U i := by
  unfold gK; rw [if_pos ⟨rfl, by omega, by omega⟩]; congr 1; omega
theorem zPC_K (hc : zPC Q G c N I L) {g : List Nat} {v : Int32} {p : Nat} {U : Nat → Int32} {I' : zI} {L' : zL} (hp : p ≤ 4) (eL : L' (Q + 1 + 8) (c 3) = z5c g) (eL2 : ∀ l, l < c 3 → L' (Q + 1 + 8) l = L (Q + 1 + 8) l) (eL3 : L' (Q + 1 + 0) = L (Q + 1 + 0)) (e15 : I' Q 15 = nI (c 3 + 1)) (eQ : ∀ k, 12 ≤ k → k ≤ 14 → I' Q k = I Q k) (e1 : I' (Q + 1 + 9) (c 3) = v) (e2 : I' (Q + 1 + 10) (c 3) = nI p) (eo : ∀ p l, p = 9 ∨ p = 10 → l < c 3 → I' (Q + 1 + p) l = I (Q + 1 + p) l) (e3 : ∀ i, i < p → I' (Q + 1 + 11) (4 * c 3 + i) = U i) (e4 : ∀ l, l < 4 * c 3 → I' (Q + 1 + 11) l = I (Q + 1 + 11) l) (er : ∀ p, p ≤ 8 → I' (Q + 1 + p) = I (Q + 1 + p)) :
    zPC Q (gK G (c 3) v p U) (cu c 3) (nu N 1 (c 3) g) I' L' := by
  obtain ⟨p1, p2, p3, p4, p5⟩ := hc
  refine ⟨fun i hi => ?_, fun l hl => ?_, fun w hw => ?_, fun j hj => ?_, fun k hk => ?_⟩
  · by_cases z : i = 3
    · subst z; exact e15
    · rw [eQ (12 + i) (by omega) (by omega), p1 i hi]
      show nI (c i) = nI (if i = 3 then c i + 1 else c i)
      rw [if_neg z]
  · have hl' : l < c 0 := hl
    obtain ⟨r1, r2, r3, r4⟩ := p2 l hl'
    rw [er 1 (by decide), er 2 (by decide), er 3 (by decide), eL3, r1, r2, r3, r4, gK_o (by decide), gK_o (by decide), gK_o (by decide)]; simp [zu, nu]
  · have hw' : w < c 1 := hw
    rw [er 4 (by decide), p3 w hw', gK_o (by decide)]; simp [zu]
  · have hj' : j < c 2 := hj
    obtain ⟨r1, r2, r3⟩ := p4 j hj'
    rw [er 5 (by decide), er 6 (by decide), er 7 (by decide), r1, r2, r3, gK_o (by decide), gK_o (by decide), gK_o (by decide)]; simp [zu]
  · by_cases z : k = c 3
    · subst z
      rw [gK_o (by decide), gK_o (by decide)]
      refine ⟨by rw [eL]; simp [nu], by rw [e1]; simp [zu], by rw [e2]; simp [zu], fun i hi hlt => ?_⟩
      have hip : i < p := by
        have : nI i < nI p := by simpa [zu] using hlt
        exact (nI_ltI (by omega) (by omega)).mp this
      rw [e3 i hip, gK_n hi]
    · have hk' : k < c 3 := by have : k < c 3 + 1 := hk; omega
      obtain ⟨r1, r2, r3, r4⟩ := p5 k hk'
      rw [gK_o (by decide), gK_o (by decide), eo 9 k (by simp) hk', eo 10 k (by simp) hk', eL2 k hk']
      refine ⟨by rw [r1]; simp [nu, z], by rw [r2]; simp [zu, z], by rw [r3]; simp [zu, z], fun i hi hlt => ?_⟩
      have hlt' : nI i < G 8 k := by simpa [zu, z] using hlt
      rw [e4 _ (by omega), r4 i hi hlt', gK_9 hk' hi]
theorem zPM_K (hm : zPM G c N J M) {g : List Nat} {v : Int32} {p : Nat} {U : Nat → Int32} {J' : zI} {M' : zL} (hp : p ≤ 4) (eL : M' 113 (8 + c 3) = z27 g) (eL2 : ∀ l, l < c 3 → M' 113 (8 + l) = M 113 (8 + l)) (eL3 : M' 105 = M 105) (e53 : J' 97 53 = nI (c 3 + 1)) (eQ : ∀ k, 50 ≤ k → k ≤ 52 → J' 97 k = J 97 k) (e1 : J' 114 (8 + c 3) = v) (e2 : J' 115 (8 + c 3) = nI p) (eo : ∀ p l, p = 114 ∨ p = 115 → l < c 3 → J' p (8 + l) = J p (8 + l)) (e3 : ∀ i, i < p → J' 116 (4 * (8 + c 3) + i) = U i) (e4 : ∀ l, l < 4 * (8 + c 3) → J' 116 l = J 116 l) (er : ∀ p, 106 ≤ p → p ≤ 112 → J' p = J p) :
    zPM (gK G (c 3) v p U) (cu c 3) (nu N 1 (c 3) g) J' M' := by
  obtain ⟨p1, p2, p3, p4, p5⟩ := hm
  refine ⟨fun i hi => ?_, fun l hl => ?_, fun w hw => ?_, fun j hj => ?_, fun k hk => ?_⟩
  · by_cases z : i = 3
    · subst z; exact e53
    · rw [eQ (50 + i) (by omega) (by omega), p1 i hi]
      show nI (c i) = nI (if i = 3 then c i + 1 else c i)
      rw [if_neg z]
  · have hl' : l < c 0 := hl
    obtain ⟨r1, r2, r3, r4⟩ := p2 l hl'
    rw [er 106 (by decide) (by decide), er 107 (by decide) (by decide), er 108 (by decide) (by decide), eL3, gK_o (by decide), gK_o (by decide), gK_o (by decide)]
    refine ⟨by rw [r1]; simp [nu], by rw [r2]; simp [zu], by rw [r3]; simp [zu], fun h => ?_⟩
    have h' : ¬ G 0 l = 0 := by simpa [zu] using h
    rw [r4 h']; simp [zu]
  · have hw' : w < c 1 := hw
    rw [er 109 (by decide) (by decide), p3 w hw', gK_o (by decide)]; simp [zu]
  · have hj' : j < c 2 := hj
    obtain ⟨r1, r2, r3⟩ := p4 j hj'
    rw [er 110 (by decide) (by decide), er 111 (by decide) (by decide), er 112 (by decide) (by decide), r1, r2, r3, gK_o (by decide), gK_o (by decide), gK_o (by decide)]; simp [zu]
  · by_cases z : k = c 3
    · subst z
      rw [gK_o (by decide), gK_o (by decide)]
      refine ⟨by rw [eL]; simp [nu], by rw [e1]; simp [zu], by rw [e2]; simp [zu], fun i hi hlt => ?_⟩
      have hip : i < p := by
        have : nI i < nI p := by simpa [zu] using hlt
        exact (nI_ltI (by omega) (by omega)).mp this
      rw [e3 i hip, gK_n hi]
    · have hk' : k < c 3 := by have : k < c 3 + 1 := hk; omega
      obtain ⟨r1, r2, r3, r4⟩ := p5 k hk'
      rw [gK_o (by decide), gK_o (by decide), eo 114 k (by simp) hk', eo 115 k (by simp) hk', eL2 k hk']
      refine ⟨by rw [r1]; simp [nu, z], by rw [r2]; simp [zu, z], by rw [r3]; simp [zu, z], fun i hi hlt => ?_⟩
      have hlt' : nI i < G 8 k := by simpa [zu, z] using hlt
      rw [e4 _ (by omega), r4 i hi hlt', gK_9 hk' hi]
theorem zPG_K (hg : zPG G c N) (h8 : c 3 < 8) {g : List Nat} (gg : gNm g) {l p : Nat} {U : Nat → Int32} (hl : l < c 0) (hp1 : 1 ≤ p) (hp : p ≤ 4) (hU : ∀ i, i < p → ∃ w, w < c 1 ∧ U i = nI w) : zPG (gK G (c 3) (nI l) p U) (cu c 3) (nu N 1 (c 3) g) := by
  obtain ⟨⟨b0, b1, b2, b3⟩, p1, p2, p3, p4, p5, p6, p7, p8⟩ := hg
  have c0 : cu c 3 0 = c 0 := rfl
  have c1 : cu c 3 1 = c 1 := rfl
  have c2 : cu c 3 2 = c 2 := rfl
  have c3 : cu c 3 3 = c 3 + 1 := rfl
  have g0 : ∀ b l, ¬ b = 9 → ¬ b = 7 → ¬ b = 8 → gK G (c 3) (nI (l)) p U b = G b := fun b l h1 h2 h3 => by funext q; rw [gK_o h1]; simp [zu, h2, h3]
  unfold zPG
  rw [c0, c1, c2, c3, g0 0 l (by decide) (by decide) (by decide), g0 1 l (by decide) (by decide) (by decide), g0 2 l (by decide) (by decide) (by decide), g0 3 l (by decide) (by decide) (by decide), g0 4 l (by decide) (by decide) (by decide), g0 5 l (by decide) (by decide) (by decide), g0 6 l (by decide) (by decide) (by decide)]
  have n0 : nu N 1 (c 3) g 0 = N 0 := by funext q; simp [nu]
  rw [n0]
  refine ⟨⟨b0, b1, b2, by omega⟩, p1, p2, fun k hk => ?_, p4, p5, p6, p7, fun k hk => ?_⟩
  · by_cases z : k = c 3
    · subst z; simp [nu]; exact gg
    · simp [nu, z]; exact p3 k (by omega)
  · by_cases z : k = c 3
    · subst z
      refine ⟨⟨l, hl, by rw [gK_o (by decide)]; simp [zu]⟩, p, hp1, hp, by rw [gK_o (by decide)]; simp [zu], fun i hi => ?_⟩
      obtain ⟨w, w1, w2⟩ := hU i hi
      exact ⟨w, w1, by rw [gK_n (by omega)]; exact w2⟩
    · obtain ⟨⟨x, x1, x2⟩, q, q1, q2, q3, q4⟩ := p8 k (by omega)
      refine ⟨⟨x, x1, by rw [gK_o (by decide)]; simpa [zu, z] using x2⟩, q, q1, q2, by rw [gK_o (by decide)]; simpa [zu, z] using q3, fun i hi => ?_⟩
      obtain ⟨w, w1, w2⟩ := q4 i hi
      exact ⟨w, w1, by rw [gK_9 (by omega) (by omega)]; exact w2⟩
/-- the class takes pins -/
theorem c_pins (hq : zpl Q) (ht : Tok T n m F E) (hg : zPG G c N) (h8 : c 3 < 8) {I0 : zI} : ∀ r q I f, q + r = 4 → r < f → CS Q T m F E (j + q) I L → zPC Q G c N I L → FCl Q I0 L I L → (∀ i, i < q → wrOk T m F E (c 0) (N 0) (c 1) (G 3) (j + i)) → (∀ i, i < q → WA T m F E G c N (j + i) (I (Q + 1 + 11) (4 * c 3 + i))) → (∀ l, l < 4 * c 3 → I (Q + 1 + 11) l = I0 (Q + 1 + 11) l) → (∀ p, p ≤ 10 → I (Q + 1 + p) = I0 (Q + 1 + p)) → (∀ k, I Q k = I0 Q k) →
    ∃ p I', zlp3 (f_X8_takePins_2 Q) f (nI q) I L = some (nI p, I') ∧ pinsR T m F E G c N j p ∧ CS Q T m F E (j + p) I' L ∧ zPC Q G c N I' L ∧ FCl Q I0 L I' L ∧ (∀ i, i < p → WA T m F E G c N (j + i) (I' (Q + 1 + 11) (4 * c 3 + i))) ∧ (∀ l, l < 4 * c 3 → I' (Q + 1 + 11) l = I0 (Q + 1 + 11) l) ∧ (∀ p, p ≤ 10 → I' (Q + 1 + p) = I0 (Q + 1 + p)) ∧ (∀ k, I' Q k = I0 Q k)
  | _, _, _, 0, _, h, _, _, _, _, _, _, _, _ => absurd h (by omega)
  | 0, q, I, f + 1, hq4, _, hs, hc, hf, hw, hu, hl, hp, hQ => by
    have : q = 4 := by omega
    subst this
    refine ⟨4, I, ?_, ⟨Nat.le_refl _, hw, Or.inl rfl⟩, hs, hc, hf, hu, hl, hp, hQ⟩
    show f_X8_takePins_2 Q _ (nI 4) I L = _
    unfold f_X8_takePins_2
    rw [if_pos (by decide)]
    rfl
  | r + 1, q, I, f + 1, hq4, hf', hs, hc, hf, hw, hu, hl, hp, hQ => by
    have ih := fun I => c_pins hq ht hg h8 (I0 := I0) r (q + 1) I f (by omega) (by omega)
    have e1 : zlp3 (f_X8_takePins_2 Q) (f + 1) (nI q) I L = f_X8_takePins_2 Q (zlp3 (f_X8_takePins_2 Q) f) (nI q) I L := rfl
    rw [e1]
    generalize zlp3 (f_X8_takePins_2 Q) f = k1 at ih ⊢
    unfold f_X8_takePins_2
    rw [if_neg (show ¬ (4 : Int32) ≤ nI q from nI_ge (b := 4) (by omega) (by decide))]
    obtain ⟨u, u1, u2, u3⟩ := c_wr hq ht hs hc hg
    by_cases z : u = -1
    · rw [u2 z]
      simp only [zb2, Option.bind_some]
      rw [if_pos z]
      exact ⟨q, I, rfl, ⟨by omega, hw, Or.inr (WA_no hg u1 z)⟩, hs, hc, hf, hu, hl, hp, hQ⟩
    · obtain ⟨v1, v2, v3, v4⟩ := u3 z
      rw [v1]
      simp only [zb2, Option.bind_some]
      rw [if_neg z]
      have hQ3 : Q ≠ 3 ∧ ∀ k, Q + 1 + k ≠ 3 := by rcases hq with rfl | rfl <;> exact ⟨by omega, fun k => by omega⟩
      have e3 : zu I 3 4 (nI (j + q + 1)) (Q + 1 + 11) = I (Q + 1 + 11) := zu_pf _ _ (hQ3.2 11)
      have h15 : zu I 3 4 (nI (j + q + 1)) Q 15 = nI (c 3) := v3.1 3 (by decide)
      have g33 := v2.2.2.2.1
      rw [zck_t _ (decide_eq_true g33), zck_t _ (decide_eq_true g33)]
      simp only [zlt_b]
      rw [h15, show nI (c 3) * 4 + nI q = nI (4 * c 3 + q) from by rw [show (4 : Int32) = nI 4 from rfl, pk_mul, nI_add, Nat.mul_comm], zck_t _ (zbd_nI (by omega) (by decide)), nI_clamp (by omega), nI_1]
      generalize hI1 : zu I 3 4 (nI (j + q + 1)) = I1 at *
      have pr : ∀ p l, zu I1 (Q + 1 + 11) (4 * c 3 + q) u p l = if p = Q + 1 + 11 ∧ l = 4 * c 3 + q then u else I1 p l := fun p l => rfl
      have fc : FCl Q I1 L (zu I1 (Q + 1 + 11) (4 * c 3 + q) u) L := ⟨fun p a b => zu_pf _ _ (by omega), fun k a => zu_p _ _ (fun y => hQ3.2 11 y.symm) _, fun _ _ _ => rfl⟩
      refine ih (zu I1 (Q + 1 + 11) (4 * c 3 + q) u) ?_ ?_ ?_ ?_ ?_ ?_ ?_ ?_
      · exact v2.fc hq fc v2.1 (by rw [zu_p _ _ (fun y => hQ3.2 11 y.symm)]; exact v2.2.2.1)
      · obtain ⟨p1, p2, p3, p4, p5⟩ := v3
        have o : ∀ p, p ≤ 10 → zu I1 (Q + 1 + 11) (4 * c 3 + q) u (Q + 1 + p) = I1 (Q + 1 + p) := fun p hp => zu_pf _ _ (by omega)
        refine ⟨fun i hi => by rw [zu_p _ _ (by omega)]; exact p1 i hi, by rw [o 1 (by decide), o 2 (by decide), o 3 (by decide)]; exact p2, by rw [o 4 (by decide)]; exact p3, by rw [o 5 (by decide), o 6 (by decide), o 7 (by decide)]; exact p4, fun k hk => ?_⟩
        obtain ⟨r1, r2, r3, r4⟩ := p5 k hk
        refine ⟨r1, by rw [o 9 (by decide)]; exact r2, by rw [o 10 (by decide)]; exact r3, fun i hi hlt => ?_⟩
        rw [zu_k _ _ (by omega)]; exact r4 i hi hlt
      · exact (hf.trans v4).trans fc
      · intro i hi
        by_cases y : i = q
        · subst y; exact WA_ok u1 z
        · exact hw i (by omega)
      · intro i hi
        by_cases y : i = q
        · subst y; rw [zu_eq]; exact u1
        · rw [zu_k _ _ (by omega), e3]; exact hu i (by omega)
      · intro l hl2; rw [zu_k _ _ (by omega), e3]; exact hl l hl2
      · intro p hp2
        rw [zu_pf _ _ (by omega), ← hI1, zu_pf _ _ (hQ3.2 p)]; exact hp p hp2
      · intro k; rw [zu_p _ _ (by omega), ← hI1, zu_p _ _ hQ3.1]; exact hQ k
theorem c_devS (hq : zpl Q) (hn : n ≤ 800) (ht : Tok T n m F E) (hT : ∀ k, k < n → T k < 127) (hj : j < m) (hs : CS Q T m F E j I L) (hc : zPC Q G c N I L) (hg : zPG G c N) (h8 : c 3 < 8) :
    (∃ (p : Nat) (v : Int32) (U : Nat → Int32), chS (aDe T m F E c N j) 5 ∧ pinsR T m F E G c N (j + 5) p ∧ 1 ≤ p ∧ sg T m F E (j + 5 + p) 59 ∧ LA T m F E (c 0) (N 0) (j + 3) v ∧ (∀ i, i < p → WA T m F E G c N (j + 5 + i) (U i)) ∧ ∃ I' L', f_X8_takeDeviceSentence Q I L = some (1, I', L') ∧ FCl Q I L I' L' ∧ CS Q T m F E (j + 6 + p) I' L' ∧ zPC Q (gK G (c 3) v p U) (cu c 3) (nu N 1 (c 3) (wG T F E (j + 1))) I' L') ∨
    (∃ h I', ((chF (aDe T m F E c N j) 5 h) ∨ (chS (aDe T m F E c N j) 5 ∧ ∃ p, h = 5 + p ∧ pinsR T m F E G c N (j + 5) p ∧ (p = 0 ∨ ¬ sg T m F E (j + 5 + p) 59))) ∧ f_X8_takeDeviceSentence Q I L = some (0, I', L) ∧ FCl Q I L I' L ∧ I' 3 4 = nI (j + h)) := by
  have s1 : CS Q T m F E (j + 1) (zu I 3 4 (nI (j + 1))) L := hs.up hj
  have p1 : zPC Q G c N (zu I 3 4 (nI (j + 1))) L := hc.up hq
  have f1 : FCl Q I L (zu I 3 4 (nI (j + 1))) L := FCl.at hq _
  unfold f_X8_takeDeviceSentence f_X8_takeDeviceSentence_32 f_X8_takeDeviceSentence_53 f_X8_takeDeviceSentence_75
  rw [zlt_b, zlt_b, hs.2.2.1, nI_1]
  generalize zu I 3 4 (nI (j + 1)) = I1 at s1 p1 f1 ⊢
  have nl := c_newKind ht s1 p1 hg
  by_cases a1 : nwL T m F E (c 3) (N 1) (j + 1)
  case neg =>
    rw [nl.2 a1]
    simp only [zb2, Option.bind_some, if_true]
    exact Or.inr ⟨1, I1, Or.inl ⟨by omega, fun i hi => by match i, hi with | 0, _ => exact h8, a1⟩, rfl, f1, s1.2.2.1⟩
  have gg := wG_good ht a1.1
  have s2 : CS Q T m F E (j + 2) (zu I1 3 4 (nI (j + 2))) L := s1.up (nwL_lt a1)
  have p2 : zPC Q G c N (zu I1 3 4 (nI (j + 2))) L := p1.up hq
  have f2 : FCl Q I L (zu I1 3 4 (nI (j + 2))) L := f1.trans (FCl.at hq _)
  have nl' : f_X8_takeNewKind Q I1 L = some (z5c (wG T F E (j + 1)), zu I1 3 4 (nI (j + 2))) := nl.1 a1
  rw [nl']
  simp only [zb2, Option.bind_some]
  generalize zu I1 3 4 (nI (j + 2)) = I2 at s2 p2 f2 ⊢
  rw [if_neg (c5_m1 gg)]
  have sn := c_sign hn ht hT s2 (ch := 61) (by decide)
  by_cases a2 : sg T m F E (j + 2) 61
  case neg =>
    have sn' : f_X8_takeSign 61 I2 L = some (0, I2) := sn.2 a2
    rw [sn']
    simp only [Option.bind_some, if_true]
    exact Or.inr ⟨2, I2, Or.inl ⟨by omega, fun i hi => by match i, hi with | 0, _ => exact h8 | 1, _ => exact a1, a2⟩, rfl, f2, s2.2.2.1⟩
  have s3 : CS Q T m F E (j + 3) (zu I2 3 4 (nI (j + 3))) L := s2.up (sg_lt a2)
  have p3 : zPC Q G c N (zu I2 3 4 (nI (j + 3))) L := p2.up hq
  have f3 : FCl Q I L (zu I2 3 4 (nI (j + 3))) L := f2.trans (FCl.at hq _)
  have sn' : f_X8_takeSign 61 I2 L = some (1, zu I2 3 4 (nI (j + 3))) := sn.1 a2
  rw [sn']
  simp only [Option.bind_some]
  generalize zu I2 3 4 (nI (j + 3)) = I3 at s3 p3 f3 ⊢
  rw [if_neg n10]
  obtain ⟨v, v1, v2, v3⟩ := c_takeLayer ht s3 p3 hg
  by_cases a3 : v = -1
  case pos =>
    have a3' : ¬ lyOk T m F E (c 0) (N 0) (j + 3) := fun ⟨y, y1, y2⟩ => y2 (by rw [LA_u hg.2.2.1 y1 v1]; exact a3)
    rw [v2 a3]
    simp only [Option.bind_some]
    rw [if_pos a3]
    exact Or.inr ⟨3, I3, Or.inl ⟨by omega, fun i hi => by match i, hi with | 0, _ => exact h8 | 1, _ => exact a1 | 2, _ => exact a2, a3'⟩, rfl, f3, s3.2.2.1⟩
  have a3' : lyOk T m F E (c 0) (N 0) (j + 3) := ⟨v, v1, a3⟩
  have s4 : CS Q T m F E (j + 4) (zu I3 3 4 (nI (j + 4))) L := s3.up (LA_lt v1 a3).1
  have p4 : zPC Q G c N (zu I3 3 4 (nI (j + 4))) L := p3.up hq
  have f4 : FCl Q I L (zu I3 3 4 (nI (j + 4))) L := f3.trans (FCl.at hq _)
  have v3' : f_X8_takeLayer Q I3 L = some (v, zu I3 3 4 (nI (j + 4))) := v3 a3
  rw [v3']
  simp only [Option.bind_some]
  generalize zu I3 3 4 (nI (j + 4)) = I4 at s4 p4 f4 ⊢
  rw [if_neg a3]
  have tw := c_takeWord ht s4 (t := 9) (by decide)
  by_cases a4 : wd T m F E (j + 4) 9
  case neg =>
    rw [tw.2 a4]
    simp only [Option.bind_some, if_true]
    exact Or.inr ⟨4, I4, Or.inl ⟨by omega, fun i hi => by match i, hi with | 0, _ => exact h8 | 1, _ => exact a1 | 2, _ => exact a2 | 3, _ => exact a3', a4⟩, rfl, f4, s4.2.2.1⟩
  have s5 : CS Q T m F E (j + 5) (zu I4 3 4 (nI (j + 5))) L := s4.up (wd_lt a4)
  have p5 : zPC Q G c N (zu I4 3 4 (nI (j + 5))) L := p4.up hq
  have f5 : FCl Q I L (zu I4 3 4 (nI (j + 5))) L := f4.trans (FCl.at hq _)
  have tw' : f_X8_takeWord 9 I4 L = some (1, zu I4 3 4 (nI (j + 5))) := tw.1 a4
  rw [tw']
  simp only [Option.bind_some]
  generalize zu I4 3 4 (nI (j + 5)) = I5 at s5 p5 f5 ⊢
  rw [if_neg n10]
  have A5 : chS (aDe T m F E c N j) 5 := fun i hi => by
    match i, hi with
    | 0, _ => exact h8
    | 1, _ => exact a1
    | 2, _ => exact a2
    | 3, _ => exact a3'
    | 4, _ => exact a4
  obtain ⟨p, I6, q1, q2, s6, p6, f6, q3, q4, q5, q6⟩ := c_pins (j := j + 5) hq ht hg h8 (I0 := I5) 4 0 I5 zF (by omega) (zF_lt (by omega)) s5 p5 (FCl.refl _ _ _) (fun i hi => absurd hi (by omega)) (fun i hi => absurd hi (by omega)) (fun _ _ => rfl) (fun _ _ => rfl) (fun _ => rfl)
  have q1' : f_X8_takePins Q I5 L = some (nI p, I6) := q1
  rw [q1']
  simp only [Option.bind_some]
  have hp4 := q2.1
  by_cases hp0 : p = 0
  case pos =>
    subst hp0
    rw [if_pos (show nI 0 = 0 from rfl)]
    exact Or.inr ⟨5, I6, Or.inr ⟨A5, 0, rfl, q2, Or.inl rfl⟩, rfl, f5.trans f6, s6.2.2.1⟩
  rw [if_neg (nI_ne0 (by omega) (by omega))]
  have sn6 := c_sign hn ht hT s6 (ch := 59) (by decide)
  by_cases a6 : sg T m F E (j + 5 + p) 59
  case neg =>
    have sn6' : f_X8_takeSign 59 I6 L = some (0, I6) := sn6.2 a6
    rw [sn6']
    simp only [Option.bind_some, if_true]
    exact Or.inr ⟨5 + p, I6, Or.inr ⟨A5, p, rfl, q2, Or.inr a6⟩, rfl, f5.trans f6, by rw [← Nat.add_assoc]; exact s6.2.2.1⟩
  have e6 : j + 5 + p + 1 = j + 6 + p := by omega
  have s7 : CS Q T m F E (j + 6 + p) (zu I6 3 4 (nI (j + 6 + p))) L := by rw [← e6]; exact s6.up (sg_lt a6)
  have p7 : zPC Q G c N (zu I6 3 4 (nI (j + 6 + p))) L := p6.up hq
  have f7 : FCl Q I L (zu I6 3 4 (nI (j + 6 + p))) L := (f5.trans f6).trans (FCl.at hq _)
  have sn6' : f_X8_takeSign 59 I6 L = some (1, zu I6 3 4 (nI (j + 6 + p))) := by rw [← e6]; exact sn6.1 a6
  rw [sn6']
  simp only [Option.bind_some]
  have hQ3 : 3 ≠ Q ∧ ∀ k, 3 ≠ Q + 1 + k := by rcases hq with rfl | rfl <;> exact ⟨by omega, fun k => by omega⟩
  have e11 : zu I6 3 4 (nI (j + 6 + p)) (Q + 1 + 11) = I6 (Q + 1 + 11) := zu_pf _ _ (fun y => hQ3.2 11 y.symm)
  generalize zu I6 3 4 (nI (j + 6 + p)) = I7 at s7 p7 f7 e11 ⊢
  rw [if_neg n10, zck_t _ (decide_eq_true s7.2.2.2.1)]
  have h15 : I7 Q 15 = nI (c 3) := p7.1 3 (by decide)
  have hb : zbd (nI (c 3)) 8 = true := zbd_nI h8 (by decide)
  have hcl : (nI (c 3)).toNatClampNeg = c 3 := nI_clamp (by omega)
  have r1 : ∀ a, zu I7 (Q + 1 + 9) (c 3) a Q 15 = nI (c 3) := fun a => by rw [zu_p _ _ (by omega)]; exact h15
  have r2 : ∀ a b, zu (zu I7 (Q + 1 + 9) (c 3) a) (Q + 1 + 10) (c 3) b Q 15 = nI (c 3) := fun a b => by rw [zu_p _ _ (by omega)]; exact r1 a
  have ad : f_X7_addKind Q (z5c (wG T F E (j + 1))) v (nI p) I7 L = some (zu (zu (zu I7 (Q + 1 + 9) (c 3) v) (Q + 1 + 10) (c 3) (nI p)) Q 15 (nI (c 3 + 1)), zul L (Q + 1 + 8) (c 3) (z5c (wG T F E (j + 1)))) := by
    unfold f_X7_addKind
    rw [h15, zck_t _ hb]
    simp only [zlt_b, hcl, r1, r2, zck_t _ hb, nI_1]
  rw [ad]
  simp only [Option.bind_some]
  have x2 : FCl Q I7 L (zu (zu (zu I7 (Q + 1 + 9) (c 3) v) (Q + 1 + 10) (c 3) (nI p)) Q 15 (nI (c 3 + 1))) (zul L (Q + 1 + 8) (c 3) (z5c (wG T F E (j + 1)))) := ⟨fun p a b => by rw [zu_pf _ _ (by omega), zu_pf _ _ (by omega), zu_pf _ _ (by omega)], fun k a => by rw [zu_p _ _ hQ3.1, zu_p _ _ (hQ3.2 10), zu_p _ _ (hQ3.2 9)], fun p a b => zul_pf _ _ (by omega)⟩
  refine Or.inl ⟨p, v, fun i => I7 (Q + 1 + 11) (4 * c 3 + i), A5, q2, by omega, a6, v1, fun i hi => by rw [e11]; exact q3 i hi, _, _, rfl, f7.trans x2, s7.fc hq x2 s7.1 (by rw [zu_p _ _ hQ3.1, zu_p _ _ (hQ3.2 10), zu_p _ _ (hQ3.2 9)]; exact s7.2.2.1), zPC_K p7 hp4 (zul_eq _ _ _ _) (fun l hl => zul_k _ _ (by omega) _) (zul_pf _ _ (by omega)) (zu_eq _ _ _ _) (fun k k1 k2 => ?_) ?_ ?_ (fun p l a b => ?_) (fun i hi => ?_) (fun l hl => ?_) (fun p a => ?_)⟩
  · rw [zu_k _ _ (by omega), zu_p _ _ (by omega), zu_p _ _ (by omega)]
  · rw [zu_p _ _ (by omega), zu_p _ _ (by omega), zu_eq]
  · rw [zu_p _ _ (by omega), zu_eq]
  · rw [zu_p _ _ (by omega), zu_k _ _ (by omega), zu_k _ _ (by omega)]
  · rw [zu_p _ _ (by omega), zu_p _ _ (by omega), zu_p _ _ (by omega)]
  · rw [zu_p _ _ (by omega), zu_p _ _ (by omega), zu_p _ _ (by omega)]
  · rw [zu_pf _ _ (by omega), zu_pf _ _ (by omega), zu_pf _ _ (by omega)]
/-- the kind's freshness, as the reference sees it -/
theorem m_freshK (ht : Tok T n m F E) (hm : zPM G c N J M) (hg : zPG G c N) {j0 : Nat} : ∀ r w f x, w + r = c 3 → r < f → ((x = 1 ∧ wS T m F E j0 = 1 ∧ ∀ u, u < w → N 1 u ≠ wG T F E j0) ∨ (x = 0 ∧ ¬ (wS T m F E j0 = 1 ∧ ∀ u, u < w → N 1 u ≠ wG T F E j0))) → ∃ y, zlp5 f_X12_readDevice_38 f (wNm T m F E j0) x (nI w) J M = (zb1 (f_X12_take y J) (fun I6 => zb1 (f_X12_is (61 : Int32) I6) (fun x8 => zb1 (f_X12_take x8 I6) (fun I10 => zb2 (f_X12_takeLayer I10 M) (fun x12 I13 => zb1 (f_X12_name I13) (fun x15 => zb1 (f_X12_word (112 : Int32) (105 : Int32) (110 : Int32) (115 : Int32) (0 : Int32)) (fun x17 => if x15 = x17 then (f_X12_readDevice_125 (wNm T m F E j0) x12 (1 : Int32) I13 M) else (f_X12_readDevice_125 (wNm T m F E j0) x12 (0 : Int32) I13 M)))))))) ∧ ((y = 1 ∧ nwL T m F E (c 3) (N 1) j0) ∨ (y = 0 ∧ ¬ nwL T m F E (c 3) (N 1) j0))
  | _, _, 0, _, _, h, _ => absurd h (by omega)
  | 0, w, f + 1, x, hw, _, hx => by
    have : w = c 3 := by omega
    subst this
    refine ⟨x, ?_, hx⟩
    show f_X12_readDevice_38 _ (wNm T m F E j0) x (nI (c 3)) J M = _
    unfold f_X12_readDevice_38
    rw [hm.1 3 (by decide), if_pos (Int32.le_refl _)]
  | r + 1, w, f + 1, x, hw, hf, hx => by
    have ih := fun x => m_freshK ht hm hg (j0 := j0) r (w + 1) f x (by omega) (by omega)
    have e1 : zlp5 f_X12_readDevice_38 (f + 1) (wNm T m F E j0) x (nI w) J M = f_X12_readDevice_38 (zlp5 f_X12_readDevice_38 f) (wNm T m F E j0) x (nI w) J M := rfl
    rw [e1]
    generalize zlp5 f_X12_readDevice_38 f = k1 at ih ⊢
    have h8 := hg.1.2.2.2
    have e2 : ∀ y, f_X12_readDevice_38 k1 (wNm T m F E j0) y (nI w) J M = if y = 0 then k1 (wNm T m F E j0) 0 (nI (w + 1)) J M else (if z27 (N 1 w) = wNm T m F E j0 then k1 (wNm T m F E j0) 0 (nI (w + 1)) J M else k1 (wNm T m F E j0) 1 (nI (w + 1)) J M) := by
      intro y
      unfold f_X12_readDevice_38 f_X12_readDevice_70 f_X12_readDevice_71
      rw [hm.1 3 (by decide), if_neg (nI_ge (by omega) (by omega))]
      simp only [zlt_b, nI_1]
      rw [show (8 : Int32) + nI w = nI (8 + w) from nI_add 8 w, zck_t _ (zbd_nI (by omega) (by decide)), nI_clamp (by omega), (hm.2.2.2.2 w (by omega)).1]
    rw [e2]
    rcases hx with ⟨rfl, a, b⟩ | ⟨rfl, a⟩
    · rw [if_neg n10]
      have ew : wNm T m F E j0 = z27 (wG T F E j0) := if_pos a
      have eq := c27_eq (hg.2.2.2.1 w (by omega)) (wG_good ht a)
      by_cases z : N 1 w = wG T F E j0
      · rw [if_pos (by rw [ew]; exact eq.mpr z)]
        exact ih 0 (Or.inr ⟨rfl, fun q => q.2 w (by omega) z⟩)
      · rw [if_neg (by rw [ew]; exact fun y => z (eq.mp y))]
        refine ih 1 (Or.inl ⟨rfl, a, fun u hu => ?_⟩)
        by_cases q : u = w
        · subst q; exact z
        · exact b u (by omega)
    · rw [if_pos rfl]
      exact ih 0 (Or.inr ⟨rfl, fun q => a ⟨q.1, fun u hu => q.2 u (by omega)⟩⟩)
/-- pins alone are written -/
def DF (k : Nat) (J J' : zI) : Prop := (∀ p, p ≠ 97 → p ≠ 116 → J' p = J p) ∧ (∀ q, ¬ (46 ≤ q ∧ q ≤ 49) → J' 97 q = J 97 q) ∧ ∀ l, l < 4 * (8 + k) → J' 116 l = J 116 l
theorem DF.cf {J' : zI} (h : CF J J') : DF k J J' := ⟨fun p a _ => h.1 p a, h.2, fun l _ => by rw [h.1 116 (by decide)]⟩
theorem DF.trans {J' J2 : zI} (h : DF k J J') (g : DF k J' J2) : DF k J J2 := ⟨fun p a b => by rw [g.1 p a b, h.1 p a b], fun q a => by rw [g.2.1 q a, h.2.1 q a], fun l a => by rw [g.2.2 l a, h.2.2 l a]⟩
theorem zPM.df {J' : zI} (h : zPM G c N J M) (hf : DF (c 3) J J') : zPM G c N J' M := by
  obtain ⟨p1, p2, p3, p4, p5⟩ := h
  unfold zPM
  rw [hf.1 106 (by decide) (by decide), hf.1 107 (by decide) (by decide), hf.1 108 (by decide) (by decide), hf.1 109 (by decide) (by decide), hf.1 110 (by decide) (by decide), hf.1 111 (by decide) (by decide), hf.1 112 (by decide) (by decide), hf.1 114 (by decide) (by decide), hf.1 115 (by decide) (by decide)]
  refine ⟨fun i hi => by rw [hf.2.1 _ (by omega)]; exact p1 i hi, p2, p3, p4, fun k hk => ?_⟩
  obtain ⟨r1, r2, r3, r4⟩ := p5 k hk
  exact ⟨r1, r2, r3, fun i hi hlt => by rw [hf.2.2 _ (by omega)]; exact r4 i hi hlt⟩
theorem m_pins (hn : n ≤ 800) (ht : Tok T n m F E) (hg : zPG G c N) (h8 : c 3 < 8) {v1 : Int64} {v4 : Int32} {J0 : zI} : ∀ r q J f, q + r = 4 → r + 1 < f → j + q ≤ m → RS T n m F E (j + q) 1 J → zPM G c N J M → DF (c 3) J0 J → (∀ i, i < q → wrOk T m F E (c 0) (N 0) (c 1) (G 3) (j + i)) → (∀ i, i < q → WA T m F E G c N (j + i) (J 116 (4 * (8 + c 3) + i))) →
    (∃ p J', zlp5 f_X12_readDevice_131 f v1 v4 (nI q) J M = f_X12_readDevice_185 v1 v4 (nI p) J' M ∧ 1 ≤ p ∧ pinsR T m F E G c N j p ∧ RS T n m F E (j + p) 1 J' ∧ DF (c 3) J0 J' ∧ j + p ≤ m ∧ ∀ i, i < p → WA T m F E G c N (j + i) (J' 116 (4 * (8 + c 3) + i))) ∨
    (∃ p x J', zlp5 f_X12_readDevice_131 f v1 v4 (nI q) J M = f_X12_readDevice_185 v1 v4 x J' M ∧ pinsR T m F E G c N j p ∧ (p = 0 ∨ ¬ sg T m F E (j + p) 59) ∧ RS T n m F E (j + p) 0 J' ∧ DF (c 3) J0 J' ∧ j + p ≤ m)
  | _, _, _, 0, _, h, _, _, _, _, _, _ => absurd h (by omega)
  | r, q, J, f + 1, hq, hf, hj, hs, hm, hd, hw, hu => by
    have ih : r ≠ 0 → ∀ J, j + (q + 1) ≤ m → RS T n m F E (j + (q + 1)) 1 J → zPM G c N J M → DF (c 3) J0 J → (∀ i, i < q + 1 → wrOk T m F E (c 0) (N 0) (c 1) (G 3) (j + i)) → (∀ i, i < q + 1 → WA T m F E G c N (j + i) (J 116 (4 * (8 + c 3) + i))) →
    (∃ p J', zlp5 f_X12_readDevice_131 f v1 v4 (nI (q + 1)) J M = f_X12_readDevice_185 v1 v4 (nI p) J' M ∧ 1 ≤ p ∧ pinsR T m F E G c N j p ∧ RS T n m F E (j + p) 1 J' ∧ DF (c 3) J0 J' ∧ j + p ≤ m ∧ ∀ i, i < p → WA T m F E G c N (j + i) (J' 116 (4 * (8 + c 3) + i))) ∨
    (∃ p x J', zlp5 f_X12_readDevice_131 f v1 v4 (nI (q + 1)) J M = f_X12_readDevice_185 v1 v4 x J' M ∧ pinsR T m F E G c N j p ∧ (p = 0 ∨ ¬ sg T m F E (j + p) 59) ∧ RS T n m F E (j + p) 0 J' ∧ DF (c 3) J0 J' ∧ j + p ≤ m) := by
      intro hr J h1 h2 h3 h4 h5 h6
      obtain ⟨r, rfl⟩ : ∃ x, r = x + 1 := ⟨r - 1, by omega⟩
      exact m_pins hn ht hg h8 r (q + 1) J f (by omega) (by omega) h1 h2 h3 h4 h5 h6
    have e1 : zlp5 f_X12_readDevice_131 (f + 1) v1 v4 (nI q) J M = f_X12_readDevice_131 (zlp5 f_X12_readDevice_131 f) v1 v4 (nI q) J M := rfl
    rw [e1]
    have hf0 : 0 < f := by omega
    have out0 : ∀ x J, J 97 49 = 0 → zlp5 f_X12_readDevice_131 f v1 v4 x J M = f_X12_readDevice_185 v1 v4 x J M := by
      intro x J h49
      obtain ⟨g, rfl⟩ : ∃ x, f = x + 1 := ⟨f - 1, by omega⟩
      show f_X12_readDevice_131 _ v1 v4 x J M = _
      unfold f_X12_readDevice_131
      rw [if_pos h49]
    generalize zlp5 f_X12_readDevice_131 f = k1 at ih out0 ⊢
    have h49 : ¬ J 97 49 = 0 := by rw [hs.2]; decide
    have step : r ≠ 0 → (q = 0 ∨ ¬ sg T m F E (j + q) 59) → (∃ p J', f_X12_readDevice_158 k1 v1 v4 (nI q) J M = f_X12_readDevice_185 v1 v4 (nI p) J' M ∧ 1 ≤ p ∧ pinsR T m F E G c N j p ∧ RS T n m F E (j + p) 1 J' ∧ DF (c 3) J0 J' ∧ j + p ≤ m ∧ ∀ i, i < p → WA T m F E G c N (j + i) (J' 116 (4 * (8 + c 3) + i))) ∨
    (∃ p x J', f_X12_readDevice_158 k1 v1 v4 (nI q) J M = f_X12_readDevice_185 v1 v4 x J' M ∧ pinsR T m F E G c N j p ∧ (p = 0 ∨ ¬ sg T m F E (j + p) 59) ∧ RS T n m F E (j + p) 0 J' ∧ DF (c 3) J0 J' ∧ j + p ≤ m) := by
      intro hr hsg
      obtain ⟨v, u, J1, t1, t2, t3, t4, t5⟩ := m_takeWire hn ht (Or.inr rfl) hj hs hm hg
      have wa : WA T m F E G c N (j + q) u := ⟨v, t2, t3⟩
      have e53 : J 97 53 = nI (c 3) := hm.1 3 (by decide)
      have e158 : f_X12_readDevice_158 k1 v1 v4 (nI q) J M = k1 v1 v4 (nI (q + 1)) (zu J1 116 (4 * (8 + c 3) + q) u) M := by
        unfold f_X12_readDevice_158
        simp only [zlt_b]
        rw [e53, t1]
        simp only [zb2, Option.bind_some]
        rw [show (8 : Int32) + nI (c 3) = nI (8 + c 3) from nI_add 8 _, show (4 : Int32) * nI (8 + c 3) + nI q = nI (4 * (8 + c 3) + q) from by rw [show (4 : Int32) = nI 4 from rfl, pk_mul, nI_add], zck_t _ (zbd_nI (by omega) (by decide)), nI_clamp (by omega), nI_1]
      have df : DF (c 3) J1 (zu J1 116 (4 * (8 + c 3) + q) u) := ⟨fun p _ b => zu_pf _ _ b, fun x _ => zu_p _ _ (by decide) _, fun l hl => zu_k _ _ (by omega) _⟩
      have df0 : DF (c 3) J0 (zu J1 116 (4 * (8 + c 3) + q) u) := (hd.trans (DF.cf t4)).trans df
      rw [e158]
      rcases t5 with ⟨-, z, t5⟩ | ⟨z, t5⟩
      · have ok := WA_ok wa z
        refine ih hr _ ?_ ?_ ((hm.cf t4).df df) df0 ?_ ?_
        · have := wrOk_lt ok; omega
        · exact t5.wr (fun x _ => zu_p _ _ (by decide) _) (zu_pf _ _ (by decide))
        · intro i hi
          by_cases y : i = q
          · subst y; exact ok
          · exact hw i (by omega)
        · intro i hi
          by_cases y : i = q
          · subst y; rw [zu_eq]; exact wa
          · rw [zu_k _ _ (by omega), t4.1 116 (by decide)]; exact hu i (by omega)
      · have hu1 : u = -1 := Classical.not_not.mp fun y => z ⟨rfl, y⟩
        rw [out0 _ _ (by rw [zu_p _ _ (by decide)]; exact t5.2)]
        exact Or.inr ⟨q, _, _, rfl, ⟨by omega, hw, Or.inr (WA_no hg wa hu1)⟩, hsg, t5.wr (fun x _ => zu_p _ _ (by decide) _) (zu_pf _ _ (by decide)), df0, hj⟩
    unfold f_X12_readDevice_131
    rw [if_neg h49]
    by_cases hq0 : q = 0
    · subst hq0
      rw [if_pos (show nI 0 = 0 from rfl)]
      exact step (by omega) (Or.inl rfl)
    · rw [if_neg (nI_ne0 (by omega) (by omega))]
      have hi : f_X12_is 59 J = some (if wS T m F E (j + q) = 3 ∧ wV T F E (j + q) = 59 then 1 else 0) := e_mis hn ht hj (c := 59) (by decide) (by decide) hs.1
      rw [hi]
      simp only [zb1, Option.bind_some]
      by_cases hsg : sg T m F E (j + q) 59
      · rw [if_pos (show wS T m F E (j + q) = 3 ∧ wV T F E (j + q) = 59 from hsg), if_neg n10]
        exact Or.inl ⟨q, J, rfl, by omega, ⟨by omega, hw, Or.inr (sg_wr hsg)⟩, hs, hd, hj, hu⟩
      · rw [if_neg (show ¬ (wS T m F E (j + q) = 3 ∧ wV T F E (j + q) = 59) from hsg), if_pos rfl]
        by_cases hr : r = 0
        · have : q = 4 := by omega
          subst this
          rw [if_pos (show (4 : Int32) ≤ nI 4 by decide)]
          exact Or.inl ⟨4, J, rfl, by omega, ⟨by omega, hw, Or.inl rfl⟩, hs, hd, hj, hu⟩
        · rw [if_neg (show ¬ (4 : Int32) ≤ nI q from nI_ge (b := 4) (by omega) (by decide))]
          exact step hr (Or.inr hsg)
theorem m_readDevice (hn : n ≤ 800) (ht : Tok T n m F E) (hj : j < m) (hs : RS T n m F E j 1 J) (hm : zPM G c N J M) (hg : zPG G c N) :
    ∃ J' M', f_X12_readDevice J M = some (J', M') ∧ FRf J M J' M' ∧ ((∃ (p : Nat) (v : Int32) (U : Nat → Int32), chS (aDe T m F E c N j) 5 ∧ pinsR T m F E G c N (j + 5) p ∧ 1 ≤ p ∧ sg T m F E (j + 5 + p) 59 ∧ LA T m F E (c 0) (N 0) (j + 3) v ∧ (∀ i, i < p → WA T m F E G c N (j + 5 + i) (U i)) ∧ RS T n m F E (j + 6 + p) 1 J' ∧ ∀ V : Nat → Int32, (∀ i, i < p → V i = U i) → zPM (gK G (c 3) v p V) (cu c 3) (nu N 1 (c 3) (wG T F E (j + 1))) J' M') ∨
      (∃ h, ((chF (aDe T m F E c N j) 5 h) ∨ (chS (aDe T m F E c N j) 5 ∧ ∃ p, h = 5 + p ∧ pinsR T m F E G c N (j + 5) p ∧ (p = 0 ∨ ¬ sg T m F E (j + 5 + p) 59))) ∧ RS T n m F E (j + h) 0 J')) := by
  have hA := aDe_lt (T := T) (m := m) (F := F) (E := E) (c := c) (N := N) hj
  have b8 := hg.1.2.2.2
  have e53 : J 97 53 = nI (c 3) := hm.1 3 (by decide)
  have hw : ∃ w : Int32, f_X12_readDevice J M = f_X12_readDevice_15 w J M ∧ ((aDe T m F E c N j 0 ∧ ¬ w = 0) ∨ (¬ aDe T m F E c N j 0 ∧ w = 0)) := by
    unfold f_X12_readDevice
    rw [e53]
    by_cases z : c 3 < 8
    · rw [if_neg (show ¬ (8 : Int32) ≤ nI (c 3) from nI_ge (b := 8) z (by decide))]
      exact ⟨1, rfl, Or.inl ⟨z, n10⟩⟩
    · rw [if_pos (show (8 : Int32) ≤ nI (c 3) from nI_le (a := 8) (by omega) (by omega))]
      exact ⟨0, rfl, Or.inr ⟨z, rfl⟩⟩
  obtain ⟨w, w1, w2⟩ := hw
  obtain ⟨J1, g1, g2, st1⟩ := m_tkST (A := aDe T m F E c N j) hn ht hA (by omega) (i := 0) (x := w) (fun _ _ => w2) (ST_0 hs)
  rw [w1]
  unfold f_X12_readDevice_15 f_X12_readDevice_34
  rw [g1]
  simp only [zb1, Option.bind_some]
  obtain ⟨j0, r, hr, hj0, hs1, h1, h0⟩ := ST_ex hA (by omega) st1
  have en : f_X12_name J1 = some (wNm T m F E j0) := e_mname hn ht hj0 hs1.1
  rw [en]
  simp only [Option.bind_some]
  have hj1 : chS (aDe T m F E c N j) 1 → j0 = j + 1 := fun a => by
    rcases hr with rfl | rfl
    · obtain ⟨h, q, -⟩ := h0 rfl; exact absurd (a h q.1) q.2.2
    · exact (h1 rfl).1
  have fr : ∃ x : Int32, (if wNm T m F E j0 ≤ (0 : Int64) then (zlp5 (f_X12_readDevice_38) zF (wNm T m F E j0) (0 : Int32) (0 : Int32) J1 M) else (zlp5 (f_X12_readDevice_38) zF (wNm T m F E j0) (1 : Int32) (0 : Int32) J1 M)) = zlp5 (f_X12_readDevice_38) zF (wNm T m F E j0) x (nI 0) J1 M ∧ ((x = 1 ∧ wS T m F E j0 = 1 ∧ ∀ u, u < 0 → N 1 u ≠ wG T F E j0) ∨ (x = 0 ∧ ¬ (wS T m F E j0 = 1 ∧ ∀ u, u < 0 → N 1 u ≠ wG T F E j0))) := by
    by_cases z : wS T m F E j0 = 1
    · have ew : wNm T m F E j0 = z27 (wG T F E j0) := if_pos z
      rw [ew, if_neg (c27_pos (wG_good ht z))]
      exact ⟨1, rfl, Or.inl ⟨rfl, z, fun u hu => absurd hu (by omega)⟩⟩
    · have ew : wNm T m F E j0 = 0 := if_neg z
      rw [ew, if_pos (by decide)]
      exact ⟨0, rfl, Or.inr ⟨rfl, fun q => z q.1⟩⟩
  obtain ⟨x, x1, x2⟩ := fr
  rw [x1]
  obtain ⟨y, y1, y2⟩ := m_freshK ht (hm.cf g2) hg (j0 := j0) (c 3) 0 zF x (by omega) (zF_lt (by omega)) x2
  simp only [zb1] at y1
  rw [y1]
  obtain ⟨J2, k1, k2, st2⟩ := m_tkST hn ht hA (by omega) (i := 1) (x := y) (fun a _ => by
    rw [hj1 a] at y2
    rcases y2 with ⟨z1, z2⟩ | ⟨z1, z2⟩
    · exact Or.inl ⟨z2, by rw [z1]; exact n10⟩
    · exact Or.inr ⟨z2, z1⟩) st1
  rw [k1]
  simp only [Option.bind_some]
  obtain ⟨t, J3, t1, t2, t3, st3⟩ := m_sgST hn ht hA (by omega) (i := 2) (ch := 61) (by decide) (by decide) (Iff.rfl) st2
  have t1' : f_X12_is 61 J2 = some t := t1
  rw [t1']
  simp only [Option.bind_some]
  rw [t2]
  simp only [Option.bind_some]
  have cf3 : CF J J3 := (g2.trans k2).trans t3
  obtain ⟨v, J4, v1, v2, st4, v3⟩ := m_lyST hn ht hA (by omega) (i := 3) (Iff.rfl) (hm.cf cf3) hg st3
  rw [v1]
  simp only [zb2, Option.bind_some]
  have cf4 : CF J J4 := cf3.trans v2
  obtain ⟨j4, r4, hr4, hj4, hs4, h14, h04⟩ := ST_ex hA (by omega) st4
  have en4 : f_X12_name J4 = some (wNm T m F E j4) := e_mname hn ht hj4 hs4.1
  obtain ⟨-, -, -, -, -, -, -, -, q9, -⟩ := e_word
  rw [en4, q9]
  simp only [Option.bind_some]
  have k9 := wN_kw (j := j4) ht (t := 9) (by decide)
  have h125 : ∃ x : Int32, (if wNm T m F E j4 = z27 (kw 9) then (f_X12_readDevice_125 (wNm T m F E j0) v (1 : Int32) J4 M) else (f_X12_readDevice_125 (wNm T m F E j0) v (0 : Int32) J4 M)) = f_X12_readDevice_125 (wNm T m F E j0) v x J4 M ∧ ((wd T m F E j4 9 ∧ ¬ x = 0) ∨ (¬ wd T m F E j4 9 ∧ x = 0)) := by
    by_cases z : wd T m F E j4 9
    · exact ⟨1, if_pos (k9.mpr z), Or.inl ⟨z, n10⟩⟩
    · exact ⟨0, if_neg (fun y => z (k9.mp y)), Or.inr ⟨z, rfl⟩⟩
  obtain ⟨x, x1, x2⟩ := h125
  rw [x1]
  unfold f_X12_readDevice_125
  obtain ⟨J5, k5, k6, st5⟩ := m_tkST hn ht hA (by omega) (i := 4) (x := x) (fun s _ => by
    have e : j4 = j + 4 := by
      rcases hr4 with rfl | rfl
      · obtain ⟨h, q, -⟩ := h04 rfl; exact absurd (s h q.1) q.2.2
      · exact (h14 rfl).1
    rw [e] at x2
    exact x2) st4
  rw [k5]
  simp only [zb1, Option.bind_some]
  have cf5 : CF J J5 := cf4.trans k6
  have tail0 : ∀ (x : Int32) (J6 : zI) (h : Nat), j + h ≤ m → DF (c 3) J J6 → RS T n m F E (j + h) 0 J6 → ∃ J', f_X12_readDevice_185 (wNm T m F E j0) v x J6 M = some (J', M) ∧ FRf J M J' M ∧ RS T n m F E (j + h) 0 J' := by
    intro x J6 h hh df rs
    obtain ⟨y, J7, a1, a2, a3, a4⟩ := m_sign hn ht (Or.inl rfl) hh rs (ch := 59) (by decide) (by decide)
    have a4 : RS T n m F E (j + h) 0 J7 := by
      rcases a4 with ⟨z, -⟩ | ⟨-, z⟩
      · exact absurd z (by decide)
      · exact z
    refine ⟨J7, ?_, ?_, a4⟩
    · unfold f_X12_readDevice_185 f_X12_readDevice_253
      have a1' : f_X12_is 59 J6 = some y := a1
      rw [a1']
      simp only [zb1, Option.bind_some]
      rw [a2]
      simp only [Option.bind_some]
      rw [if_pos (show J7 97 49 = 0 from a4.2)]
    · have d2 := df.trans (DF.cf a3)
      refine ⟨fun p a b => d2.1 p a (by omega), fun k a => d2.2.1 k (by omega), fun _ _ _ => rfl, fun p l a b d => ?_⟩
      by_cases z : p = 116
      · subst z
        have : l < 32 := d
        exact d2.2.2 l (by omega)
      · rw [d2.1 p (by omega) z]
  rcases zST_49 st5 with ⟨s1, s2, s3⟩ | ⟨⟨h, s1, s4⟩, s2⟩
  · have h8 : c 3 < 8 := s1 0 (by omega)
    have e0 : j0 = j + 1 := hj1 (fun i hi => s1 i (by omega))
    have gg : nwL T m F E (c 3) (N 1) (j + 1) := s1 1 (by omega)
    have ew : wNm T m F E j0 = z27 (wG T F E (j + 1)) := by rw [e0]; exact if_pos gg.1
    have hj5 : j + 5 ≤ m := by have := wd_lt (s1 4 (by omega)); omega
    have pins := m_pins (j := j + 5) (M := M) hn ht hg h8 (v1 := wNm T m F E j0) (v4 := v) (J0 := J) 4 0 J5 zF (by omega) (zF_lt (by omega)) hj5 s2 (hm.cf cf5) (DF.cf cf5) (fun i hi => absurd hi (by omega)) (fun i hi => absurd hi (by omega))
    rcases pins with ⟨p, J6, a1, a2, a3, a4, a5, a6, a7⟩ | ⟨p, x, J6, a1, a2, a3, a4, a5, a6⟩
    · have a1' : zlp5 f_X12_readDevice_131 zF (wNm T m F E j0) v 0 J5 M = _ := a1
      rw [a1']
      obtain ⟨y, J7, b1, b2, b3, b4⟩ := m_sign hn ht (Or.inr rfl) a6 a4 (ch := 59) (by decide) (by decide)
      have b1' : f_X12_is 59 J6 = some y := b1
      have d2 := a5.trans (DF.cf (k := c 3) b3)
      unfold f_X12_readDevice_185 f_X12_readDevice_253
      rw [b1']
      simp only [zb1, Option.bind_some]
      rw [b2]
      simp only [Option.bind_some]
      have hp4 := a3.1
      rcases b4 with ⟨-, b4, b5⟩ | ⟨b4, b5⟩
      · have e53' : J7 97 53 = nI (c 3) := by rw [d2.2.1 53 (by omega)]; exact e53
        have e8 : (8 : Int32) + nI (c 3) = nI (8 + c 3) := nI_add 8 _
        have hb : zbd (nI (8 + c 3)) 16 = true := zbd_nI (by omega) (by decide)
        have hcl : (nI (8 + c 3)).toNatClampNeg = 8 + c 3 := nI_clamp (by omega)
        have q1 : ∀ a, zu J7 114 (8 + c 3) a 97 53 = nI (c 3) := fun a => by rw [zu_p _ _ (by decide)]; exact e53'
        have q2 : ∀ a b, zu (zu J7 114 (8 + c 3) a) 115 (8 + c 3) b 97 53 = nI (c 3) := fun a b => by rw [zu_p _ _ (by decide)]; exact q1 a
        rw [if_neg (show ¬ J7 97 49 = 0 by rw [b5.2]; decide)]
        simp only [zlt_b, e53', e8, zck_t _ hb, hcl, q1, q2, nI_1]
        refine ⟨_, _, rfl, ?_, Or.inl ⟨p, v, fun i => J6 116 (4 * (8 + c 3) + i), s1, a3, a2, b4, v3 (fun i hi => s1 i (by omega)), a7, ?_, fun V hV => ?_⟩⟩
        · refine ⟨fun p a b => ?_, fun q a => ?_, fun p a b => zul_pf _ _ b, fun p l a b d => ?_⟩
          · rw [zu_pf _ _ a, zu_pf _ _ (by omega), zu_pf _ _ (by omega), d2.1 p a (by omega)]
          · rw [zu_k _ _ (by omega), zu_p _ _ (by decide), zu_p _ _ (by decide), d2.2.1 q (by omega)]
          · rw [zu_p _ _ (by omega)]
            by_cases z : p = 116
            · subst z
              have : l < 32 := d
              rw [zu_p _ _ (by decide), zu_p _ _ (by decide), d2.2.2 l (by omega)]
            · by_cases y : p = 114 ∨ p = 115
              · have : l < 8 := by
                  unfold rg at d
                  rw [if_neg (by omega), if_neg (by omega), if_neg (by omega), if_pos (by omega)] at d
                  exact d
                rw [zu_k _ _ (by omega), zu_k _ _ (by omega), d2.1 p (by omega) z]
              · rw [zu_p _ _ (by omega), zu_p _ _ (by omega), d2.1 p (by omega) z]
        · rw [show j + 6 + p = j + 5 + p + 1 by omega]
          refine b5.wr (fun k hk => ?_) ?_
          · rw [zu_k _ _ (by omega), zu_p _ _ (by decide), zu_p _ _ (by decide)]
          · rw [zu_pf _ _ (by decide), zu_pf _ _ (by decide), zu_pf _ _ (by decide)]
        · refine zPM_K (J := J) hm hp4 ?_ (fun l hl => zul_k _ _ (by omega) _) (zul_pf _ _ (by decide)) (zu_eq _ _ _ _) (fun k k1 k2 => ?_) ?_ ?_ (fun p l a b => ?_) (fun i hi => ?_) (fun l hl => ?_) (fun p a b => ?_)
          · rw [zul_eq, ew]
          · rw [zu_k _ _ (by omega), zu_p _ _ (by decide), zu_p _ _ (by decide), d2.2.1 k (by omega)]
          · rw [zu_p _ _ (by decide), zu_p _ _ (by decide), zu_eq]
          · rw [zu_p _ _ (by decide), zu_eq]
          · rw [zu_p _ _ (by omega), zu_k _ _ (by omega), zu_k _ _ (by omega), d2.1 p (by omega) (by omega)]
          · rw [zu_p _ _ (by decide), zu_p _ _ (by decide), zu_p _ _ (by decide), b3.1 116 (by decide), hV i hi]
          · rw [zu_p _ _ (by decide), zu_p _ _ (by decide), zu_p _ _ (by decide), d2.2.2 l hl]
          · rw [zu_pf _ _ (by omega), zu_pf _ _ (by omega), zu_pf _ _ (by omega), d2.1 p (by omega) (by omega)]
      · rw [if_pos (show J7 97 49 = 0 from b5.2)]
        refine ⟨J7, M, rfl, ?_, Or.inr ⟨5 + p, Or.inr ⟨s1, p, rfl, a3, Or.inr (fun z => b4 ⟨rfl, z⟩)⟩, by rw [← Nat.add_assoc]; exact b5⟩⟩
        refine ⟨fun p a b => d2.1 p a (by omega), fun k a => d2.2.1 k (by omega), fun _ _ _ => rfl, fun p l a b d => ?_⟩
        by_cases z : p = 116
        · subst z
          have : l < 32 := d
          exact d2.2.2 l (by omega)
        · rw [d2.1 p (by omega) z]
    · have a1' : zlp5 f_X12_readDevice_131 zF (wNm T m F E j0) v 0 J5 M = _ := a1
      rw [a1']
      obtain ⟨J', c1, c2, c3⟩ := tail0 x J6 (5 + p) (by omega) a5 (by rw [← Nat.add_assoc]; exact a4)
      exact ⟨J', M, c1, c2, Or.inr ⟨5 + p, Or.inr ⟨s1, p, rfl, a2, a3⟩, c3⟩⟩
  · obtain ⟨f, hf⟩ := zF_s
    have out0 : zlp5 f_X12_readDevice_131 zF (wNm T m F E j0) v 0 J5 M = f_X12_readDevice_185 (wNm T m F E j0) v 0 J5 M := by
      rw [hf]
      show f_X12_readDevice_131 _ _ _ _ _ _ = _
      unfold f_X12_readDevice_131
      rw [if_pos s2]
    rw [out0]
    have hh : j + h ≤ m := by
      by_cases z : h = 0
      · omega
      · have := hA (h - 1) (s1.2.1 (h - 1) (by omega)); omega
    obtain ⟨J', c1, c2, c3⟩ := tail0 0 J5 h hh (DF.cf cf5) s4
    exact ⟨J', M, c1, c2, Or.inr ⟨h, Or.inl s1, c3⟩⟩
end De
