/-! what a sentence changes; what it adds to the plan -/
def FCl (Q : Nat) (I : zI) (L : zL) (I' : zI) (L' : zL) : Prop := (∀ p, p ≠ 3 → ¬ (Q ≤ p ∧ p ≤ Q + 12) → I' p = I p) ∧ (∀ k, k ≠ 4 → I' 3 k = I 3 k) ∧ (∀ p, p ≠ Q + 1 → p ≠ Q + 9 → L' p = L p)
theorem FCl.refl (Q : Nat) (I : zI) (L : zL) : FCl Q I L I L := ⟨fun _ _ _ => rfl, fun _ _ => rfl, fun _ _ _ => rfl⟩
theorem FCl.trans {Q : Nat} {I I' I2 : zI} {L L' L2 : zL} (h : FCl Q I L I' L') (g : FCl Q I' L' I2 L2) : FCl Q I L I2 L2 :=
  ⟨fun p a b => by rw [g.1 p a b, h.1 p a b], fun k a => by rw [g.2.1 k a, h.2.1 k a], fun p a b => by rw [g.2.2 p a b, h.2.2 p a b]⟩
theorem FCl.at {Q : Nat} {I : zI} {L : zL} (hq : zpl Q) (v : Int32) : FCl Q I L (zu I 3 4 v) L :=
  ⟨fun p a b => zu_pf _ _ a, fun k a => zu_k _ _ a _, fun p a b => rfl⟩
def rg (p : Nat) : Nat := if p ≤ 108 then 24 else if p = 109 then 8 else if p ≤ 112 then 16 else if p ≤ 115 then 8 else 32
def FRf (J : zI) (M : zL) (J' : zI) (M' : zL) : Prop := (∀ p, p ≠ 97 → ¬ (106 ≤ p ∧ p ≤ 116) → J' p = J p) ∧ (∀ k, ¬ (46 ≤ k ∧ k ≤ 53) → J' 97 k = J 97 k) ∧ (∀ p, p ≠ 105 → p ≠ 113 → M' p = M p) ∧ ∀ p l, 106 ≤ p → p ≤ 116 → l < rg p → J' p l = J p l
theorem FRf.refl (J : zI) (M : zL) : FRf J M J M := ⟨fun _ _ _ => rfl, fun _ _ => rfl, fun _ _ _ => rfl, fun _ _ _ _ _ => rfl⟩
theorem FRf.trans {J J' J2 : zI} {M M' M2 : zL} (h : FRf J M J' M') (g : FRf J' M' J2 M2) : FRf J M J2 M2 :=
  ⟨fun p a b => by rw [g.1 p a b, h.1 p a b], fun k a => by rw [g.2.1 k a, h.2.1 k a], fun p a b => by rw [g.2.2.1 p a b, h.2.2.1 p a b], fun p l a b d => by rw [g.2.2.2 p l a b d, h.2.2.2 p l a b d]⟩
theorem CF.rf {J J' : zI} (h : CF J J') (M : zL) : FRf J M J' M := ⟨fun p a _ => h.1 p a, fun k a => h.2 k (by omega), fun _ _ _ => rfl, fun p l a b _ => by rw [h.1 p (by omega)]⟩
def cu (c : Nat → Nat) (i : Nat) : Nat → Nat := fun k => if k = i then c k + 1 else c k
def nu (N : Nat → Nat → List Nat) (a k : Nat) (g : List Nat) : Nat → Nat → List Nat := fun b l => if b = a ∧ l = k then g else N b l
section Ad
variable {Q : Nat} {G : zI} {c : Nat → Nat} {N : Nat → Nat → List Nat} {I J : zI} {L M : zL}
theorem zPC_L (hc : zPC Q G c N I L) {g : List Nat} {w a b : Int32} {I' : zI} {L' : zL} (eL : L' (Q + 1 + 0) (c 0) = z5c g) (eL2 : ∀ l, l < c 0 → L' (Q + 1 + 0) l = L (Q + 1 + 0) l) (eL3 : L' (Q + 1 + 8) = L (Q + 1 + 8)) (e12 : I' Q 12 = nI (c 0 + 1)) (eQ : ∀ k, 13 ≤ k → k ≤ 15 → I' Q k = I Q k) (e1 : I' (Q + 1 + 1) (c 0) = w) (e2 : I' (Q + 1 + 2) (c 0) = a) (e3 : I' (Q + 1 + 3) (c 0) = b) (eo : ∀ p l, 1 ≤ p → p ≤ 3 → l < c 0 → I' (Q + 1 + p) l = I (Q + 1 + p) l) (er : ∀ p, 4 ≤ p → p ≤ 11 → I' (Q + 1 + p) = I (Q + 1 + p)) :
    zPC Q (zu (zu (zu G 0 (c 0) w) 1 (c 0) a) 2 (c 0) b) (cu c 0) (nu N 0 (c 0) g) I' L' := by
  obtain ⟨p1, p2, p3, p4, p5⟩ := hc
  refine ⟨fun i hi => ?_, fun l hl => ?_, fun w hw => ?_, fun j hj => ?_, fun k hk => ?_⟩
  · by_cases z : i = 0
    · subst z; exact e12
    · rw [eQ (12 + i) (by omega) (by omega), p1 i hi]
      show nI (c i) = nI (if i = 0 then c i + 1 else c i)
      rw [if_neg z]
  · by_cases z : l = c 0
    · subst z
      refine ⟨by rw [eL]; simp [nu], by rw [e1]; simp [zu], by rw [e2]; simp [zu], by rw [e3]; simp [zu]⟩
    · have hl' : l < c 0 := by have : l < c 0 + 1 := hl; omega
      obtain ⟨r1, r2, r3, r4⟩ := p2 l hl'
      refine ⟨by rw [eL2 l hl', r1]; simp [nu, z], by rw [eo 1 l (by decide) (by decide) hl', r2]; simp [zu, z], by rw [eo 2 l (by decide) (by decide) hl', r3]; simp [zu, z], by rw [eo 3 l (by decide) (by decide) hl', r4]; simp [zu, z]⟩
  · have hw' : w < c 1 := hw
    rw [er 4 (by decide) (by decide), p3 w hw']; simp [zu]
  · have hj' : j < c 2 := hj
    obtain ⟨r1, r2, r3⟩ := p4 j hj'
    rw [er 5 (by decide) (by decide), er 6 (by decide) (by decide), er 7 (by decide) (by decide), r1, r2, r3]; simp [zu]
  · have hk' : k < c 3 := hk
    obtain ⟨r1, r2, r3, r4⟩ := p5 k hk'
    rw [er 9 (by decide) (by decide), er 10 (by decide) (by decide), er 11 (by decide) (by decide), eL3]
    refine ⟨by rw [r1]; simp [nu], by rw [r2]; simp [zu], by rw [r3]; simp [zu], fun i hi hlt => ?_⟩
    have hlt' : nI i < G 8 k := by simpa [zu] using hlt
    rw [r4 i hi hlt']; simp [zu]
theorem zPC_addL (hq : zpl Q) (hc : zPC Q G c N I L) (h24 : c 0 < 24) {g : List Nat} {w a b : Int32} : ∃ I' L', f_X7_addLayer Q (z5c g) w a b I L = some (I', L') ∧ FCl Q I L I' L' ∧ I' 3 = I 3 ∧ zPC Q (zu (zu (zu G 0 (c 0) w) 1 (c 0) a) 2 (c 0) b) (cu c 0) (nu N 0 (c 0) g) I' L' := by
  have h12 : I Q 12 = nI (c 0) := hc.1 0 (by decide)
  have hb : zbd (nI (c 0)) 24 = true := zbd_nI h24 (by decide)
  have hcl : (nI (c 0)).toNatClampNeg = c 0 := nI_clamp (by omega)
  have hQ3 : 3 ≠ Q ∧ ∀ k, 3 ≠ Q + 1 + k := by rcases hq with rfl | rfl <;> exact ⟨by omega, fun k => by omega⟩
  refine ⟨zu (zu (zu (zu I (Q + 1 + 1) (c 0) w) (Q + 1 + 2) (c 0) a) (Q + 1 + 3) (c 0) b) Q 12 (nI (c 0 + 1)), zul L (Q + 1 + 0) (c 0) (z5c g), ?_, ?_, ?_, zPC_L hc (zul_eq _ _ _ _) (fun l hl => zul_k _ _ (by omega) _) (zul_pf _ _ (by omega)) (zu_eq _ _ _ _) (fun k k1 k2 => ?_) ?_ ?_ ?_ (fun p l p1 p2 hl => ?_) (fun p p1 p2 => ?_)⟩
  · have q1 : ∀ v, zu I (Q + 1 + 1) (c 0) v Q 12 = nI (c 0) := fun v => by rw [zu_p _ _ (by omega)]; exact h12
    have q2 : ∀ v u, zu (zu I (Q + 1 + 1) (c 0) v) (Q + 1 + 2) (c 0) u Q 12 = nI (c 0) := fun v u => by rw [zu_p _ _ (by omega)]; exact q1 v
    have q3 : ∀ v u x, zu (zu (zu I (Q + 1 + 1) (c 0) v) (Q + 1 + 2) (c 0) u) (Q + 1 + 3) (c 0) x Q 12 = nI (c 0) := fun v u x => by rw [zu_p _ _ (by omega)]; exact q2 v u
    unfold f_X7_addLayer
    rw [h12, zck_t _ hb]
    simp only [zlt_b, hcl, q1, q2, q3, zck_t _ hb, nI_1]
  · exact ⟨fun p a b => by rw [zu_pf _ _ (by omega), zu_pf _ _ (by omega), zu_pf _ _ (by omega), zu_pf _ _ (by omega)], fun k a => by rw [zu_p _ _ hQ3.1, zu_p _ _ (hQ3.2 3), zu_p _ _ (hQ3.2 2), zu_p _ _ (hQ3.2 1)], fun p a b => zul_pf _ _ (by omega)⟩
  · rw [zu_pf _ _ hQ3.1, zu_pf _ _ (hQ3.2 3), zu_pf _ _ (hQ3.2 2), zu_pf _ _ (hQ3.2 1)]
  · rw [zu_k _ _ (by omega), zu_p _ _ (by omega), zu_p _ _ (by omega), zu_p _ _ (by omega)]
  · rw [zu_p _ _ (by omega), zu_p _ _ (by omega), zu_p _ _ (by omega), zu_eq]
  · rw [zu_p _ _ (by omega), zu_p _ _ (by omega), zu_eq]
  · rw [zu_p _ _ (by omega), zu_eq]
  · rw [zu_p _ _ (by omega), zu_k _ _ (by omega), zu_k _ _ (by omega), zu_k _ _ (by omega)]
  · rw [zu_pf _ _ (by omega), zu_pf _ _ (by omega), zu_pf _ _ (by omega), zu_pf _ _ (by omega)]
theorem zPM_addL (hm : zPM G c N J M) (h24 : c 0 < 24) {g : List Nat} {w a b : Int32} {J' : zI} {M' : zL} (eM : M' 105 (24 + c 0) = z27 g) (eM2 : ∀ l, l < c 0 → M' 105 (24 + l) = M 105 (24 + l)) (eM3 : M' 113 = M 113) (e50 : J' 97 50 = nI (c 0 + 1)) (e97 : ∀ k, 51 ≤ k → k ≤ 53 → J' 97 k = J 97 k) (e1 : J' 106 (24 + c 0) = w) (e2 : J' 107 (24 + c 0) = a) (e3 : ¬ w = 0 → J' 108 (24 + c 0) = b) (eo : ∀ p l, 106 ≤ p → p ≤ 108 → l < c 0 → J' p (24 + l) = J p (24 + l)) (er : ∀ p, 109 ≤ p → p ≤ 116 → J' p = J p) :
    zPM (zu (zu (zu G 0 (c 0) w) 1 (c 0) a) 2 (c 0) b) (cu c 0) (nu N 0 (c 0) g) J' M' := by
  obtain ⟨p1, p2, p3, p4, p5⟩ := hm
  refine ⟨fun i hi => ?_, fun l hl => ?_, fun w hw => ?_, fun j hj => ?_, fun k hk => ?_⟩
  · by_cases z : i = 0
    · subst z; exact e50
    · rw [e97 (50 + i) (by omega) (by omega), p1 i hi]
      show nI (c i) = nI (if i = 0 then c i + 1 else c i)
      rw [if_neg z]
  · by_cases z : l = c 0
    · subst z
      refine ⟨by rw [eM]; simp [nu], by rw [e1]; simp [zu], by rw [e2]; simp [zu], fun h => ?_⟩
      have h' : ¬ w = 0 := by simpa [zu] using h
      rw [e3 h']; simp [zu]
    · have hl' : l < c 0 := by have : l < c 0 + 1 := hl; omega
      obtain ⟨r1, r2, r3, r4⟩ := p2 l hl'
      refine ⟨by rw [eM2 l hl', r1]; simp [nu, z], by rw [eo 106 l (by decide) (by decide) hl', r2]; simp [zu, z], by rw [eo 107 l (by decide) (by decide) hl', r3]; simp [zu, z], fun h => ?_⟩
      have h' : ¬ G 0 l = 0 := by simpa [zu, z] using h
      rw [eo 108 l (by decide) (by decide) hl', r4 h']; simp [zu, z]
  · have hw' : w < c 1 := hw
    rw [er 109 (by decide) (by decide), p3 w hw']; simp [zu]
  · have hj' : j < c 2 := hj
    obtain ⟨r1, r2, r3⟩ := p4 j hj'
    rw [er 110 (by decide) (by decide), er 111 (by decide) (by decide), er 112 (by decide) (by decide), r1, r2, r3]; simp [zu]
  · have hk' : k < c 3 := hk
    obtain ⟨r1, r2, r3, r4⟩ := p5 k hk'
    rw [er 114 (by decide) (by decide), er 115 (by decide) (by decide), er 116 (by decide) (by decide), eM3]
    refine ⟨by rw [r1]; simp [nu], by rw [r2]; simp [zu], by rw [r3]; simp [zu], fun i hi hlt => ?_⟩
    have hlt' : nI i < G 8 k := by simpa [zu] using hlt
    rw [r4 i hi hlt']; simp [zu]
theorem zPG_addL (hg : zPG G c N) (h24 : c 0 < 24) {g : List Nat} (gg : gNm g) (gn : ∀ l, l < c 0 → N 0 l ≠ g) {w : Nat} {a b : Int32} (hw : w ≤ 3) (h0 : w = 0 → ∃ i, i < 65536 ∧ a = nI i) (h1 : w ≠ 0 → (∃ x, x < c 0 ∧ a = nI x) ∧ (∃ x, x < c 0 ∧ b = nI x)) :
    zPG (zu (zu (zu G 0 (c 0) (nI w)) 1 (c 0) a) 2 (c 0) b) (cu c 0) (nu N 0 (c 0) g) := by
  obtain ⟨⟨b0, b1, b2, b3⟩, p1, p2, p3, p4, p5, p6, p7, p8⟩ := hg
  have c0 : cu c 0 0 = c 0 + 1 := rfl
  have c1 : cu c 0 1 = c 1 := rfl
  have c2 : cu c 0 2 = c 2 := rfl
  have c3 : cu c 0 3 = c 3 := rfl
  unfold zPG
  rw [c0, c1, c2, c3]
  have nz : ∀ l, nu N 0 (c 0) g 0 l = if l = c 0 then g else N 0 l := fun l => by simp [nu]
  refine ⟨⟨by omega, b1, b2, b3⟩, fun l hl => ?_, fun l k hl hk e => ?_, fun k hk => ?_, fun l hl => ?_, fun v hv => ?_, fun v u hv hu e => ?_, fun j hj => ?_, fun k hk => ?_⟩
  · rw [nz]
    by_cases z : l = c 0
    · rw [if_pos z]; exact gg
    · rw [if_neg z]; exact p1 l (by omega)
  · rw [nz, nz] at e
    by_cases z : l = c 0
    · by_cases y : k = c 0
      · omega
      · rw [if_pos z, if_neg y] at e; exact absurd e.symm (gn k (by omega))
    · by_cases y : k = c 0
      · rw [if_neg z, if_pos y] at e; exact absurd e (gn l (by omega))
      · rw [if_neg z, if_neg y] at e; exact p2 l k (by omega) (by omega) e
  · have : nu N 0 (c 0) g 1 k = N 1 k := by simp [nu]
    rw [this]; exact p3 k hk
  · by_cases z : l = c 0
    · subst z
      refine ⟨w, hw, by simp [zu], fun q => ?_, fun q => ?_⟩
      · obtain ⟨i, i1, i2⟩ := h0 q; exact ⟨i, i1, by simp [zu, i2]⟩
      · obtain ⟨⟨x, x1, x2⟩, ⟨y, y1, y2⟩⟩ := h1 q
        exact ⟨⟨x, x1, by simp [zu, x2]⟩, ⟨y, y1, by simp [zu, y2]⟩⟩
    · have := p4 l (by omega)
      simpa [zu, z] using this
  · obtain ⟨l, l1, l2⟩ := p5 v hv
    exact ⟨l, by omega, by simpa [zu] using l2⟩
  · exact p6 v u hv hu (by simpa [zu] using e)
  · obtain ⟨⟨x, x1, x2⟩, ⟨y, y1, y2⟩, ⟨l, l1, l2⟩⟩ := p7 j hj
    exact ⟨⟨x, x1, by simpa [zu] using x2⟩, ⟨y, y1, by simpa [zu] using y2⟩, ⟨l, by omega, by simpa [zu] using l2⟩⟩
  · obtain ⟨⟨l, l1, l2⟩, p, q1, q2, q3, q4⟩ := p8 k hk
    refine ⟨⟨l, by omega, by simpa [zu] using l2⟩, p, q1, q2, by simpa [zu] using q3, fun i hi => ?_⟩
    obtain ⟨v, v1, v2⟩ := q4 i hi
    exact ⟨v, v1, by simpa [zu] using v2⟩
end Ad
/-! a chain of words -/
def chS (A : Nat → Prop) (k : Nat) : Prop := ∀ i, i < k → A i
def chF (A : Nat → Prop) (k i : Nat) : Prop := i < k ∧ (∀ h, h < i → A h) ∧ ¬ A i
theorem chF_u {A : Nat → Prop} {k l i h : Nat} (a : chF A k i) (b : chF A l h) : i = h := by
  rcases Nat.lt_trichotomy i h with z | z | z
  · exact absurd (b.2.1 i z) a.2.2
  · exact z
  · exact absurd (a.2.1 h z) b.2.2
theorem ch_or (A : Nat → Prop) : ∀ k, chS A k ∨ ∃ i, chF A k i
  | 0 => Or.inl fun i hi => absurd hi (by omega)
  | k + 1 => by
    rcases ch_or A k with h | ⟨i, h1, h2, h3⟩
    · by_cases z : A k
      · refine Or.inl fun i hi => ?_
        by_cases y : i = k
        · rw [y]; exact z
        · exact h i (by omega)
      · exact Or.inr ⟨k, by omega, h, z⟩
    · exact Or.inr ⟨i, by omega, h2, h3⟩
section Ch
variable {T : Nat → Nat} {n m : Nat} {F E : Nat → Nat} {A : Nat → Prop} {J : zI} {i j : Nat}
def zST (T : Nat → Nat) (n m : Nat) (F E : Nat → Nat) (A : Nat → Prop) (j i : Nat) (J : zI) : Prop := (chS A i ∧ RS T n m F E (j + i) 1 J) ∨ ∃ h, chF A i h ∧ RS T n m F E (j + h) 0 J
theorem ST_ex (hA : ∀ i, A i → j + i < m) (hj : j ≤ m) (h : zST T n m F E A j i J) : ∃ j0 r, (r = 0 ∨ r = 1) ∧ j0 ≤ m ∧ RS T n m F E j0 r J ∧ (r = 1 → j0 = j + i ∧ chS A i) ∧ (r = 0 → ∃ h, chF A i h ∧ j0 = j + h) := by
  have le : ∀ k, (∀ h, h < k → A h) → j + k ≤ m := fun k hk => by
    by_cases z : k = 0
    · omega
    · have := hA (k - 1) (hk (k - 1) (by omega)); omega
  rcases h with ⟨h1, h2⟩ | ⟨k, h1, h2⟩
  · exact ⟨j + i, 1, Or.inr rfl, le i h1, h2, fun _ => ⟨rfl, h1⟩, fun z => absurd z (by decide)⟩
  · exact ⟨j + k, 0, Or.inl rfl, le k h1.2.1, h2, fun z => absurd z (by decide), fun _ => ⟨k, h1, rfl⟩⟩
theorem ST_go {j0 r : Nat} (hr : r = 0 ∨ r = 1) (h1 : r = 1 → j0 = j + i ∧ chS A i) (h0 : r = 0 → ∃ h, chF A i h ∧ j0 = j + h) (hg : (r = 1 ∧ A i ∧ RS T n m F E (j0 + 1) 1 J) ∨ (¬ (r = 1 ∧ A i) ∧ RS T n m F E j0 0 J)) : zST T n m F E A j (i + 1) J := by
  rcases hg with ⟨a, b, d⟩ | ⟨a, b⟩
  · obtain ⟨e, f⟩ := h1 a
    refine Or.inl ⟨fun k hk => ?_, by rw [e] at d; exact d⟩
    by_cases z : k = i
    · rw [z]; exact b
    · exact f k (by omega)
  · rcases hr with rfl | rfl
    · obtain ⟨k, k1, k2⟩ := h0 rfl
      exact Or.inr ⟨k, ⟨by have := k1.1; omega, k1.2⟩, by rw [← k2]; exact b⟩
    · obtain ⟨e, f⟩ := h1 rfl
      exact Or.inr ⟨i, ⟨by omega, f, fun z => a ⟨rfl, z⟩⟩, by rw [← e]; exact b⟩
theorem ST_0 (h : RS T n m F E j 1 J) : zST T n m F E A j 0 J := Or.inl ⟨fun i hi => absurd hi (by omega), h⟩
end Ch
