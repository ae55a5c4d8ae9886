/-! what each part looks at -/
theorem RIn.cg {I J : zI} (h : RIn I) (e1 : J 0 0 = I 0 0) (e2 : J 97 1 = I 97 1) (e3 : J 3 1 = I 3 1) : RIn J := by
  unfold RIn at *; rw [e1, e2, e3]; exact h
theorem RTape.cg {I J : zI} (h : RTape I) (e1 : J 1 1 = I 1 1) (e2 : J 97 29 = I 97 29) (e3 : J 2 = I 2) (e4 : J 117 = I 117) : RTape J := by
  unfold RTape at *; rw [e1, e2, e3, e4]; exact h
theorem RDraw.cg {I J : zI} (h : RDraw I) (e1 : J 20 5 = I 20 5) (e2 : J 97 2 = I 97 2) (e : ∀ p, p = 21 ∨ p = 22 ∨ p = 23 ∨ p = 24 ∨ p = 98 ∨ p = 99 ∨ p = 100 ∨ p = 101 → J p = I p) : RDraw J := by
  unfold RDraw at *
  rw [e1, e2, e 21 (by simp), e 22 (by simp), e 23 (by simp), e 24 (by simp), e 98 (by simp), e 99 (by simp), e 100 (by simp), e 101 (by simp)]; exact h
theorem RNotes.cg {I J : zI} (h : RNotes I) (e1 : J 26 0 = I 26 0) (e2 : J 97 7 = I 97 7) (e : ∀ p, p = 27 ∨ p = 28 ∨ p = 29 ∨ p = 102 ∨ p = 103 ∨ p = 104 → J p = I p) : RNotes J := by
  unfold RNotes at *
  rw [e1, e2, e 27 (by simp), e 28 (by simp), e 29 (by simp), e 102 (by simp), e 103 (by simp), e 104 (by simp)]; exact h
theorem RPlan.cg {P : Nat} {I J : zI} (h : RPlan P I) (e1 : ∀ k, 12 ≤ k → k < 16 → J P k = I P k) (e2 : ∀ k, 12 ≤ k → k < 16 → J 97 k = I 97 k) (e3 : ∀ k, k < 12 → J (P + 1 + k) = I (P + 1 + k)) (e : ∀ p, 106 ≤ p → p ≤ 116 → p ≠ 113 → J p = I p) : RPlan P J := by
  unfold RPlan RLay RWir RJoi RKin at *
  rw [e1 12 (by omega) (by omega), e1 13 (by omega) (by omega), e1 14 (by omega) (by omega), e1 15 (by omega) (by omega), e2 12 (by omega) (by omega), e2 13 (by omega) (by omega), e2 14 (by omega) (by omega), e2 15 (by omega) (by omega),
    e3 1 (by omega), e3 2 (by omega), e3 3 (by omega), e3 4 (by omega), e3 5 (by omega), e3 6 (by omega), e3 7 (by omega), e3 9 (by omega), e3 10 (by omega), e3 11 (by omega),
    e 106 (by omega) (by omega) (by omega), e 107 (by omega) (by omega) (by omega), e 108 (by omega) (by omega) (by omega), e 109 (by omega) (by omega) (by omega), e 110 (by omega) (by omega) (by omega), e 111 (by omega) (by omega) (by omega), e 112 (by omega) (by omega) (by omega), e 114 (by omega) (by omega) (by omega), e 115 (by omega) (by omega) (by omega), e 116 (by omega) (by omega) (by omega)]
  exact h
theorem RFlag.cg {I J : zI} (h : RFlag I) (e1 : J 0 9 = I 0 9) (e2 : J 97 11 = I 97 11) (e3 : J 0 10 = I 0 10) (e4 : J 97 30 = I 97 30) : RFlag J := by
  unfold RFlag at *; rw [e1, e2, e3, e4]; exact h
theorem RPeel.cg {I J : zI} {L M : zL} (h : RPeel I L) (e1 : J 57 3 = I 57 3) (e2 : J 57 4 = I 57 4) (e3 : M 58 = L 58) : RPeel J M := by
  unfold RPeel at *; rw [e1, e2, e3]; exact h
theorem RFound.cg {P : Nat} {I J : zI} {L M : zL} (h : RFound P I L) (e1 : J 97 38 = I 97 38) (e2 : J 97 39 = I 97 39) (e3 : J P 13 = I P 13) (e4 : J P 15 = I P 15) (e5 : J 26 0 = I 26 0)
    (e6 : J 73 7 = I 73 7) (e7 : J 61 1 = I 61 1) (e : ∀ p, p = 27 ∨ p = 28 ∨ p = 30 ∨ p = 72 ∨ p = 77 ∨ p = 78 ∨ p = 79 ∨ p = 80 ∨ p = 81 ∨ p = 82 ∨ p = 83 ∨ p = 109 ∨ p = 115 ∨ p = 119 ∨ p = 121 ∨ p = 123 ∨ p = 124 ∨ p = 125 ∨ p = 126 ∨ p = 127 ∨ p = 128 ∨ (63 ≤ p ∧ p < 71) → J p = I p) (e8 : M 129 = L 129) : RFound P J M := by
  have hn : ∀ x, zNet J x = zNet I x := fun x => by unfold zNet; rw [e 123 (by omega)]
  have hd : ∀ w q, zNode J w q = zNode I w q := fun w q => by unfold zNode; rw [e 119 (by omega), e 109 (by omega), e 121 (by omega)]
  have hf : zFresh J = zFresh I := by funext c kd d; unfold zFresh zSame; rw [e 77 (by omega), e 79 (by omega), e 82 (by omega)]
  obtain ⟨D, nn, nd, nw, nk, h1, h2, h3, h4, h5, h6, h7, h8, h9, h10, h11, h12, h13, h14, h15, h16⟩ := h
  refine ⟨D, nn, nd, nw, nk, h1, h2, h3, h4, h5, e6 ▸ h6, e2 ▸ h7, e7 ▸ h8, e1 ▸ h9, e3 ▸ h10, e4 ▸ h11, ?_, ?_, ?_, ?_, ?_⟩
  · intro d hD
    have := h12 d hD
    unfold RDev at *
    simp only [hn]
    rw [e 77 (by omega), e 124 (by omega), e 78 (by omega), e 125 (by omega), e 79 (by omega), e 127 (by omega), e 80 (by omega), e 126 (by omega), e 81 (by omega), e 82 (by omega), e 115 (by omega), e 128 (by omega), e8]
    exact this
  · rw [e 115 (by omega), e 83 (by omega), hf]; exact h13
  · rw [e 72 (by omega), e 123 (by omega)]; exact h14
  · intro w q hw hq
    rw [e (63 + w) (by omega), hd]; exact h15 w q hw hq
  · rw [e5, e 27 (by omega), e 28 (by omega), e 30 (by omega)]
    simp only [hn, hd]
    exact h16
theorem DC.cgP {P : Nat} {D : Nat → Nat → Nat} {I I' : zI} (h : DC P D I) (e : ∀ k, k ≤ 12 → I' (P + k) = I (P + k)) (e1 : ∀ p, 20 ≤ p → p ≤ 24 → I' p = I p) : DC P D I' := by
  have q : ∀ k, k ≤ 11 → I' (P + 1 + k) = I (P + 1 + k) := fun k hk => by
    have := e (1 + k) (by omega)
    rw [show P + 1 + k = P + (1 + k) by omega]; exact this
  have q0 : I' P = I P := e 0 (by omega)
  unfold DC at *
  rw [q0, q 1 (by omega), q 2 (by omega), q 3 (by omega), q 4 (by omega), q 5 (by omega), q 6 (by omega), q 7 (by omega), q 9 (by omega), q 10 (by omega), q 11 (by omega), e1 20 (by omega) (by omega), e1 21 (by omega) (by omega), e1 22 (by omega) (by omega), e1 23 (by omega) (by omega), e1 24 (by omega) (by omega)]
  exact h
theorem Fnd.cg {P : Nat} {I J : zI} (h : Fnd P I) (e : ∀ p, (26 ≤ p ∧ p ≤ 30) ∨ (61 ≤ p ∧ p ≤ 83) → J p = I p) (d : ∀ D, DV D → DC P D I → DC P D J) : Fnd P J := by
  obtain ⟨I0, L0, I1, L1, h1, h2, h3, h4, h5, h6, h7, h8, h9⟩ := h
  exact ⟨I0, L0, I1, L1, h1, h2, h3, h4, h5, h6, fun p hp => by rw [e p hp]; exact h7 p hp, h8, d _ h8 h9⟩
/-- a change of the tape alone -/
theorem inv_tape {P Q : Nat} {I J : zI} {L M : zL} (hp : zpq P Q) (h : zInvP P Q I L) (hJ : ∀ p, p ≠ 1 → p ≠ 2 → p ≠ 97 → p ≠ 117 → J p = I p) (h97 : ∀ k, k ≠ 0 → k ≠ 29 → J 97 k = I 97 k) (hM : ∀ p, p ≠ 133 → M p = L p) (ht : RTape J) : zInvP P Q J M := by
  obtain ⟨h1, h2, h3, h4, h5, h6, h7, h8, h9, h10⟩ := h
  have hP : P ≠ 1 ∧ P ≠ 2 ∧ P ≠ 97 ∧ P ≠ 117 ∧ ∀ k, k < 12 → (P + 1 + k ≠ 1 ∧ P + 1 + k ≠ 2 ∧ P + 1 + k ≠ 97 ∧ P + 1 + k ≠ 117) := by rcases hp with ⟨rfl, -⟩ | ⟨rfl, -⟩ <;> (refine ⟨by omega, by omega, by omega, by omega, fun k hk => ?_⟩; omega)
  have g : ∀ p, p ≠ 1 → p ≠ 2 → p ≠ 97 → p ≠ 117 → ∀ k, J p k = I p k := fun p a b c d k => by rw [hJ p a b c d]
  refine ⟨by rw [g 0 (by decide) (by decide) (by decide) (by decide)]; exact h1, by rw [g 3 (by decide) (by decide) (by decide) (by decide)]; exact h2, h3.cg (g 0 (by decide) (by decide) (by decide) (by decide) _) (h97 1 (by decide) (by decide)) (g 3 (by decide) (by decide) (by decide) (by decide) _), ht,
    h5.cg (g 20 (by decide) (by decide) (by decide) (by decide) _) (h97 2 (by decide) (by decide)) (fun p hp => hJ p (by omega) (by omega) (by omega) (by omega)), h6.cg (g 26 (by decide) (by decide) (by decide) (by decide) _) (h97 7 (by decide) (by decide)) (fun p hp => hJ p (by omega) (by omega) (by omega) (by omega)),
    h7.cg (fun k _ _ => g P hP.1 hP.2.1 hP.2.2.1 hP.2.2.2.1 k) (fun k a b => h97 k (by omega) (by omega)) (fun k hk => hJ _ (hP.2.2.2.2 k hk).1 (hP.2.2.2.2 k hk).2.1 (hP.2.2.2.2 k hk).2.2.1 (hP.2.2.2.2 k hk).2.2.2) (fun p a b c => hJ p (by omega) (by omega) (by omega) (by omega)),
    h8.cg (g 0 (by decide) (by decide) (by decide) (by decide) _) (h97 11 (by decide) (by decide)) (g 0 (by decide) (by decide) (by decide) (by decide) _) (h97 30 (by decide) (by decide)), h9.cg (g 57 (by decide) (by decide) (by decide) (by decide) _) (g 57 (by decide) (by decide) (by decide) (by decide) _) (hM 58 (by decide)), ?_⟩
  rw [g 0 (by decide) (by decide) (by decide) (by decide)]
  intro hf
  refine ⟨(h10 hf).1.cg (h97 38 (by decide) (by decide)) (h97 39 (by decide) (by decide)) (g P hP.1 hP.2.1 hP.2.2.1 hP.2.2.2.1 _) (g P hP.1 hP.2.1 hP.2.2.1 hP.2.2.2.1 _) (g 26 (by decide) (by decide) (by decide) (by decide) _) (g 73 (by decide) (by decide) (by decide) (by decide) _) (g 61 (by decide) (by decide) (by decide) (by decide) _) (fun p hp => hJ p (by omega) (by omega) (by omega) (by omega)) (hM 129 (by decide)), (h10 hf).2.cg (fun p hp => hJ p (by omega) (by omega) (by omega) (by omega)) (fun D _ hd => hd.cgP (fun k hk => ?_) (fun p _ _ => hJ p (by omega) (by omega) (by omega) (by omega)))⟩
  rcases hp with ⟨rfl, -⟩ | ⟨rfl, -⟩ <;> exact hJ _ (by omega) (by omega) (by omega) (by omega)
/-- a change of the reference's code and of the law's out alone -/
theorem inv_code {P Q : Nat} {I J : zI} {L M : zL} (hp : zpq P Q) (h : zInvP P Q I L) (hJ : ∀ p, p ≠ 97 → J p = I p) (h97 : ∀ k, k ≠ 0 → J 97 k = I 97 k) (hM : ∀ p, p ≠ 133 → M p = L p) : zInvP P Q J M :=
  inv_tape hp h (fun p _ _ a _ => hJ p a) (fun k a _ => h97 k a) hM (h.2.2.2.1.cg (by rw [hJ 1 (by decide)]) (h97 29 (by decide)) (hJ 2 (by decide)) (hJ 117 (by decide)))
