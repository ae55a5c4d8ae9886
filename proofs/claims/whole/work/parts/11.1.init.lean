/-! the data at the start keep the invariant -/
theorem clp_0 (x : Int32) : ∃ n, 1 ≤ n ∧ n ≤ 65536 ∧ zclp x = nI n ∧ zmx 1 (zmn 65536 x) = nI n := by
  unfold zclp zmx zmn
  by_cases h1 : x < 1
  · refine ⟨1, by omega, by omega, by rw [if_pos h1]; rfl, ?_⟩
    have h2 : x < 65536 := Int32.lt_trans h1 (by decide)
    rw [if_pos h2, if_neg (fun h => by
      have := Int32.lt_trans h h1
      exact absurd this (by decide))]; rfl
  · rw [if_neg h1]
    by_cases h2 : 65536 < x
    · refine ⟨65536, by omega, by omega, by rw [if_pos h2]; rfl, ?_⟩
      rw [if_neg (fun h => Int32.lt_irrefl (Int32.lt_trans h h2)), if_pos (by decide)]; rfl
    · rw [if_neg h2]
      have h3 : ¬ x < 0 := fun h => h1 (Int32.lt_trans h (by decide))
      obtain ⟨j, j1, j2⟩ := nI_of2 (x := x) (M := 65536) (n := 65536) (by decide) h3 (Int32.not_lt.mp h2)
      subst j2
      have j0 : 1 ≤ j := Nat.le_of_not_lt fun h => h1 (by
        have : j = 0 := by omega
        subst this; decide)
      refine ⟨j, j0, j1, rfl, ?_⟩
      by_cases h4 : nI j < 65536
      · rw [if_pos h4]
        by_cases h5 : (1 : Int32) < nI j
        · rw [if_pos h5]
        · rw [if_neg h5]
          have : ¬ 1 < j := fun h => h5 (nI_lt (a := 1) h (by omega))
          have : j = 1 := by omega
          rw [this]; rfl
      · rw [if_neg h4, if_pos (by decide)]
        have : ¬ j < 65536 := fun h => h4 (nI_lt (b := 65536) h (by decide))
        have : j = 65536 := by omega
        rw [this]; rfl
theorem zu_0a {I : zI} {p k q j : Nat} {v : Int32} (h : p ≠ q) (g : I p k = 0) : zu I q j v p k = 0 := by rw [zu_p _ _ h]; exact g
theorem zu_0b {I : zI} {p k q j : Nat} (g : I p k = 0) : zu I q j (0 : Int32) p k = 0 := by
  unfold zu
  split
  · rfl
  · exact g
theorem inv_0 (x : Int32) : zInv (zu (lw_I1 x (fun _ _ => 0)) 97 1 (zclp x)) (fun _ _ => 0) := by
  obtain ⟨n, n1, n2, n3, n4⟩ := clp_0 x
  have z : ∀ p k, p ≠ 0 → p ≠ 3 → p ≠ 57 → p ≠ 97 → zu (lw_I1 x (fun _ _ => 0)) 97 1 (zclp x) p k = 0 := by
    intro p k h0 h3 h57 h97
    unfold lw_I1
    repeat first | rfl | refine zu_0b ?_ | refine zu_0a (by omega) ?_
  have z97 : ∀ k, k ≠ 1 → zu (lw_I1 x (fun _ _ => 0)) 97 1 (zclp x) 97 k = 0 := by
    intro k hk
    rw [zu_k _ _ hk]
    unfold lw_I1
    repeat first | rfl | refine zu_0b ?_ | refine zu_0a (by omega) ?_
  have e0 : nI 0 = 0 := nI_0
  refine ⟨84, 7, Or.inl ⟨rfl, rfl⟩, ?_, ?_, ⟨n, n1, n2, ?_, ?_, ?_⟩, ⟨0, by omega, ?_, ?_, fun k h => absurd h (by omega)⟩, ⟨0, by omega, ?_, ?_, fun p _ _ => ?_, fun p h => absurd h (by omega)⟩, ⟨0, by omega, ?_, ?_, fun t h => absurd h (by omega)⟩, ⟨0, 0, 0, 0, ⟨by omega, ?_, ?_, fun l h => absurd h (by omega)⟩, ⟨by omega, ?_, ?_, fun l h => absurd h (by omega)⟩, ⟨by omega, ?_, ?_, fun l h => absurd h (by omega)⟩, ⟨by omega, ?_, ?_, fun l h => absurd h (by omega)⟩⟩, ⟨Or.inl ⟨?_, ?_⟩, Or.inl ⟨?_, ?_⟩⟩, ⟨0, by omega, ?_, Or.inl ⟨?_, fun _ _ => rfl⟩⟩, fun h => ?_⟩
  · simp [lw_I1, zu]
  · simp [lw_I1, zu]
  · rw [← n4]; simp [lw_I1, zu]
  · rw [← n3]; simp [lw_I1, zu]
  · rw [← n4]; simp [lw_I1, zu]
  · rw [e0]; exact z 1 1 (by decide) (by decide) (by decide) (by decide)
  · rw [e0]; exact z97 29 (by decide)
  · rw [e0]; exact z 20 5 (by decide) (by decide) (by decide) (by decide)
  · rw [e0]; exact z97 2 (by decide)
  · rw [e0]; exact z 22 p (by decide) (by decide) (by decide) (by decide)
  · rw [e0]; exact z 26 0 (by decide) (by decide) (by decide) (by decide)
  · rw [e0]; exact z97 7 (by decide)
  · rw [e0]; exact z 84 12 (by decide) (by decide) (by decide) (by decide)
  · rw [e0]; exact z97 12 (by decide)
  · rw [e0]; exact z 84 13 (by decide) (by decide) (by decide) (by decide)
  · rw [e0]; exact z97 13 (by decide)
  · rw [e0]; exact z 84 14 (by decide) (by decide) (by decide) (by decide)
  · rw [e0]; exact z97 14 (by decide)
  · rw [e0]; exact z 84 15 (by decide) (by decide) (by decide) (by decide)
  · rw [e0]; exact z97 15 (by decide)
  · simp [lw_I1, zu]
  · exact z97 11 (by decide)
  · simp [lw_I1, zu]
  · exact z97 30 (by decide)
  · rw [e0]; simp [lw_I1, zu]
  · simp [lw_I1, zu]
  · simp [lw_I1, zu] at h
