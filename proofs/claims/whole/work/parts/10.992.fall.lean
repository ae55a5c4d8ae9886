/-! the class finds all devices, and all else -/
section Fe
variable {D : Nat → Nat → Nat} {P : Nat} {I0 : zI} {L0 : zL}
theorem fd_7 (hPl : zpl P) (hv : DV D) (hd : DC P D I0) (hH : HS D (Hc L0)) (hN : NW D I0) : ∀ r k I L f, k + r = D 0 3 → r < f → RPeel I L → I 73 7 = nI (dof D k) → dof D k ≤ 300 → DL D I k 0 → DFr D I k (dof D k) → FD I0 I → (∀ p, p ≠ 58 → p ≠ 60 → p ≠ 76 → L p = L0 p) →
    ∃ b I' L', zlp3 (f_X0_find_7 P) f (nI k) I L = some (b, I', L') ∧ RPeel I' L' ∧ FD I0 I' ∧ ((b = 0 ∧ 300 < dof D (D 0 3)) ∨ (b = 1 ∧ dof D (D 0 3) ≤ 300 ∧ I' 73 7 = nI (dof D (D 0 3)) ∧ DL D I' (D 0 3) 0 ∧ DFr D I' (D 0 3) (dof D (D 0 3))))
  | _, _, _, _, 0, _, h, _, _, _, _, _, _, _ => absurd h (by omega)
  | 0, k, I, L, f + 1, hk, _, hp, h73, ht, hDL, hDF, hF, hL => by
    have : k = D 0 3 := by omega
    subst this
    refine ⟨1, I, L, ?_, hp, hF, Or.inr ⟨rfl, ht, h73, hDL, hDF⟩⟩
    show f_X0_find_7 P _ (nI (D 0 3)) I L = _
    unfold f_X0_find_7
    rw [(hF.dc hPl hd).1 3 (by omega), if_pos (Int32.le_refl _)]
  | r + 1, k, I, L, f + 1, hk, hf, hp, h73, ht, hDL, hDF, hF, hL => by
    have ih := fun I L => fd_7 hPl hv hd hH hN r (k + 1) I L f (by omega) (by omega)
    have e1 : zlp3 (f_X0_find_7 P) (f + 1) (nI k) I L = f_X0_find_7 P (zlp3 (f_X0_find_7 P) f) (nI k) I L := rfl
    rw [e1]
    generalize zlp3 (f_X0_find_7 P) f = k1 at ih ⊢
    have hdI := hF.dc hPl hd
    have v4 := hv.1.2.2.2.1
    have v1 := hv.1.1
    obtain ⟨z1, z2, z3, z4⟩ := hv.2.2.2.2.1 k (by omega)
    obtain ⟨c1, c2, c3⟩ := hdI.2.2.2.2.2.1 k (by omega)
    have v9 : ∀ k', k' < D 0 3 → D 9 k' ≤ 4 := fun k' h => (hv.2.2.2.2.1 k' h).2.2.1
    have hb : zbd (nI k) 8 = true := zbd_nI (by omega) (by decide)
    have hcl : (nI k).toNatClampNeg = k := nI_clamp (by omega)
    obtain ⟨I6, L7, a1, a2, a3⟩ := c_popen (r := 33 + D 8 k) hp (by omega)
    have eS : SqS D (D 8 k) = fun q => q < 4096 ∧ bt (L (33 + D 8 k) (q / 64)) (q % 64) = true := by
      rw [SS_eq hv hH z1, hL (33 + D 8 k) (by omega) (by omega) (by omega)]; rfl
    rw [← eS] at a3
    unfold f_X0_find_7
    rw [hdI.1 3 (by omega), if_neg (nI_ge (by omega) (by omega)), zck_t _ hb, hcl, c1, zlt_b, zck_t _ (zbd_nI (by omega) (by decide)), nI_clamp (n := D 8 k) (by omega), a1, zb2_b, zck_t _ hb, zlt_b]
    have g6 : ∀ p, p ≠ 57 → p ≠ 59 → p ≠ 83 → zu I6 83 k 0 p = I p := fun p a b c => by rw [zu_pf _ _ c, a2.1 p a b]
    have o : OA I (zu I6 83 k 0) (dof D k) := fun d _ => by
      rw [g6 77 (by decide) (by decide) (by decide), g6 78 (by decide) (by decide) (by decide), g6 79 (by decide) (by decide) (by decide), g6 80 (by decide) (by decide) (by decide), g6 81 (by decide) (by decide) (by decide), g6 82 (by decide) (by decide) (by decide)]
      exact ⟨rfl, rfl, rfl, rfl, fun _ _ => rfl, fun _ _ => rfl⟩
    have dl : DL D (zu I6 83 k 0) k 0 := ⟨fun k' pl a b => (hDL.1 k' pl a b).oa (v9 _ (by omega)) (dof_lt a b) o, fun pl h => absurd h (by omega)⟩
    have := fd_45 (k7 := k1) (P := P) (I0 := I0) (L0 := L0) hPl hv (show k < D 0 3 by omega) hd hH hN 2048 0 (fun _ => 0) _ (zu I6 83 k 0) L7 zF (by omega) (zF_lt (by omega)) (pi_0 _) (a3.cg (zu_pf _ _ (by decide))) (by rw [g6 73 (by decide) (by decide) (by decide)]; exact h73) ht dl (fun kd hkd => ?_) (fun p a b c d e z => by rw [g6 p a b (by omega)]; exact hF p a b c d e z) (fun p a b c => by rw [a2.2 p a b]; exact hL p a b c)
    · obtain ⟨I', L', b1, b2, b3, b4⟩ := this
      rcases b4 with ⟨b5, b6⟩ | ⟨b5, b6, b7, b8, b9⟩
      · refine ⟨0, I', L', b5, b1, b2, Or.inl ⟨rfl, ?_⟩⟩
        have := dof_mono D (a := k + 1) (D 0 3) (by omega)
        omega
      · have b5 : zlp4 (f_X0_find_45 k1 P) zF (nI k) 0 (zu I6 83 k 0) L7 = _ := b5
        rw [b5]
        exact ih I' L' b1 b6 b7 b8 b9 b2 b3
    · show _ = nI (zCount _ (dof D k))
      by_cases w : kd = k
      · subst w
        rw [zu_eq, zCount_0 (dof D kd) (fun d hd h => ?_), nI_0]
        obtain ⟨k', pl, w1, w2, rfl⟩ := dof_dec kd d hd
        have w3 := (dl.1 k' pl w1 w2).1
        rw [h.1] at w3
        have := (nI_eq (by omega) (by omega)).mp w3; omega
      · rw [zu_k _ _ w, a2.1 83 (by decide) (by decide), hDF kd (by omega)]
        exact congrArg nI (zCount_cg _ (fun d hd => (zFresh_oa (v9 kd (by omega)) hd o).symm))
theorem c_fdev {I : zI} {L : zL} (hPl : zpl P) (hv : DV D) (hd : DC P D I) (hH : HS D (Hc L)) (hN : NW D I) (hp : RPeel I L) : ∃ b I' L', f_X0_find P I L = some (b, I', L') ∧ RPeel I' L' ∧ FD I I' ∧ ((b = 0 ∧ 300 < dof D (D 0 3)) ∨ (b = 1 ∧ dof D (D 0 3) ≤ 300 ∧ I' 73 7 = nI (dof D (D 0 3)) ∧ DL D I' (D 0 3) 0 ∧ DFr D I' (D 0 3) (dof D (D 0 3)))) := by
  unfold f_X0_find
  rw [zlt_b]
  exact fd_7 (I0 := I) (L0 := L) hPl hv hd hH hN (D 0 3) 0 _ L zF (by omega) (zF_lt (by have := hv.1.2.2.2.1; omega)) (hp.cg (by rw [zu_p _ _ (by decide)]) (by rw [zu_p _ _ (by decide)]) rfl) (zu_eq _ _ _ _) (Nat.zero_le _) ⟨fun k' _ h => absurd h (by omega), fun _ h => absurd h (by omega)⟩ (fun kd h => absurd h (by omega)) (fun p _ _ c _ _ _ => zu_pf _ _ c) (fun _ _ _ _ => rfl)
/-- what the class holds when it has found all -/
def SpecC (D : Nat → Nat → Nat) (I : zI) : Prop := dof D (D 0 3) ≤ 300 ∧ I 73 7 = nI (dof D (D 0 3)) ∧ DL D I (D 0 3) 0 ∧ DFr D I (D 0 3) (dof D (D 0 3)) ∧ NW D I ∧ NT D I
/-- places that the class's search leaves as they were -/
def FA (I I' : zI) : Prop := ∀ p, (p < 57 → p ≠ 30 → I' p = I p) ∧ (84 ≤ p → I' p = I p)
theorem zD_cg {P : Nat} {I I' : zI} (hP : zpl P) (e1 : ∀ p, 7 ≤ p → p ≤ 24 → I' p = I p) (e2 : ∀ p, 84 ≤ p → p ≤ 96 → I' p = I p) : zD P I' = zD P I := by
  have e : ∀ k, k ≤ 12 → I' (P + k) = I (P + k) := fun k hk => by
    rcases hP with rfl | rfl
    · exact e1 _ (by omega) (by omega)
    · exact e2 _ (by omega) (by omega)
  have q : ∀ k, k ≤ 11 → I' (P + 1 + k) = I (P + 1 + k) := fun k hk => by
    have := e (1 + k) (by omega)
    rw [show P + 1 + k = P + (1 + k) by omega]; exact this
  have q0 : I' P = I P := e 0 (by omega)
  funext a i
  unfold zD
  rw [q0, q 1 (by omega), q 2 (by omega), q 3 (by omega), q 4 (by omega), q 5 (by omega), q 6 (by omega), q 7 (by omega), q 9 (by omega), q 10 (by omega), q 11 (by omega), e1 20 (by omega) (by omega), e1 21 (by omega) (by omega), e1 22 (by omega) (by omega), e1 23 (by omega) (by omega), e1 24 (by omega) (by omega)]
theorem c_findAll {I : zI} {L : zL} (hPl : zpl P) (h8 : I 0 8 = nI (P + 1)) (hd : RDraw I) (hn : RNotes I) (hp : RPlan P I) (hpe : RPeel I L) : ∃ b I' L', f_X11_findAll P I L = some (b, I', L') ∧ RPeel I' L' ∧ FA I I' ∧ zD P I' = zD P I ∧ ((b = 0 ∧ 300 < dof (zD P I) (zD P I 0 3)) ∨ (b = 1 ∧ SpecC (zD P I) I')) := by
  obtain ⟨dc, dm, dv⟩ := zD_ok hp hd
  have P30 : P ≠ 30 := by rcases hPl with rfl | rfl <;> decide
  have v1 := dv.1.1
  obtain ⟨L1, a1, a2, a3⟩ := c_draw (L := L) dv dc
  have hpe1 : RPeel I L1 := hpe.cg rfl rfl (a2 58 (by decide) (by omega))
  obtain ⟨I2, L2, b1, b2, b3, b4, b5⟩ := c_find hPl dv dc a3 hpe1
  have dc2 := b4.dc hPl dc
  obtain ⟨I3, c1, c2, c3⟩ := c_fnets P30 dv b3 dc2 (hn.cg (by rw [b4 26 (by decide) (by decide) (by decide) (by omega)]) (by rw [b4 97 (by decide) (by decide) (by decide) (by omega)]) (fun p hp => b4 p (by omega) (by omega) (by omega) (by omega)))
  have dc3 : DC P (zD P I) I3 := dc2.cg hPl (fun p _ _ => c2 p (by omega)) (fun p _ _ => c2 p (by omega))
  have nw3 : NW (zD P I) I3 := b3.cg dv.1.2.1 (fun p _ _ => c2 p (by omega))
  obtain ⟨b, I4, L4, d1, d2, d3, d4⟩ := c_fdev hPl dv dc3 (HS_L dv a3 (fun l hl => b5 _ (by omega) (by omega))) nw3 (b2.cg (by rw [c2 57 (by decide)]) (by rw [c2 57 (by decide)]) rfl)
  have fa : FA I I4 := fun p => ⟨fun x y => by rw [d3 p (by omega) (by omega) (by omega) (by omega) (by omega) (by omega), c2 p y, b4 p (by omega) (by omega) (by omega) (by omega)], fun x => by rw [d3 p (by omega) (by omega) (by omega) (by omega) (by omega) (by omega), c2 p (by omega), b4 p (by omega) (by omega) (by omega) (by omega)]⟩
  have ez : zD P I4 = zD P I := zD_cg hPl (fun p x y => (fa p).1 (by omega) (by omega)) (fun p x y => (fa p).2 x)
  refine ⟨b, I4, L4, ?_, d2, fa, ez, ?_⟩
  · unfold f_X11_findAll
    have k8 : ∀ {J : zI}, J 0 = I 0 → decide (J 0 8 = nI (P + 1)) = true := fun {J} e => by rw [e, h8]; simp
    rw [zck_t _ (k8 rfl), a1, zb1_b, zck_t _ (k8 rfl), b1, zb2_b, zck_t _ (k8 (b4 0 (by decide) (by decide) (by decide) (by omega))), c1, zb1_b, zck_t _ (k8 (by rw [c2 0 (by decide), b4 0 (by decide) (by decide) (by decide) (by omega)])), d1, zb3_b]
    rcases d4 with ⟨rfl, -⟩ | ⟨rfl, -⟩ <;> rfl
  · rcases d4 with ⟨q1, q2⟩ | ⟨q1, q2, q3, q4, q5⟩
    · exact Or.inl ⟨q1, q2⟩
    · refine Or.inr ⟨q1, ?_⟩
      have g : ∀ p, 26 ≤ p → p ≤ 30 → I4 p = I3 p := fun p x y => d3 p (by omega) (by omega) (by omega) (by omega) (by omega) (by omega)
      exact ⟨q2, q3, q4, q5, d3.nw dv nw3, by unfold NT; rw [g 26 (by omega) (by omega), g 27 (by omega) (by omega), g 28 (by omega) (by omega), g 30 (by omega) (by omega)]; exact c3⟩
/-- what SpecC looks at -/
theorem SpecC.cg {I I' : zI} (hv : DV D) (h : SpecC D I) (e : ∀ p, (26 ≤ p ∧ p ≤ 30) ∨ (61 ≤ p ∧ p ≤ 83) → I' p = I p) : SpecC D I' := by
  have e3 : ∀ p, 26 ≤ p → p ≤ 30 → I' p = I p := fun p a b => e p (Or.inl ⟨a, b⟩)
  have e4 : ∀ p, 61 ≤ p → p ≤ 83 → I' p = I p := fun p a b => e p (Or.inr ⟨a, b⟩)
  obtain ⟨h1, h2, h3, h4, h5, h6⟩ := h
  have v9 : ∀ k', k' < D 0 3 → D 9 k' ≤ 4 := fun k' h => (hv.2.2.2.2.1 k' h).2.2.1
  have o : ∀ t, OA I I' t := fun t d _ => by
    rw [e4 77 (by omega) (by omega), e4 78 (by omega) (by omega), e4 79 (by omega) (by omega), e4 80 (by omega) (by omega), e4 81 (by omega) (by omega), e4 82 (by omega) (by omega)]
    exact ⟨rfl, rfl, rfl, rfl, fun _ _ => rfl, fun _ _ => rfl⟩
  refine ⟨h1, by rw [e4 73 (by omega) (by omega)]; exact h2, ⟨fun k' pl a b => (h3.1 k' pl a b).oa (v9 _ a) (Nat.lt_succ_self _) (o _), fun pl a => absurd a (by omega)⟩, fun kd hkd => ?_, h5.cg hv.1.2.1 (fun p a b => e4 p a (by omega)), ?_⟩
  · rw [e4 83 (by omega) (by omega), h4 kd hkd]
    exact congrArg nI (zCount_cg _ (fun d hd => (zFresh_oa (v9 kd hkd) hd (o _)).symm))
  · unfold NT
    rw [e3 26 (by omega) (by omega), e3 27 (by omega) (by omega), e3 28 (by omega) (by omega), e3 30 (by omega) (by omega)]; exact h6
/-- what was found is what is asked for -/
theorem Fnd.spec {I : zI} (hPl : zpl P) (h : Fnd P I) : ∃ D, DV D ∧ DC P D I ∧ SpecC D I := by
  obtain ⟨I0, L0, I1, L1, h1, h2, h3, h4, h5, h6, h7, h8, h9⟩ := h
  obtain ⟨b, I', L', a1, -, -, -, a5⟩ := c_findAll hPl h1 h2 h3 h4 h5
  rw [a1] at h6
  have e := Option.some.inj h6
  have eb : b = 1 := congrArg Prod.fst e
  have eI : I' = I1 := congrArg (fun x => x.2.1) e
  rcases a5 with ⟨a, -⟩ | ⟨-, a⟩
  · rw [eb] at a; exact absurd a n10
  · rw [eI] at a
    exact ⟨zD P I0, h8, h9, a.cg h8 h7⟩
end Fe
