/-! the class's nets are those asked for -/
def FN (I0 I : zI) : Prop := ∀ p, p ≠ 57 → p ≠ 59 → p ≠ 61 → ¬ (63 ≤ p ∧ p ≤ 72) → I p = I0 p
theorem FN.dc {P : Nat} {D : Nat → Nat → Nat} {I0 I : zI} (h : FN I0 I) (hP : zpl P) (hd : DC P D I0) : DC P D I := hd.cg hP (fun p _ _ => h p (by omega) (by omega) (by omega) (by omega)) (fun p _ _ => h p (by omega) (by omega) (by omega) (by omega))
/-- what run's nets look like -/
def NW (D : Nat → Nat → Nat) (I : zI) : Prop := (∀ w q, w < D 0 1 → q < 4096 → I (63 + w) q = nod D w q) ∧ (∀ m, m < ndn D → I 72 m = nI (gn D m)) ∧ I 61 1 = nI (nns D)
section Fi
variable {P : Nat} {D : Nat → Nat → Nat} {I0 : zI} {L0 : zL}
theorem fi_47 (hP : zpl P) (hv : DV D) (hd : DC P D I0) (hH : HS D (Hc L0)) : ∀ r j I L R f, j + r = D 0 2 → r < f → RPeel I L → UFR (ndn D) R I → RCl (ndn D) R (TT D j) → (∀ w q, w < D 0 1 → q < 4096 → I (63 + w) q = nod D w q) → FN I0 I → (∀ p, p ≠ 58 → p ≠ 60 → L p = L0 p) → ∃ I' L', zlp3 (f_X3_find_47 P) f (nI j) I L = some (I', L') ∧ RPeel I' L' ∧ NW D I' ∧ FN I0 I' ∧ (∀ p, p ≠ 58 → p ≠ 60 → L' p = L0 p)
  | _, _, _, _, _, 0, _, h, _, _, _, _, _, _ => absurd h (by omega)
  | 0, j, I, L, R, f + 1, hj, _, hp, hU, hC, hN, hF, hL => by
    have : j = D 0 2 := by omega
    subst this
    obtain ⟨k, g, I', a1, a2, a3, a4, a5, a6⟩ := c_number hU
    have hc := cls_cg a5 (fun q _ => rfl) (fun a b ha hb => hC a b ha hb)
    refine ⟨I', L, ?_, hp.cg (by rw [a6 57 (by decide) (by decide) (by decide)]) (by rw [a6 57 (by decide) (by decide) (by decide)]) rfl, ⟨fun w q hw hq => ?_, fun m hm => ?_, ?_⟩, fun p x y z u => ?_, hL⟩
    · show f_X3_find_47 P _ (nI (D 0 2)) I L = _
      unfold f_X3_find_47
      rw [(hF.dc hP hd).1 2 (by omega), if_pos (Int32.le_refl _), a1, zb1_b]
    · have := hv.1.2.1
      rw [a6 (63 + w) (by omega) (by omega) (by omega)]; exact hN w q hw hq
    · rw [a4 m hm]
      exact congrArg nI (cf_eq hc hm).symm
    · rw [a2]
      exact congrArg nI (ck_eq hc).symm
    · rw [a6 p (by omega) (by omega) z]; exact hF p x y z u
  | r + 1, j, I, L, R, f + 1, hj, hf, hp, hU, hC, hN, hF, hL => by
    have ih := fun I L R => fi_47 hP hv hd hH r (j + 1) I L R f (by omega) (by omega)
    have e1 : zlp3 (f_X3_find_47 P) (f + 1) (nI j) I L = f_X3_find_47 P (zlp3 (f_X3_find_47 P) f) (nI j) I L := rfl
    rw [e1]
    generalize zlp3 (f_X3_find_47 P) f = k1 at ih ⊢
    have hdI := hF.dc hP hd
    have v2 := hv.1.2.1
    have v3 := hv.1.2.2.1
    have v1 := hv.1.1
    obtain ⟨w1, w2, w3⟩ := hv.2.2.2.1 j (by omega)
    obtain ⟨c1, c2, c3⟩ := hdI.2.2.2.2.1 j (by omega)
    have hb : zbd (nI j) 16 = true := zbd_nI (by omega) (by decide)
    have hcl : (nI j).toNatClampNeg = j := nI_clamp (by omega)
    have eS : SqS D (D 7 j) = fun q => q < 4096 ∧ bt (L (33 + D 7 j) (q / 64)) (q % 64) = true := by
      rw [SS_eq hv hH w3, hL (33 + D 7 j) (by omega) (by omega)]; rfl
    have o1 : ∀ q, q < 4096 → I (63 + D 5 j) q = -1 ∨ ∃ x, x < ndn D ∧ I (63 + D 5 j) q = nI x := fun q hq => by rw [hN _ q w1 hq]; exact nod_or w1 q
    have o2 : ∀ q, q < 4096 → I (63 + D 6 j) q = -1 ∨ ∃ x, x < ndn D ∧ I (63 + D 6 j) q = nI x := fun q hq => by rw [hN _ q w2 hq]; exact nod_or w2 q
    obtain ⟨I', L', R', a1, a2, a3, a4, a5, a6⟩ := c_tie (r1 := 63 + D 5 j) (r2 := 63 + D 6 j) (r3 := 33 + D 7 j) (B0 := TT D j) ⟨by omega, by omega, by omega⟩ ⟨by omega, by omega, by omega⟩ (by omega) hp o1 o2 (fun a b ⟨i, _, h⟩ => ⟨h.1, h.2.1⟩) hU hC
    unfold f_X3_find_47
    rw [hdI.1 2 (by omega), if_neg (nI_ge (by omega) (by omega)), zck_t _ hb, hcl, c1, zlt_b, zck_t _ (zbd_nI (by omega) (by decide)), zck_t _ hb, c2, zlt_b, zck_t _ (zbd_nI (by omega) (by decide)), zck_t _ hb, c3, zlt_b, zck_t _ (zbd_nI (by omega) (by decide)), nI_clamp (by omega), nI_clamp (by omega), nI_clamp (by omega), a1, zb2_b, zlt_b, nI_1]
    rw [← eS] at a4
    have nqe : ∀ q x, q < 4096 → (nq (I (63 + D 5 j)) (I (63 + D 6 j)) q x ↔ nq (nod D (D 5 j)) (nod D (D 6 j)) q x) := fun q x hq => by unfold nq; rw [hN _ q w1 hq, hN _ q w2 hq]
    refine ih I' L' R' a2 a3 (RCl_cg a4 (fun a b ha hb => ⟨fun w => clo_mono (fun x y hxy => ?_) w, fun w => clo_mono (fun x y hxy => ?_) w⟩)) (fun w q hw hq => ?_) (fun p x y z u => ?_) (fun p x y => by rw [a6 p x y]; exact hL p x y)
    · rcases hxy with ⟨i, i1, i2⟩ | ⟨t1, t2, q, q', t3, t4, t5, t6, t7⟩
      · exact clo_b ⟨i, by omega, i2⟩
      · exact clo_b ⟨j, by omega, t1, t2, q, q', t3, t4, t5, (nqe q x t3.1).mp t6, (nqe q' y t4.1).mp t7⟩
    · obtain ⟨i, i1, i2⟩ := hxy
      by_cases z : i = j
      · subst z
        obtain ⟨t1, t2, q, q', t3, t4, t5, t6, t7⟩ := i2
        exact clo_b (Or.inr ⟨t1, t2, q, q', t3, t4, t5, (nqe q x t3.1).mpr t6, (nqe q' y t4.1).mpr t7⟩)
      · exact clo_b (Or.inl ⟨i, by omega, i2⟩)
    · rw [a5 (63 + w) (by omega) (by omega) (by omega)]; exact hN w q hw hq
    · rw [a5 p (by omega) x y]; exact hF p x y z u
theorem fi_7 (hP : zpl P) (hv : DV D) (hd : DC P D I0) (hH : HS D (Hc L0)) : ∀ r w I L f, w + r = D 0 1 → r < f → RPeel I L → (∀ v q, v < w → q < 4096 → I (63 + v) q = nod D v q) → I 61 6 = nI (fw D w) → (∀ i, i < fw D w → I 71 i = nI i) → FN I0 I → (∀ p, p ≠ 58 → p ≠ 60 → L p = L0 p) → ∃ I' L', zlp3 (f_X3_find_7 P) f (nI w) I L = some (I', L') ∧ RPeel I' L' ∧ NW D I' ∧ FN I0 I' ∧ (∀ p, p ≠ 58 → p ≠ 60 → L' p = L0 p)
  | _, _, _, _, 0, _, h, _, _, _, _, _, _ => absurd h (by omega)
  | 0, w, I, L, f + 1, hw, _, hp, hN, h6, h71, hF, hL => by
    have : w = D 0 1 := by omega
    subst this
    have hdI := hF.dc hP hd
    have hU : UFR (ndn D) (fun x => x) I := ⟨ndn_le hv, h6, fun x => x, fun _ => Nat.le_refl _, h71, fun x _ => rt_fix rfl _⟩
    have hC : RCl (ndn D) (fun x => x) (TT D 0) := fun a b _ _ => ⟨fun h => (show a = b from h) ▸ clo_r _ _, fun h => clo_inv (f := fun x => x) (fun x y ⟨j, hj, _⟩ => absurd hj (by omega)) h⟩
    have := fi_47 hP hv hd hH (D 0 2) 0 I L _ zF (by omega) (zF_lt (by have := hv.1.2.2.1; omega)) hp hU hC (fun w q hw hq => hN w q hw hq) hF hL
    show ∃ I' L', f_X3_find_7 P _ (nI (D 0 1)) I L = _ ∧ _
    unfold f_X3_find_7
    rw [hdI.1 1 (by omega), if_pos (Int32.le_refl _)]
    exact this
  | r + 1, w, I, L, f + 1, hw, hf, hp, hN, h6, h71, hF, hL => by
    have ih := fun I L => fi_7 hP hv hd hH r (w + 1) I L f (by omega) (by omega)
    have e1 : zlp3 (f_X3_find_7 P) (f + 1) (nI w) I L = f_X3_find_7 P (zlp3 (f_X3_find_7 P) f) (nI w) I L := rfl
    rw [e1]
    generalize zlp3 (f_X3_find_7 P) f = k1 at ih ⊢
    have hdI := hF.dc hP hd
    have v2 := hv.1.2.1
    have v1 := hv.1.1
    have w3 := hv.2.2.1 w (by omega)
    have c1 := hdI.2.2.2.1 w (by omega)
    have hfw := fw_le D w
    have hb : zbd (nI w) 8 = true := zbd_nI (by omega) (by decide)
    have hcl : (nI w).toNatClampNeg = w := nI_clamp (by omega)
    have eS : SqS D (D 4 w) = fun q => q < 4096 ∧ bt (L (33 + D 4 w) (q / 64)) (q % 64) = true := by
      rw [SS_eq hv hH w3, hL (33 + D 4 w) (by omega) (by omega)]; rfl
    obtain ⟨k, g, I', L', a1, a2, a3, a4, a5, a6⟩ := c_nodes (r1 := 63 + w) (r2 := 33 + D 4 w) (n0 := fw D w) ⟨by omega, by omega, by omega, by omega⟩ (by omega) (by omega) hp h6 h71
    rw [← eS] at a2 a4
    have ek : shk D (D 4 w) = k := ck_eq a2
    have ef : ∀ q, SqS D (D 4 w) q → shf D (D 4 w) q = g q := fun q hq => cf_eq a2 hq
    have e7 : f_X3_find_7 P k1 (nI w) I L = k1 (nI (w + 1)) I' L' := by
      unfold f_X3_find_7
      rw [hdI.1 1 (by omega), if_neg (nI_ge (by omega) (by omega)), zck_t _ hb, zck_t _ hb, hcl, c1, zlt_b, zck_t _ (zbd_nI (by omega) (by decide)), nI_clamp (by omega), a1, zb2_b, zlt_b, nI_1]
    rw [e7]
    obtain ⟨b1, b2, b3, b4, b5⟩ := a4
    have fe : fw D (w + 1) = fw D w + k := by show fw D w + shk D (D 4 w) = _; rw [ek]
    refine ih I' L' a5 (fun v q hv' hq => ?_) (by rw [fe]; exact b2) (by rw [fe]; exact b3) (fun p x y z u => by rw [b4 p x y z (by omega) (by omega)]; exact hF p x y z u) (fun p x y => by rw [a6 p x y]; exact hL p x y)
    by_cases z : v = w
    · subst z
      by_cases y : SqS D (D 4 v) q
      · rw [nod_t y, ef q y]; exact (b1 q hq).1 y
      · rw [nod_f y]; exact (b1 q hq).2 y
    · rw [b4 (63 + v) (by omega) (by omega) (by omega) (by omega) (by omega)]; exact hN v q (by omega) hq
theorem c_find {I : zI} {L : zL} (hP : zpl P) (hv : DV D) (hd : DC P D I) (hH : HS D (Hc L)) (hp : RPeel I L) : ∃ I' L', f_X3_find P I L = some (I', L') ∧ RPeel I' L' ∧ NW D I' ∧ FN I I' ∧ (∀ p, p ≠ 58 → p ≠ 60 → L' p = L p) := by
  unfold f_X3_find
  rw [zlt_b]
  exact fi_7 hP hv hd hH (D 0 1) 0 _ L zF (by omega) (zF_lt (by have := hv.1.2.1; omega)) (hp.cg (by rw [zu_p _ _ (by decide)]) (by rw [zu_p _ _ (by decide)]) rfl) (fun v _ h => absurd h (by omega)) (zu_eq _ _ _ _) (fun i h => absurd (show i < 0 from h) (by omega)) (fun p _ _ c _ => zu_pf _ _ c) (fun _ _ _ => rfl)
end Fi
