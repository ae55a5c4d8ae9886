/-! the class finds devices -/
theorem sz_Q {Qu : Nat → Nat} : ∀ e, (∀ i, i < e → Qu i < 4096) → (∀ i j, i < e → j < e → Qu i = Qu j → i = j) → smm (fun s => ivp (inQ Qu e s)) 4096 = e
  | 0, _, _ => sm_0 _ (fun i _ => iv_f (fun ⟨j, hj, _⟩ => absurd hj (by omega)))
  | e + 1, h1, h2 => by
    have ih := sz_Q e (fun i hi => h1 i (by omega)) (fun i j hi hj => h2 i j (by omega) (by omega))
    have e1 : smm (fun s => ivp (inQ Qu (e + 1) s)) 4096 = smm (fun s => ivp (inQ Qu e s) + ivp (s = Qu e ∧ True)) 4096 := sm_cg _ (fun s _ => by
      rw [← iv_or]
      · refine iv_cg ⟨fun ⟨i, i1, i2⟩ => ?_, fun h => ?_⟩
        · by_cases z : i = e
          · subst z; exact Or.inr ⟨i2.symm, trivial⟩
          · exact Or.inl ⟨i, by omega, i2⟩
        · rcases h with ⟨i, i1, i2⟩ | ⟨h, -⟩
          · exact ⟨i, by omega, i2⟩
          · exact ⟨e, by omega, h.symm⟩
      · rintro ⟨⟨i, i1, i2⟩, h, -⟩
        have := h2 i e (by omega) (by omega) (by rw [i2, h]); omega)
    rw [e1, sm_add, ih, sm_one, if_pos (h1 e (by omega)), iv_t trivial]
/-- a beginning of a numbering -/
theorem pi_sh {S : Nat → Prop} {k : Nat} {g : Nat → Nat} {R : Nat → Prop} (h4 : ∀ q, S q → q < 4096) (h : PIt S k g R) : (∀ q, S q → ¬ R q → cfn S (clo (bes S)) q = g q) ∧ (∀ q, R q → k ≤ cfn S (clo (bes S)) q) := by
  obtain ⟨g2, k2, hc⟩ := cls_ex (S := R) (clo_r (bes S)) (fun _ _ => clo_s) (fun _ _ _ => clo_t) 4096
  have hc : cls R (clo (bes S)) g2 k2 := cls_cS hc (fun q => ⟨fun w => w.1, fun w => ⟨w, h4 q (h.1 q w)⟩⟩)
  have ft : ∀ q, R q → fadd (fun q => ¬ R q) 0 (fun q => k + g2 q) q = k + g2 q := fun q hq => fadd_f (fun w => w hq)
  let hh : Nat → Nat := fun q => @ite _ (R q) (Classical.propDecidable _) (k + g2 q) (g q)
  have hR : ∀ q, R q → hh q = k + g2 q := fun q hq => if_pos hq
  have hN : ∀ q, ¬ R q → hh q = g q := fun q hq => if_neg hq
  have key : cls S (clo (bes S)) hh (k + k2) := by
    refine ⟨fun q hq => ?_, fun a b ha hb => ?_, fun n hn => ?_, fun n b hb hn => ?_⟩
    · by_cases z : R q
      · rw [hR q z]; have := hc.1 q z; omega
      · rw [hN q z]; have := h.2.2.1.1 q ⟨hq, z⟩; omega
    · by_cases za : R a <;> by_cases zb : R b
      · rw [hR a za, hR b zb, ← hc.2.1 a b za zb]; omega
      · rw [hR a za, hN b zb]
        have := h.2.2.1.1 b ⟨hb, zb⟩
        exact ⟨fun w => by omega, fun w => absurd ((pi_clo h ha w).mp za) zb⟩
      · rw [hN a za, hR b zb]
        have := h.2.2.1.1 a ⟨ha, za⟩
        exact ⟨fun w => by omega, fun w => absurd ((pi_clo h ha w).mpr zb) za⟩
      · rw [hN a za, hN b zb]; exact h.2.2.1.2.1 a b ⟨ha, za⟩ ⟨hb, zb⟩
    · by_cases z : n < k
      · obtain ⟨q, q1, q2⟩ := h.2.2.1.2.2.1 n z
        exact ⟨q, q1.1, by rw [hN q q1.2]; exact q2⟩
      · obtain ⟨q, q1, q2⟩ := hc.2.2.1 (n - k) (by omega)
        exact ⟨q, h.1 q q1, by rw [hR q q1]; omega⟩
    · by_cases zb : R b
      · rw [hR b zb] at hn
        by_cases z : n < k
        · obtain ⟨a, a1, a2, a3⟩ := h.2.2.2 n z
          exact ⟨a, a1.1, a3 b zb, by rw [hN a a1.2]; exact a2⟩
        · obtain ⟨a, a1, a2, a3⟩ := hc.2.2.2 (n - k) b zb (by omega)
          exact ⟨a, h.1 a a1, a2, by rw [hR a a1]; omega⟩
      · rw [hN b zb] at hn
        obtain ⟨a, a1, a2, a3⟩ := h.2.2.1.2.2.2 n b ⟨hb, zb⟩ hn
        exact ⟨a, a1.1, a2, by rw [hN a a1.2]; exact a3⟩
  exact ⟨fun q hq hr => by rw [cf_eq key hq, hN q hr], fun q hr => by rw [cf_eq key (h.1 q hr), hR q hr]; omega⟩
/-- the first device of a kind -/
noncomputable def dof (D : Nat → Nat → Nat) : Nat → Nat
  | 0 => 0
  | k + 1 => dof D k + shk D (D 8 k)
theorem dof_mono (D : Nat → Nat → Nat) {a : Nat} : ∀ b, a ≤ b → dof D a ≤ dof D b
  | 0, h => by
    have : a = 0 := by omega
    subst this; exact Nat.le_refl _
  | b + 1, h => by
    by_cases z : a = b + 1
    · subst z; exact Nat.le_refl _
    · have := dof_mono D b (show a ≤ b by omega); show _ ≤ dof D b + shk D (D 8 b); omega
theorem dof_lt {D : Nat → Nat → Nat} {k k' pl : Nat} (h : k' < k) (hp : pl < shk D (D 8 k')) : dof D k' + pl < dof D k := by
  have := dof_mono D (a := k' + 1) k (by omega)
  have : dof D (k' + 1) = dof D k' + shk D (D 8 k') := rfl
  omega
theorem dof_dec {D : Nat → Nat → Nat} : ∀ k d, d < dof D k → ∃ k' pl, k' < k ∧ pl < shk D (D 8 k') ∧ d = dof D k' + pl
  | 0, d, h => absurd (show d < 0 from h) (by omega)
  | k + 1, d, h => by
    have h : d < dof D k + shk D (D 8 k) := h
    by_cases z : d < dof D k
    · obtain ⟨k', pl, a, b, c⟩ := dof_dec k d z
      exact ⟨k', pl, by omega, b, c⟩
    · exact ⟨k, d - dof D k, by omega, by omega, by omega⟩
def DL (D : Nat → Nat → Nat) (I : zI) (k p : Nat) : Prop := (∀ k' pl, k' < k → pl < shk D (D 8 k') → DevX D (PlSq D (D 8 k') pl) I (dof D k' + pl) k' pl) ∧ ∀ pl, pl < p → DevX D (PlSq D (D 8 k) pl) I (dof D k + pl) k pl
def DFr (D : Nat → Nat → Nat) (I : zI) (k t : Nat) : Prop := ∀ kd, kd < k → I 83 kd = nI (zCount (zFresh I (D 9 kd) kd) t)
def FD (I0 I : zI) : Prop := ∀ p, p ≠ 57 → p ≠ 59 → p ≠ 73 → p ≠ 74 → p ≠ 75 → ¬ (77 ≤ p ∧ p ≤ 83) → I p = I0 p
theorem FD.dc {P : Nat} {D : Nat → Nat → Nat} {I0 I : zI} (h : FD I0 I) (hP : zpl P) (hd : DC P D I0) : DC P D I := hd.cg hP (fun p _ _ => h p (by omega) (by omega) (by omega) (by omega) (by omega) (by omega)) (fun p _ _ => h p (by omega) (by omega) (by omega) (by omega) (by omega) (by omega))
theorem FD.nw {D : Nat → Nat → Nat} {I0 I : zI} (h : FD I0 I) (hv : DV D) (hd : NW D I0) : NW D I := hd.cg hv.1.2.1 (fun p _ _ => h p (by omega) (by omega) (by omega) (by omega) (by omega) (by omega))
theorem PR.cL {R : Nat → Prop} {I : zI} {L L' : zL} (h : PR R I L) (e1 : L' 58 = L 58) (e2 : L' 60 = L 60) : PR R I L' := ⟨h.1.cg rfl rfl e1, by rw [e2]; exact h.2.1, h.2.2⟩
section Fd
variable {D : Nat → Nat → Nat} {P k : Nat} {I0 : zI} {L0 : zL}
theorem fd_45 {k7 : Int32 → zI → zL → Option (Int32 × zI × zL)} (hPl : zpl P) (hv : DV D) (hk : k < D 0 3) (hd : DC P D I0) (hH : HS D (Hc L0)) (hN : NW D I0) : ∀ r pl g Rm I L f, pl + r = 2048 → r < f → PIt (SqS D (D 8 k)) pl g Rm → PR Rm I L → I 73 7 = nI (dof D k + pl) → dof D k + pl ≤ 300 → DL D I k pl → DFr D I (k + 1) (dof D k + pl) → FD I0 I → (∀ p, p ≠ 58 → p ≠ 60 → p ≠ 76 → L p = L0 p) →
    ∃ I' L', RPeel I' L' ∧ FD I0 I' ∧ (∀ p, p ≠ 58 → p ≠ 60 → p ≠ 76 → L' p = L0 p) ∧ ((zlp4 (f_X0_find_45 k7 P) f (nI k) (nI pl) I L = some (0, I', L') ∧ 300 < dof D (k + 1)) ∨ (zlp4 (f_X0_find_45 k7 P) f (nI k) (nI pl) I L = k7 (nI (k + 1)) I' L' ∧ I' 73 7 = nI (dof D (k + 1)) ∧ dof D (k + 1) ≤ 300 ∧ DL D I' (k + 1) 0 ∧ DFr D I' (k + 1) (dof D (k + 1))))
  | _, _, _, _, _, _, 0, _, h, _, _, _, _, _, _, _, _ => absurd h (by omega)
  | r, pl, g, Rm, I, L, f + 1, hr, hf, hPI, hPR, h73, ht, hDL, hDF, hF, hL => by
    have e1 : zlp4 (f_X0_find_45 k7 P) (f + 1) (nI k) (nI pl) I L = f_X0_find_45 k7 P (zlp4 (f_X0_find_45 k7 P) f) (nI k) (nI pl) I L := rfl
    rw [e1]
    generalize hk1 : zlp4 (f_X0_find_45 k7 P) f = k1
    have h4 : ∀ q, SqS D (D 8 k) q → q < 4096 := fun q h => h.1
    have psh := pi_sh h4 hPI
    have fin : ∀ {I' : zI} {L' : zL}, (∀ q, ¬ Rm q) → FP I L I' L' → RPeel I' L' → RPeel I' L' ∧ FD I0 I' ∧ (∀ p, p ≠ 58 → p ≠ 60 → p ≠ 76 → L' p = L0 p) ∧ I' 73 7 = nI (dof D (k + 1)) ∧ dof D (k + 1) ≤ 300 ∧ DL D I' (k + 1) 0 ∧ DFr D I' (k + 1) (dof D (k + 1)) := by
      intro I' L' he hf' hp
      have es : shk D (D 8 k) = pl := ck_eq (pi_end hPI he)
      have ed : dof D (k + 1) = dof D k + pl := by show dof D k + shk D (D 8 k) = _; rw [es]
      have oa : ∀ p, p ≠ 57 → p ≠ 59 → I' p = I p := hf'.1
      have o : OA I I' (dof D k + pl) := fun d _ => by
        rw [oa 77 (by decide) (by decide), oa 78 (by decide) (by decide), oa 79 (by decide) (by decide), oa 80 (by decide) (by decide), oa 81 (by decide) (by decide), oa 82 (by decide) (by decide)]
        exact ⟨rfl, rfl, rfl, rfl, fun _ _ => rfl, fun _ _ => rfl⟩
      have v9 : ∀ k', k' < D 0 3 → D 9 k' ≤ 4 := fun k' h => (hv.2.2.2.2.1 k' h).2.2.1
      refine ⟨hp, fun p a b c d e z => by rw [oa p a b]; exact hF p a b c d e z, fun p a b c => by rw [hf'.2 p a b]; exact hL p a b c, by rw [oa 73 (by decide) (by decide), ed]; exact h73, by omega, ⟨fun k' pl' a b => ?_, fun pl' a => absurd a (by omega)⟩, fun kd hkd => ?_⟩
      · by_cases z : k' = k
        · subst z
          exact (hDL.2 pl' (by omega)).oa (v9 _ hk) (by omega) o
        · exact (hDL.1 k' pl' (by omega) b).oa (v9 _ (by omega)) (by have := dof_lt (k := k) (by omega) b; omega) o
      · rw [oa 83 (by decide) (by decide), ed, hDF kd hkd]
        exact congrArg nI (zCount_cg _ (fun d hd => (zFresh_oa (v9 kd (by omega)) hd o).symm))
    unfold f_X0_find_45 f_X0_find_87
    by_cases z : pl = 2048
    · subst z
      obtain ⟨a1, a2, a3, a4⟩ := fin (fun q hq => by have := pi_lt h4 hPI hq; omega) (FP.refl I L) hPR.1
      refine ⟨I, L, a1, a2, a3, Or.inr ⟨?_, a4⟩⟩
      rw [if_pos (by decide), zlt_b, nI_1]
    · rw [if_neg (show ¬ (2048 : Int32) ≤ nI pl from nI_ge (b := 2048) (by omega) (by decide))]
      obtain ⟨r, rfl⟩ : ∃ q, r = q + 1 := ⟨r - 1, by omega⟩
      rcases c_pnext (S := SqS D (D 8 k)) hPI.1 (fun q hq => h4 q (hPI.1 q hq)) hPI.2.1 hPR with ⟨he, I', L', a1, a2, a3⟩ | ⟨I1, L1, Qu, e, s, lo, hi, a1, a2, a3, a4, -, a5, a6, a7, a8, a9, a10⟩
      · obtain ⟨b1, b2, b3, b4⟩ := fin he a2 a3.1
        refine ⟨I', L', b1, b2, b3, Or.inr ⟨?_, b4⟩⟩
        rw [a1, zb3_b, if_pos rfl, zlt_b, nI_1]
      · rw [a1, zb3_b, if_neg n10]
        have hPI' := pi_add hPI a3 a4
        have psh' := pi_sh h4 hPI'
        have slt : pl < shk D (D 8 k) := by
          have u1 := psh.2 s a3
          have u2 := (sh_cls D (D 8 k)).1 s (hPI.1 s a3)
          have u3 : shf D (D 8 k) s = cfn (SqS D (D 8 k)) (clo (bes (SqS D (D 8 k)))) s := rfl
          omega
        have eA : (fun q => inQ Qu e q) = PlSq D (D 8 k) pl := by
          funext q
          refine propext ((a9 q).trans ⟨fun ⟨x, y⟩ => ⟨hPI.1 q x, ?_⟩, fun ⟨x, y⟩ => ?_⟩)
          · have := psh'.1 q (hPI.1 q x) (fun w => w.2 y)
            rw [fadd_t ⟨x, y⟩] at this; exact this
          · have y : cfn (SqS D (D 8 k)) (clo (bes (SqS D (D 8 k)))) q = pl := y
            by_cases w : Rm q
            · by_cases u : clo (bes (SqS D (D 8 k))) s q
              · exact ⟨w, u⟩
              · have := psh'.2 q ⟨w, u⟩; omega
            · have := psh.1 q x w
              have := hPI.2.2.1.1 q ⟨x, w⟩; omega
        have f1 : FD I0 I1 := fun p a b c d e z => by rw [a2.1 p a b]; exact hF p a b c d e z
        have l1 : ∀ p, p ≠ 58 → p ≠ 60 → p ≠ 76 → L1 p = L0 p := fun p a b c => by rw [a2.2 p a b]; exact hL p a b c
        have t1 : I1 73 7 = nI (dof D k + pl) := by rw [a2.1 73 (by decide) (by decide)]; exact h73
        rw [t1]
        by_cases y : dof D k + pl < 300
        · rw [if_pos (show nI (dof D k + pl) < 300 from nI_lt (b := 300) y (by decide))]
          obtain ⟨q2, q3, q4, q5, q6, q7, q8, q9, q10⟩ := id a5
          have hPA : PA (fun q => inQ Qu e q) lo hi I1 L1 := ⟨q3, q4, q5, q6, fun q ⟨i, i1, i2⟩ => by
            obtain ⟨-, w1, w2, w3⟩ := q8 i i1
            rw [i2] at w1 w2 w3; exact ⟨w1, w2, w3⟩, q10⟩
          have hs0 : sz0 (fun q => inQ Qu e q) = e := sz_Q e (fun i hi' => (q8 i hi').2.1) a8
          rw [eA] at hPA hs0
          obtain ⟨I2, L2, b1, b2, b3, b4, b5, b6, b7, b8⟩ := c_add (A := PlSq D (D 8 k) pl) (t := dof D k + pl) (pl := pl) (s0 := s) (cc := zCount (zFresh I (D 9 k) k) (dof D k + pl)) hPl hv hk hPA (f1.dc hPl hd) (HS_L hv hH (fun l hl => l1 _ (by omega) (by omega) (by omega))) (f1.nw hv hN) y t1 (by rw [(q8 0 (by omega)).1, a6]) (by
            rw [← eA]; exact (a9 s).mpr ⟨a3, clo_r _ _⟩) (fun b hb => by
            rw [← eA] at hb; exact a4 b ((a9 b).mp hb).1) (by rw [hs0]; exact q2) (by rw [a2.1 83 (by decide) (by decide)]; exact hDF k (by omega))
          rw [b1, zb2_b, zlt_b, nI_1, ← hk1]
          have oa1 : OA I I1 (dof D k + pl) := fun d _ => by
            rw [a2.1 77 (by decide) (by decide), a2.1 78 (by decide) (by decide), a2.1 79 (by decide) (by decide), a2.1 80 (by decide) (by decide), a2.1 81 (by decide) (by decide), a2.1 82 (by decide) (by decide)]
            exact ⟨rfl, rfl, rfl, rfl, fun _ _ => rfl, fun _ _ => rfl⟩
          have o : OA I I2 (dof D k + pl) := fun d hd => by
            obtain ⟨x1, x2, x3, x4, x5, x6⟩ := oa1 d hd
            obtain ⟨y1, y2, y3, y4, y5, y6⟩ := b5 d hd
            exact ⟨by rw [y1, x1], by rw [y2, x2], by rw [y3, x3], by rw [y4, x4], fun j hj => by rw [y5 j hj, x5 j hj], fun j hj => by rw [y6 j hj, x6 j hj]⟩
          have v9 : ∀ k', k' < D 0 3 → D 9 k' ≤ 4 := fun k' h => (hv.2.2.2.2.1 k' h).2.2.1
          have v3 := hv.1.2.2.2.1
          have := fd_45 (k7 := k7) hPl hv hk hd hH hN r (pl + 1) _ _ I2 L2 f (by omega) (by omega) hPI' (PR.cL (a10.cg (b3 57 (by decide) (by decide) (by decide) (by omega))) (b4 58 (by decide)) (b4 60 (by decide))) (by rw [b2]; rfl) (by omega) ⟨fun k' pl' a b => (hDL.1 k' pl' a b).oa (v9 _ (by omega)) (by have := dof_lt a b; omega) o, fun pl' a => ?_⟩ (fun kd hkd => ?_) (fun p a b c d e z => by rw [b3 p c d e z]; exact f1 p a b c d e z) (fun p a b c => by rw [b4 p c]; exact l1 p a b c)
          · exact this
          · by_cases w : pl' = pl
            · subst w; exact b6
            · exact (hDL.2 pl' (by omega)).oa (v9 _ hk) (by omega) o
          · have ex : zCount (zFresh I2 (D 9 kd) kd) (dof D k + pl) = zCount (zFresh I (D 9 kd) kd) (dof D k + pl) := zCount_cg _ (fun d hd => zFresh_oa (v9 kd (by omega)) hd o)
            have es : zCount (zFresh I2 (D 9 kd) kd) (dof D k + (pl + 1)) = zCount (zFresh I2 (D 9 kd) kd) (dof D k + pl) + ivp (zFresh I2 (D 9 kd) kd (dof D k + pl)) := rfl
            rw [es, ex]
            by_cases w : kd = k
            · subst w; exact b8
            · rw [b7 kd w, a2.1 83 (by decide) (by decide), hDF kd hkd, iv_f (fun h => ?_)]
              · rfl
              · have := h.1
                rw [b6.1] at this
                exact w ((nI_eq (by omega) (by omega)).mp this).symm
        · rw [if_neg (show ¬ nI (dof D k + pl) < 300 from nI_nlt (b := 300) (by omega) (by omega))]
          refine ⟨I1, L1, a10.1, f1, l1, Or.inl ⟨rfl, ?_⟩⟩
          show 300 < dof D k + shk D (D 8 k)
          omega
end Fd
