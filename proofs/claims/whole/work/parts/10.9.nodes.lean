/-! shapes one after the other -/
def PIt (S : Nat → Prop) (k : Nat) (g : Nat → Nat) (R : Nat → Prop) : Prop := (∀ q, R q → S q) ∧ (∀ x y, R x → bes S x y → R y) ∧ cls (fun q => S q ∧ ¬ R q) (clo (bes S)) g k ∧ ∀ n, n < k → ∃ a, (S a ∧ ¬ R a) ∧ g a = n ∧ ∀ q, R q → a < q
section Pi
variable {S : Nat → Prop} {k : Nat} {g : Nat → Nat} {R : Nat → Prop}
theorem pi_0 (g : Nat → Nat) : PIt S 0 g S := ⟨fun _ h => h, fun _ _ _ h => h.2.1, cls_0 (fun q h => h.2 h.1), fun n hn => absurd hn (by omega)⟩
theorem pi_clo (h : PIt S k g R) {x y : Nat} (hx : S x) (hc : clo (bes S) x y) : R x ↔ R y := by
  have key : ∀ a b, bes S a b → (R a ↔ R b) := fun a b hb => ⟨fun w => h.2.1 a b w hb, fun w => h.2.1 b a w ⟨hb.2.1, hb.1, adjS_s hb.2.2⟩⟩
  exact hc (fun a b => (R a ↔ R b)) (fun _ => Iff.rfl) (fun _ _ h => h.symm) (fun _ _ _ h g => h.trans g) key
theorem pi_add {s : Nat} (h : PIt S k g R) (hs : R s) (hm : ∀ q, R q → s ≤ q) : PIt S (k + 1) (fadd (fun q => R q ∧ clo (bes S) s q) k g) (fun q => R q ∧ ¬ clo (bes S) s q) := by
  obtain ⟨h1, h2, h3, h4⟩ := h
  have disj : ∀ a b, (S a ∧ ¬ R a) → (R b ∧ clo (bes S) s b) → ¬ clo (bes S) a b ∧ ¬ clo (bes S) b a := fun a b ha hb => by
    have := pi_clo ⟨h1, h2, h3, h4⟩ (x := a) (y := b) ha.1
    exact ⟨fun w => ha.2 ((this w).mpr hb.1), fun w => ha.2 ((this (clo_s w)).mpr hb.1)⟩
  have eq : ∀ q, ((S q ∧ ¬ R q) ∨ (R q ∧ clo (bes S) s q)) ↔ (S q ∧ ¬ (R q ∧ ¬ clo (bes S) s q)) := fun q => by
    constructor
    · rintro (⟨a, b⟩ | ⟨a, b⟩)
      · exact ⟨a, fun w => b w.1⟩
      · exact ⟨h1 q a, fun w => w.2 b⟩
    · rintro ⟨a, b⟩
      by_cases z : R q
      · exact Or.inr ⟨z, Classical.not_not.mp fun w => b ⟨z, w⟩⟩
      · exact Or.inl ⟨a, z⟩
  refine ⟨fun q hq => h1 q hq.1, fun x y hx hb => ⟨h2 x y hx.1 hb, fun w => hx.2 (clo_t w (clo_s (clo_b hb)))⟩, cls_cS (cls_add (C := fun q => R q ∧ clo (bes S) s q) (s := s) h3 ⟨hs, clo_r _ _⟩ (fun a b ha hb => clo_t (clo_s ha.2) hb.2) disj (fun n hn => ?_)) eq, fun n hn => ?_⟩
  · obtain ⟨a, a1, a2, a3⟩ := h4 n hn
    exact ⟨a, a1, a2, fun b hb => a3 b hb.1⟩
  · by_cases z : n = k
    · refine ⟨s, ⟨h1 s hs, fun w => w.2 (clo_r _ _)⟩, by rw [fadd_t ⟨hs, clo_r _ _⟩, z], fun q hq => ?_⟩
      have := hm q hq.1
      have ne : q ≠ s := fun y => hq.2 (y ▸ clo_r _ _)
      omega
    · obtain ⟨a, a1, a2, a3⟩ := h4 n (by omega)
      exact ⟨a, ⟨a1.1, fun w => a1.2 w.1⟩, by rw [fadd_f (fun w => a1.2 w.1)]; exact a2, fun q hq => a3 q hq.1⟩
theorem pi_end (h : PIt S k g R) (he : ∀ q, ¬ R q) : cls S (clo (bes S)) g k := cls_cS h.2.2.1 (fun q => ⟨fun w => w.1, fun w => ⟨w, he q⟩⟩)
theorem pi_lt {s : Nat} (h4 : ∀ q, S q → q < 4096) (h : PIt S k g R) (hs : R s) : k < 2048 := by
  obtain ⟨m, m1, m2⟩ := least_ex (p := R) s hs
  have := pi_add h m1 m2
  have := cls_2048' (S := S) (fun q hq => ⟨hq.1, h4 q hq.1⟩) this.2.2.1
  omega
end Pi
theorem e_fillI {r : Nat} {v : Int32} {I0 : zI} : ∀ q y I f, y + q = 4096 → q < f → (∀ p, p ≠ r → I p = I0 p) → (∀ x, x < y → I r x = v) → ∃ I', zlp4 (f_J7_fill_53178_5 r) f v (nI y) (4096 : Int32) I = some I' ∧ (∀ p, p ≠ r → I' p = I0 p) ∧ ∀ x, x < 4096 → I' r x = v
  | _, _, _, 0, _, h, _, _ => absurd h (by omega)
  | 0, y, I, f + 1, hy, _, h1, h2 => by
    have : y = 4096 := by omega
    subst this
    refine ⟨I, ?_, h1, h2⟩
    show f_J7_fill_53178_5 r _ v (nI 4096) 4096 I = _
    unfold f_J7_fill_53178_5
    rw [if_pos (by decide)]
  | q + 1, y, I, f + 1, hy, hf, h1, h2 => by
    have ih := fun I => e_fillI (r := r) (v := v) (I0 := I0) q (y + 1) I f (by omega) (by omega)
    have e1 : zlp4 (f_J7_fill_53178_5 r) (f + 1) v (nI y) 4096 I = f_J7_fill_53178_5 r (zlp4 (f_J7_fill_53178_5 r) f) v (nI y) 4096 I := rfl
    rw [e1]
    generalize zlp4 (f_J7_fill_53178_5 r) f = k1 at ih ⊢
    unfold f_J7_fill_53178_5
    rw [if_neg (show ¬ (4096 : Int32) ≤ nI y from nI_ge (b := 4096) (by omega) (by decide)), zck_t _ (zbd_nI (by omega) (by decide)), nI_clamp (by omega), zlt_b, zlt_b, nI_1]
    refine ih _ (fun p hp => by rw [zu_pf _ _ hp]; exact h1 p hp) (fun x hx => ?_)
    by_cases z : x = y
    · subst z; exact zu_eq _ _ _ _
    · rw [zu_k _ _ z]; exact h2 x (by omega)
theorem PR.cg {R : Nat → Prop} {I I' : zI} {L : zL} (h : PR R I L) (e : I' 57 = I 57) : PR R I' L := ⟨h.1.cg (by rw [e]) (by rw [e]) rfl, h.2.1, by rw [e]; exact h.2.2⟩
theorem PR.cR {R R' : Nat → Prop} {I : zI} {L : zL} (h : PR R I L) (e : ∀ q, R q ↔ R' q) : PR R' I L := by
  have : R = R' := funext fun q => propext (e q)
  rw [← this]; exact h
section Nd
variable {r1 r2 : Nat} {S : Nat → Prop} {n0 : Nat} {I0 : zI} {L0 : zL}
/-- the nodes of one wire so far -/
def NS (r1 n0 k : Nat) (T : Nat → Prop) (g : Nat → Nat) (I0 I : zI) : Prop := (∀ q, q < 4096 → (T q → I r1 q = nI (n0 + g q)) ∧ (¬ T q → I r1 q = -1)) ∧ I 61 6 = nI (n0 + k) ∧ (∀ i, i < n0 + k → I 71 i = nI i) ∧ (∀ p, p ≠ 57 → p ≠ 59 → p ≠ 61 → p ≠ 71 → p ≠ r1 → I p = I0 p) ∧ ∀ j, j ≠ 6 → I 61 j = I0 61 j
theorem nd_35 {k15 : Int32 → zI → zL → Option (zI × zL)} {A : Nat → Prop} {Qu : Nat → Nat} {e lo hi : Nat} {L : zL} {v : Int32} {nd : Nat} {Ia : zI} (hr : r1 ≠ 57 ∧ r1 ≠ 59 ∧ r1 ≠ 61 ∧ r1 ≠ 71) (hnd : nd < 16384) : ∀ r w I f, w + r = e → r < f → PL A Qu e lo hi I L → I 61 6 = nI nd → (∀ q, (∃ i, i < w ∧ Qu i = q) → I r1 q = nI nd) → (∀ q, ¬ (∃ i, i < w ∧ Qu i = q) → I r1 q = Ia r1 q) → (∀ p, p ≠ r1 → I p = Ia p) → ∃ I', zlp4 (f_X3_findNodes_35 k15 r1 r2) f v (nI w) I L = k15 (v + 1) I' L ∧ (∀ q, inQ Qu e q → I' r1 q = nI nd) ∧ (∀ q, ¬ inQ Qu e q → I' r1 q = Ia r1 q) ∧ I' 61 6 = nI (nd + 1) ∧ I' 71 nd = nI nd ∧ (∀ i, i ≠ nd → I' 71 i = Ia 71 i) ∧ (∀ j, j ≠ 6 → I' 61 j = Ia 61 j) ∧ (∀ p, p ≠ r1 → p ≠ 61 → p ≠ 71 → I' p = Ia p)
  | _, _, _, 0, _, h, _, _, _, _, _ => absurd h (by omega)
  | 0, w, I, f + 1, hw, _, hp, h6, h1, h2, h3 => by
    have : w = e := by omega
    subst this
    refine ⟨zu (zu I 71 nd (nI nd)) 61 6 (nI (nd + 1)), ?_, fun q hq => ?_, fun q hq => ?_, zu_eq _ _ _ _, ?_, fun i hi => ?_, fun j hj => ?_, fun p a b c => ?_⟩
    · show f_X3_findNodes_35 k15 r1 r2 _ v (nI w) I L = _
      unfold f_X3_findNodes_35
      have e6 : ∀ x, zu I 71 nd x 61 6 = nI nd := fun x => by rw [zu_p _ _ (by decide)]; exact h6
      rw [hp.1, if_pos (Int32.le_refl _), h6, zck_t _ (zbd_nI hnd (by decide)), nI_clamp (by omega)]
      simp only [zlt_b, e6, nI_1]
    · rw [zu_p _ _ hr.2.2.1, zu_p _ _ hr.2.2.2]; exact h1 q hq
    · rw [zu_p _ _ hr.2.2.1, zu_p _ _ hr.2.2.2]; exact h2 q hq
    · rw [zu_p _ _ (by decide), zu_eq]
    · rw [zu_p _ _ (by decide), zu_k _ _ hi, h3 71 (fun y => hr.2.2.2 y.symm)]
    · rw [zu_k _ _ hj, zu_p _ _ (by decide), h3 61 (fun y => hr.2.2.1 y.symm)]
    · rw [zu_pf _ _ b, zu_pf _ _ c, h3 p a]
  | r + 1, w, I, f + 1, hw, hf, hp, h6, h1, h2, h3 => by
    have ih := fun I => nd_35 (k15 := k15) (A := A) (Qu := Qu) (e := e) (lo := lo) (hi := hi) (L := L) (v := v) (Ia := Ia) hr hnd r (w + 1) I f (by omega) (by omega)
    have e1 : zlp4 (f_X3_findNodes_35 k15 r1 r2) (f + 1) v (nI w) I L = f_X3_findNodes_35 k15 r1 r2 (zlp4 (f_X3_findNodes_35 k15 r1 r2) f) v (nI w) I L := rfl
    rw [e1]
    generalize zlp4 (f_X3_findNodes_35 k15 r1 r2) f = k1 at ih ⊢
    have he := hp.2.2.2.2.2.1
    obtain ⟨c1, c2, c3, c4⟩ := hp.2.2.2.2.2.2.1 w (by omega)
    unfold f_X3_findNodes_35
    rw [hp.1, if_neg (nI_ge (by omega) (by omega)), zck_t _ (zbd_nI (by omega) (by decide)), nI_clamp (show w < 2 ^ 31 by omega), c1, zck_t _ (zbd_nI c2 (by decide)), nI_clamp (show Qu w < 2 ^ 31 by omega), h6, zlt_b, zlt_b, nI_1]
    refine ih _ ?_ ?_ (fun q hq => ?_) (fun q hq => ?_) (fun p hp' => by rw [zu_pf _ _ hp']; exact h3 p hp')
    · obtain ⟨p1, p2, p3, p4, p5, p6, p7, p8, p9⟩ := hp
      exact ⟨by rw [zu_p _ _ (fun y => hr.1 y.symm)]; exact p1, by rw [zu_p _ _ (fun y => hr.1 y.symm)]; exact p2, by rw [zu_p _ _ (fun y => hr.1 y.symm)]; exact p3, p4, p5, p6, by rw [zu_pf _ _ (fun y => hr.2.1 y.symm)]; exact p7, p8, p9⟩
    · rw [zu_p _ _ (fun y => hr.2.2.1 y.symm)]; exact h6
    · by_cases z : q = Qu w
      · rw [z, zu_eq]
      · rw [zu_k _ _ z]
        obtain ⟨i, i1, i2⟩ := hq
        have : i ≠ w := fun y => z (by rw [← i2, y])
        exact h1 q ⟨i, by omega, i2⟩
    · have z : q ≠ Qu w := fun y => hq ⟨w, by omega, y.symm⟩
      rw [zu_k _ _ z]
      exact h2 q (fun ⟨i, i1, i2⟩ => hq ⟨i, by omega, i2⟩)
theorem nd_15 (hr : r1 ≠ 57 ∧ r1 ≠ 59 ∧ r1 ≠ 61 ∧ r1 ≠ 71) (h4 : ∀ q, S q → q < 4096) (hn0 : n0 + 2048 ≤ 16384) : ∀ r k g R I L f, k + r = 2048 → r < f → PIt S k g R → PR R I L → NS r1 n0 k (fun q => S q ∧ ¬ R q) g I0 I → (∀ p, p ≠ 58 → p ≠ 60 → L p = L0 p) → ∃ k' g' I' L', zlp3 (f_X3_findNodes_15 r1 r2) f (nI k) I L = some (I', L') ∧ cls S (clo (bes S)) g' k' ∧ k' ≤ 2048 ∧ NS r1 n0 k' S g' I0 I' ∧ RPeel I' L' ∧ (∀ p, p ≠ 58 → p ≠ 60 → L' p = L0 p)
  | _, _, _, _, _, _, 0, _, h, _, _, _, _ => absurd h (by omega)
  | r, k, g, R, I, L, f + 1, hk, hf, hP, hR, hN, hL => by
    have e1 : zlp3 (f_X3_findNodes_15 r1 r2) (f + 1) (nI k) I L = f_X3_findNodes_15 r1 r2 (zlp3 (f_X3_findNodes_15 r1 r2) f) (nI k) I L := rfl
    rw [e1]
    generalize hk1 : zlp3 (f_X3_findNodes_15 r1 r2) f = k1
    have fin : ∀ {I'} {L' : zL}, (∀ q, ¬ R q) → FP I L I' L' → RPeel I' L' → ∃ k' g' I'' L'', (some (I', L') : Option (zI × zL)) = some (I'', L'') ∧ cls S (clo (bes S)) g' k' ∧ k' ≤ 2048 ∧ NS r1 n0 k' S g' I0 I'' ∧ RPeel I'' L'' ∧ (∀ p, p ≠ 58 → p ≠ 60 → L'' p = L0 p) := by
      intro I' L' he hf hp
      refine ⟨k, g, I', L', rfl, pi_end hP he, by omega, ?_, hp, fun p a b => by rw [hf.2 p a b]; exact hL p a b⟩
      obtain ⟨n1, n2, n3, n4, n5⟩ := hN
      refine ⟨fun q hq => ?_, by rw [hf.1 61 (by decide) (by decide)]; exact n2, by rw [hf.1 71 (by decide) (by decide)]; exact n3, fun p a b c d e => by rw [hf.1 p a b]; exact n4 p a b c d e, by rw [hf.1 61 (by decide) (by decide)]; exact n5⟩
      rw [hf.1 r1 hr.1 hr.2.1]
      exact ⟨fun w => (n1 q hq).1 ⟨w, he q⟩, fun w => (n1 q hq).2 (fun v => w v.1)⟩
    unfold f_X3_findNodes_15 f_X3_findNodes_98
    by_cases z : k = 2048
    · subst z
      rw [if_pos (by decide)]
      exact fin (fun q hq => by have := pi_lt h4 hP hq; omega) (FP.refl _ _) hR.1
    · rw [if_neg (show ¬ (2048 : Int32) ≤ nI k from nI_ge (b := 2048) (by omega) (by decide))]
      obtain ⟨r, rfl⟩ : ∃ q, r = q + 1 := ⟨r - 1, by omega⟩
      rcases c_pnext (S := S) hP.1 (fun q hq => h4 q (hP.1 q hq)) hP.2.1 hR with ⟨he, I', L', a1, a2, a3⟩ | ⟨I', L', Qu, e, s, lo, hi, a1, a2, a3, a4, -, a5, a6, a7, a8, a9, a10⟩
      · rw [a1, zb3_b, if_pos rfl]
        exact fin he a2 a3.1
      · rw [a1, zb3_b, if_neg n10]
        obtain ⟨n1, n2, n3, n4, n5⟩ := hN
        obtain ⟨I2, b1, b2, b3, b4, b5, b6, b7, b8⟩ := nd_35 (k15 := k1) (r2 := r2) (v := nI k) (nd := n0 + k) (Ia := I') hr (by omega) e 0 I' zF (by omega) (zF_lt (by have := a5.2.2.2.2.2.1; omega)) a5 (by rw [a2.1 61 (by decide) (by decide)]; exact n2) (fun q ⟨i, i1, _⟩ => absurd i1 (by omega)) (fun _ _ => rfl) (fun _ _ => rfl)
        have b1' : zlp4 (f_X3_findNodes_35 k1 r1 r2) zF (nI k) 0 I' L' = _ := b1
        rw [b1', nI_1, ← hk1]
        refine nd_15 hr h4 hn0 r (k + 1) _ _ I2 L' f (by omega) (by omega) (pi_add hP a3 a4) (a10.cg (b8 57 (fun y => hr.1 y.symm) (by decide) (by decide))) ⟨fun q hq => ?_, by rw [b4]; congr 1, fun i hi => ?_, fun p a b c d e => by rw [b8 p e c d, a2.1 p a b]; exact n4 p a b c d e, fun j hj => by rw [b7 j hj, a2.1 61 (by decide) (by decide)]; exact n5 j hj⟩ (fun p a b => by rw [a2.2 p a b]; exact hL p a b)
        · have hb' : I' r1 q = I r1 q := by rw [a2.1 r1 hr.1 hr.2.1]
          by_cases w : R q ∧ clo (bes S) s q
          · rw [fadd_t w]
            exact ⟨fun _ => b2 q ((a9 q).mpr w), fun v => absurd ⟨hP.1 q w.1, fun u => u.2 w.2⟩ v⟩
          · rw [fadd_f w, b3 q (fun u => w ((a9 q).mp u)), hb']
            refine ⟨fun v => (n1 q hq).1 ⟨v.1, fun u => w ⟨u, Classical.not_not.mp fun y => v.2 ⟨u, y⟩⟩⟩, fun v => (n1 q hq).2 (fun u => v ⟨u.1, fun y => u.2 y.1⟩)⟩
        · by_cases w : i = n0 + k
          · rw [w]; exact b5
          · rw [b6 i w, a2.1 71 (by decide) (by decide)]; exact n3 i (by omega)
theorem c_nodes (hr : r1 ≠ 57 ∧ r1 ≠ 59 ∧ r1 ≠ 61 ∧ r1 ≠ 71) (h2 : r2 ≠ 58) (hn0 : n0 + 2048 ≤ 16384) {I : zI} {L : zL} (hp : RPeel I L) (h6 : I 61 6 = nI n0) (h71 : ∀ i, i < n0 → I 71 i = nI i) : ∃ k g I' L', f_X3_findNodes r1 r2 I L = some (I', L') ∧ cls (fun q => q < 4096 ∧ bt (L r2 (q / 64)) (q % 64) = true) (clo (bes (fun q => q < 4096 ∧ bt (L r2 (q / 64)) (q % 64) = true))) g k ∧ k ≤ 2048 ∧ NS r1 n0 k (fun q => q < 4096 ∧ bt (L r2 (q / 64)) (q % 64) = true) g I I' ∧ RPeel I' L' ∧ (∀ p, p ≠ 58 → p ≠ 60 → L' p = L p) := by
  obtain ⟨I1, a1, a2, a3⟩ := e_fillI (r := r1) (v := -1) (I0 := I) 4096 0 I zF (by omega) (zF_lt (by omega)) (fun _ _ => rfl) (fun x hx => absurd hx (by omega))
  have a1' : f_J7_fill_53178 r1 (-1) I = some I1 := a1
  obtain ⟨I2, L2, b1, b2, b3⟩ := c_popen (r := r2) (I := I1) (L := L) (hp.cg (by rw [a2 57 (fun y => hr.1 y.symm)]) (by rw [a2 57 (fun y => hr.1 y.symm)]) rfl) h2
  unfold f_X3_findNodes
  rw [a1', zb1_b, b1, zb2_b]
  refine nd_15 (I0 := I) (L0 := L) hr (fun q hq => hq.1) hn0 2048 0 (fun _ => 0) _ I2 L2 zF (by omega) (zF_lt (by omega)) (pi_0 _) b3 ⟨fun q hq => ⟨fun w => absurd w.1 w.2, fun _ => by rw [b2.1 r1 hr.1 hr.2.1]; exact a3 q hq⟩, by rw [b2.1 61 (by decide) (by decide), a2 61 (fun y => hr.2.2.1 y.symm)]; exact h6, fun i hi => by rw [b2.1 71 (by decide) (by decide), a2 71 (fun y => hr.2.2.2 y.symm)]; exact h71 i hi, fun p a b c d e => by rw [b2.1 p a b, a2 p e], fun j hj => by rw [b2.1 61 (by decide) (by decide), a2 61 (fun y => hr.2.2.1 y.symm)]⟩ b2.2
end Nd
