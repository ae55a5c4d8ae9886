/-! the class's joins -/
def TS (nd : Nat) (Z : Nat → Prop) (v : Int32) (B : Nat → Nat → Prop) : Prop := (v = -1 ∧ ∀ x, x < nd → ¬ Z x) ∨ ∃ a, a < nd ∧ v = nI a ∧ Z a ∧ ∀ x, x < nd → Z x → clo B a x
theorem RCl_cg {nd : Nat} {R : Nat → Nat} {B B' : Nat → Nat → Prop} (h : RCl nd R B) (e : ∀ a b, a < nd → b < nd → (clo B a b ↔ clo B' a b)) : RCl nd R B' := fun a b ha hb => (h a b ha hb).trans (e a b ha hb)
section Ti
variable {nd : Nat}
theorem tie1 {R : Nat → Nat} {B : Nat → Nat → Prop} {Z : Nat → Prop} {v u : Int32} {I : zI} (hU : UFR nd R I) (hR : RCl nd R B) (hB : ∀ a b, B a b → a < nd ∧ b < nd) (hT : TS nd Z v B) (hu : u = -1 ∨ ∃ x, x < nd ∧ u = nI x) :
    ∃ v' I' R' B', f_X3_tieNodes v u I = some (v', I') ∧ (∀ p, p ≠ 71 → I' p = I p) ∧ UFR nd R' I' ∧ RCl nd R' B' ∧ (∀ a b, B' a b → a < nd ∧ b < nd) ∧ TS nd (fun x => Z x ∨ u = nI x) v' B' ∧ (∀ a b, B a b → B' a b) ∧ (∀ a b, B' a b → B a b ∨ ((Z a ∨ u = nI a) ∧ (Z b ∨ u = nI b))) := by
  have hn := hU.1
  rcases hT with ⟨rfl, hz⟩ | ⟨a, a1, rfl, a3, a4⟩
  · refine ⟨u, I, R, B, ?_, fun _ _ => rfl, hU, hR, hB, ?_, fun _ _ h => h, fun _ _ h => Or.inl h⟩
    · unfold f_X3_tieNodes f_X3_tieNodes_15 f_X3_tieNodes_25
      rw [if_pos rfl, if_pos rfl]
    · rcases hu with rfl | ⟨x, x1, rfl⟩
      · exact Or.inl ⟨rfl, fun y hy w => w.elim (hz y hy) (fun w => nI_m1 (by omega) w.symm)⟩
      · refine Or.inr ⟨x, x1, rfl, Or.inr rfl, fun y hy w => ?_⟩
        rcases w with w | w
        · exact absurd w (hz y hy)
        · have := (nI_eq (by omega) (by omega)).mp w; subst this; exact clo_r _ _
  · rcases hu with rfl | ⟨x, x1, rfl⟩
    · refine ⟨nI a, I, R, B, ?_, fun _ _ => rfl, hU, hR, hB, Or.inr ⟨a, a1, rfl, Or.inl a3, fun y hy w => ?_⟩, fun _ _ h => h, fun _ _ h => Or.inl h⟩
      · unfold f_X3_tieNodes f_X3_tieNodes_15 f_X3_tieNodes_25
        rw [if_neg (nI_m1 (by omega)), if_pos rfl, if_neg (nI_m1 (by omega))]
      · rcases w with w | w
        · exact a4 y hy w
        · exact absurd w.symm (nI_m1 (by omega))
    · obtain ⟨I', t1, t2, R', t3, t4⟩ := c_tieN a1 x1 hU
      refine ⟨nI a, I', R', _, t1, t2, t3, RCl_add hB a1 x1 hR t4, ?_, Or.inr ⟨a, a1, rfl, Or.inl a3, fun y hy w => ?_⟩, fun _ _ h => Or.inl h, fun p q h => ?_⟩
      · rintro p q (w | ⟨rfl, rfl⟩)
        · exact hB p q w
        · exact ⟨a1, x1⟩
      · rcases w with w | w
        · exact clo_mono (fun p q h => clo_b (Or.inl h)) (a4 y hy w)
        · have := (nI_eq (by omega) (by omega)).mp w; subst this; exact clo_b (Or.inr ⟨rfl, rfl⟩)
      · rcases h with h | ⟨rfl, rfl⟩
        · exact Or.inl h
        · exact Or.inr ⟨Or.inl a3, Or.inr rfl⟩
/-- a node at a square, of either wire -/
def nq (N1 N2 : Nat → Int32) (q x : Nat) : Prop := N1 q = nI x ∨ N2 q = nI x
theorem t_35 {k11 : Int32 → zI → zL → Option (zI × zL)} {r1 r2 r3 : Nat} {A : Nat → Prop} {Qu : Nat → Nat} {e lo hi : Nat} {L : zL} {v4 : Int32} {Ia : zI} {B0 : Nat → Nat → Prop} (hr1 : r1 ≠ 71) (hr2 : r2 ≠ 71) (hN1 : ∀ q, q < 4096 → Ia r1 q = -1 ∨ ∃ x, x < nd ∧ Ia r1 q = nI x) (hN2 : ∀ q, q < 4096 → Ia r2 q = -1 ∨ ∃ x, x < nd ∧ Ia r2 q = nI x) (hp : PL A Qu e lo hi Ia L) :
    ∀ r w v I R B f, w + r = e → r < f → (∀ p, p ≠ 71 → I p = Ia p) → UFR nd R I → RCl nd R B → (∀ a b, B a b → a < nd ∧ b < nd) → TS nd (fun x => ∃ i, i < w ∧ nq (Ia r1) (Ia r2) (Qu i) x) v B → (∀ a b, B0 a b → B a b) → (∀ a b, B a b → B0 a b ∨ ((∃ i, i < w ∧ nq (Ia r1) (Ia r2) (Qu i) a) ∧ (∃ i, i < w ∧ nq (Ia r1) (Ia r2) (Qu i) b))) →
    ∃ I' R' B', zlp5 (f_X3_tie_35 k11 r1 r2 r3) f v4 v (nI w) I L = k11 (v4 + 1) I' L ∧ (∀ p, p ≠ 71 → I' p = Ia p) ∧ UFR nd R' I' ∧ RCl nd R' B' ∧ (∀ a b, B' a b → a < nd ∧ b < nd) ∧ (∀ a b, B0 a b → B' a b) ∧ (∀ a b, B' a b → B0 a b ∨ ((∃ q, inQ Qu e q ∧ nq (Ia r1) (Ia r2) q a) ∧ (∃ q, inQ Qu e q ∧ nq (Ia r1) (Ia r2) q b))) ∧ (∀ a b, a < nd → b < nd → (∃ q, inQ Qu e q ∧ nq (Ia r1) (Ia r2) q a) → (∃ q, inQ Qu e q ∧ nq (Ia r1) (Ia r2) q b) → clo B' a b)
  | _, _, _, _, _, _, 0, _, h, _, _, _, _, _, _, _ => absurd h (by omega)
  | 0, w, v, I, R, B, f + 1, hw, _, h1, h2, h3, h4, h5, h6, h7 => by
    have : w = e := by omega
    subst this
    have cv : ∀ x, (∃ i, i < w ∧ nq (Ia r1) (Ia r2) (Qu i) x) ↔ (∃ q, inQ Qu w q ∧ nq (Ia r1) (Ia r2) q x) := fun x => ⟨fun ⟨i, i1, i2⟩ => ⟨_, ⟨i, i1, rfl⟩, i2⟩, fun ⟨q, ⟨i, i1, i2⟩, i3⟩ => ⟨i, i1, by rw [i2]; exact i3⟩⟩
    refine ⟨I, R, B, ?_, h1, h2, h3, h4, h6, fun a b hab => ?_, fun a b ha hb sa sb => ?_⟩
    · show f_X3_tie_35 k11 r1 r2 r3 _ v4 v (nI w) I L = _
      unfold f_X3_tie_35
      rw [h1 57 (by decide), hp.1, if_pos (Int32.le_refl _), zlt_b]
    · rw [← cv, ← cv]; exact h7 a b hab
    · rw [← cv] at sa sb
      rcases h5 with ⟨-, z⟩ | ⟨c, c1, -, c3, c4⟩
      · exact absurd sa (z a ha)
      · exact clo_t (clo_s (c4 a ha sa)) (c4 b hb sb)
  | r + 1, w, v, I, R, B, f + 1, hw, hf, h1, h2, h3, h4, h5, h6, h7 => by
    have ih := fun v I R B => t_35 (k11 := k11) (r3 := r3) (v4 := v4) (B0 := B0) hr1 hr2 hN1 hN2 hp r (w + 1) v I R B f (by omega) (by omega)
    have e1 : zlp5 (f_X3_tie_35 k11 r1 r2 r3) (f + 1) v4 v (nI w) I L = f_X3_tie_35 k11 r1 r2 r3 (zlp5 (f_X3_tie_35 k11 r1 r2 r3) f) v4 v (nI w) I L := rfl
    rw [e1]
    generalize zlp5 (f_X3_tie_35 k11 r1 r2 r3) f = k1 at ih ⊢
    have he := hp.2.2.2.2.2.1
    obtain ⟨c1, c2, c3, c4⟩ := hp.2.2.2.2.2.2.1 w (by omega)
    have hb : zbd (nI w) 4096 = true := zbd_nI (by omega) (by decide)
    have hcl : (nI w).toNatClampNeg = w := nI_clamp (by omega)
    have hbq : zbd (nI (Qu w)) 4096 = true := zbd_nI c2 (by decide)
    have hcq : (nI (Qu w)).toNatClampNeg = Qu w := nI_clamp (by omega)
    obtain ⟨v1, I1, R1, B1, a1, a2, a3, a4, a5, a6, a7, a8⟩ := tie1 (u := Ia r1 (Qu w)) h2 h3 h4 h5 (hN1 (Qu w) c2)
    obtain ⟨v2, I2, R2, B2, b1, b2, b3, b4, b5, b6, b7, b8⟩ := tie1 (u := Ia r2 (Qu w)) a3 a4 a5 a6 (hN2 (Qu w) c2)
    unfold f_X3_tie_35
    rw [h1 57 (by decide), hp.1, if_neg (nI_ge (by omega) (by omega)), zck_t _ hb, hcl, h1 59 (by decide), c1, zlt_b, zck_t _ hbq, hcq, h1 r1 hr1, a1, zb2_b, zck_t _ hb, a2 59 (by decide), h1 59 (by decide), c1, zlt_b, zck_t _ hbq, hcq, a2 r2 hr2, h1 r2 hr2, b1, zb2_b, zlt_b, nI_1]
    have eqZ : ∀ x, (((∃ i, i < w ∧ nq (Ia r1) (Ia r2) (Qu i) x) ∨ Ia r1 (Qu w) = nI x) ∨ Ia r2 (Qu w) = nI x) ↔ (∃ i, i < w + 1 ∧ nq (Ia r1) (Ia r2) (Qu i) x) := fun x => by
      constructor
      · rintro ((⟨i, i1, i2⟩ | z) | z)
        · exact ⟨i, by omega, i2⟩
        · exact ⟨w, by omega, Or.inl z⟩
        · exact ⟨w, by omega, Or.inr z⟩
      · rintro ⟨i, i1, i2⟩
        by_cases z : i = w
        · subst z; rcases i2 with i2 | i2
          · exact Or.inl (Or.inr i2)
          · exact Or.inr i2
        · exact Or.inl (Or.inl ⟨i, by omega, i2⟩)
    refine ih v2 I2 R2 B2 (fun p hp' => by rw [b2 p hp', a2 p hp']; exact h1 p hp') b3 b4 b5 ?_ (fun a b h => b7 a b (a7 a b (h6 a b h))) (fun a b h => ?_)
    · have : (fun x => ((∃ i, i < w ∧ nq (Ia r1) (Ia r2) (Qu i) x) ∨ Ia r1 (Qu w) = nI x) ∨ Ia r2 (Qu w) = nI x) = (fun x => ∃ i, i < w + 1 ∧ nq (Ia r1) (Ia r2) (Qu i) x) := funext fun x => propext (eqZ x)
      rw [← this]; exact b6
    · rw [← eqZ, ← eqZ]
      rcases b8 a b h with h | h
      · rcases a8 a b h with h | h
        · rcases h7 a b h with h | h
          · exact Or.inl h
          · exact Or.inr ⟨Or.inl (Or.inl h.1), Or.inl (Or.inl h.2)⟩
        · exact Or.inr ⟨Or.inl h.1, Or.inl h.2⟩
      · exact Or.inr h
/-- nodes tied by one shape of a layer, as far as T goes -/
def TB (S T : Nat → Prop) (N1 N2 : Nat → Int32) (nd a b : Nat) : Prop := a < nd ∧ b < nd ∧ ∃ q q', T q ∧ T q' ∧ clo (bes S) q q' ∧ nq N1 N2 q a ∧ nq N1 N2 q' b
theorem t_11 {r1 r2 r3 : Nat} {S : Nat → Prop} {Ia : zI} {L0 : zL} {B0 : Nat → Nat → Prop} (hr1 : r1 ≠ 71 ∧ r1 ≠ 57 ∧ r1 ≠ 59) (hr2 : r2 ≠ 71 ∧ r2 ≠ 57 ∧ r2 ≠ 59) (h4 : ∀ q, S q → q < 4096) (hN1 : ∀ q, q < 4096 → Ia r1 q = -1 ∨ ∃ x, x < nd ∧ Ia r1 q = nI x) (hN2 : ∀ q, q < 4096 → Ia r2 q = -1 ∨ ∃ x, x < nd ∧ Ia r2 q = nI x) (hB0 : ∀ a b, B0 a b → a < nd ∧ b < nd) :
    ∀ r k g Rm I L R f, k + r = 2048 → r < f → PIt S k g Rm → PR Rm I L → UFR nd R I → RCl nd R (fun a b => B0 a b ∨ TB S (fun q => S q ∧ ¬ Rm q) (Ia r1) (Ia r2) nd a b) → (∀ p, p ≠ 71 → p ≠ 57 → p ≠ 59 → I p = Ia p) → (∀ p, p ≠ 58 → p ≠ 60 → L p = L0 p) → ∃ I' L' R', zlp3 (f_X3_tie_11 r1 r2 r3) f (nI k) I L = some (I', L') ∧ RPeel I' L' ∧ UFR nd R' I' ∧ RCl nd R' (fun a b => B0 a b ∨ TB S S (Ia r1) (Ia r2) nd a b) ∧ (∀ p, p ≠ 71 → p ≠ 57 → p ≠ 59 → I' p = Ia p) ∧ (∀ p, p ≠ 58 → p ≠ 60 → L' p = L0 p)
  | _, _, _, _, _, _, _, 0, _, h, _, _, _, _, _, _ => absurd h (by omega)
  | r, k, g, Rm, I, L, R, f + 1, hk, hf, hP, hR, hU, hC, hI, hL => by
    have e1 : zlp3 (f_X3_tie_11 r1 r2 r3) (f + 1) (nI k) I L = f_X3_tie_11 r1 r2 r3 (zlp3 (f_X3_tie_11 r1 r2 r3) f) (nI k) I L := rfl
    rw [e1]
    generalize hk1 : zlp3 (f_X3_tie_11 r1 r2 r3) f = k1
    have fin : ∀ {I'} {L' : zL}, (∀ q, ¬ Rm q) → FP I L I' L' → RPeel I' L' → ∃ I'' L'' R', (some (I', L') : Option (zI × zL)) = some (I'', L'') ∧ RPeel I'' L'' ∧ UFR nd R' I'' ∧ RCl nd R' (fun a b => B0 a b ∨ TB S S (Ia r1) (Ia r2) nd a b) ∧ (∀ p, p ≠ 71 → p ≠ 57 → p ≠ 59 → I'' p = Ia p) ∧ (∀ p, p ≠ 58 → p ≠ 60 → L'' p = L0 p) := by
      intro I' L' he hf' hp
      refine ⟨I', L', R, rfl, hp, ?_, ?_, fun p a b c => by rw [hf'.1 p b c]; exact hI p a b c, fun p a b => by rw [hf'.2 p a b]; exact hL p a b⟩
      · obtain ⟨u1, u2, u3⟩ := hU
        exact ⟨u1, by rw [hf'.1 61 (by decide) (by decide)]; exact u2, by rw [hf'.1 71 (by decide) (by decide)]; exact u3⟩
      · have : (fun q => S q ∧ ¬ Rm q) = S := funext fun q => propext ⟨fun w => w.1, fun w => ⟨w, he q⟩⟩
        rw [this] at hC; exact hC
    unfold f_X3_tie_11 f_X3_tie_99
    by_cases z : k = 2048
    · subst z
      rw [if_pos (by decide)]
      exact fin (fun q hq => by have := pi_lt h4 hP hq; omega) (FP.refl _ _) hR.1
    · rw [if_neg (show ¬ (2048 : Int32) ≤ nI k from nI_ge (b := 2048) (by omega) (by decide))]
      obtain ⟨r, rfl⟩ : ∃ q, r = q + 1 := ⟨r - 1, by omega⟩
      rcases c_pnext (S := S) hP.1 (fun q hq => h4 q (hP.1 q hq)) hP.2.1 hR with ⟨he, I', L', a1, a2, a3⟩ | ⟨I', L', Qu, e, s, lo, hi, a1, a2, a3, a4, -, a5, a6, a7, a8, a9, a10⟩
      · rw [a1, zb3_b, if_pos rfl]
        exact fin he a2 a3.1
      · rw [a1, zb3_b, if_neg n10]
        have hU' : UFR nd R I' := by
          obtain ⟨u1, u2, u3⟩ := hU
          exact ⟨u1, by rw [a2.1 61 (by decide) (by decide)]; exact u2, by rw [a2.1 71 (by decide) (by decide)]; exact u3⟩
        have i1 : I' r1 = Ia r1 := by rw [a2.1 r1 hr1.2.1 hr1.2.2, hI r1 hr1.1 hr1.2.1 hr1.2.2]
        have i2 : I' r2 = Ia r2 := by rw [a2.1 r2 hr2.2.1 hr2.2.2, hI r2 hr2.1 hr2.2.1 hr2.2.2]
        have hBB : ∀ a b, (B0 a b ∨ TB S (fun q => S q ∧ ¬ Rm q) (Ia r1) (Ia r2) nd a b) → a < nd ∧ b < nd := fun a b w => w.elim (hB0 a b) (fun w => ⟨w.1, w.2.1⟩)
        obtain ⟨I2, R2, B2, b1, b2, b3, b4, b5, b6, b7, b8⟩ := t_35 (k11 := k1) (r3 := r3) (v4 := nI k) (Ia := I') (B0 := fun a b => B0 a b ∨ TB S (fun q => S q ∧ ¬ Rm q) (Ia r1) (Ia r2) nd a b) hr1.1 hr2.1 (by rw [i1]; exact hN1) (by rw [i2]; exact hN2) a5 e 0 (-1) I' R _ zF (by omega) (zF_lt (by have := a5.2.2.2.2.2.1; omega)) (fun _ _ => rfl) hU' hC hBB (Or.inl ⟨rfl, fun x _ ⟨i, i0, _⟩ => absurd i0 (by omega)⟩) (fun _ _ h => h) (fun _ _ h => Or.inl h)
        have b1' : zlp5 (f_X3_tie_35 k1 r1 r2 r3) zF (nI k) (-1) 0 I' L' = _ := b1
        rw [b1', nI_1, ← hk1]
        rw [i1, i2] at b7 b8
        refine t_11 hr1 hr2 h4 hN1 hN2 hB0 r (k + 1) _ _ I2 L' R2 f (by omega) (by omega) (pi_add hP a3 a4) (a10.cg (b2 57 (by decide))) b3 (RCl_cg b4 (fun a b ha hb => ⟨fun w => clo_mono (fun x y hxy => ?_) w, fun w => clo_mono (fun x y hxy => ?_) w⟩)) (fun p x y z => by rw [b2 p x, a2.1 p y z]; exact hI p x y z) (fun p x y => by rw [a2.2 p x y]; exact hL p x y)
        · rcases b7 x y hxy with (h | ⟨t1, t2, q, q', t3, t4, t5⟩) | ⟨⟨q, q1, q2⟩, ⟨q', q3, q4⟩⟩
          · exact clo_b (Or.inl h)
          · exact clo_b (Or.inr ⟨t1, t2, q, q', ⟨t3.1, fun w => t3.2 w.1⟩, ⟨t4.1, fun w => t4.2 w.1⟩, t5⟩)
          · obtain ⟨u1, u2⟩ := b5 x y hxy
            have s1 := (a9 q).mp q1
            have s2 := (a9 q').mp q3
            exact clo_b (Or.inr ⟨u1, u2, q, q', ⟨hP.1 q s1.1, fun w => w.2 s1.2⟩, ⟨hP.1 q' s2.1, fun w => w.2 s2.2⟩, clo_t (clo_s s1.2) s2.2, q2, q4⟩)
        · rcases hxy with h | ⟨t1, t2, q, q', t3, t4, t5, t6, t7⟩
          · exact clo_b (b6 x y (Or.inl h))
          · by_cases w : Rm q
            · have cq : clo (bes S) s q := Classical.not_not.mp fun n => t3.2 ⟨w, n⟩
              have w' : Rm q' := (pi_clo hP (hP.1 q w) t5).mp w
              exact b8 x y t1 t2 ⟨q, (a9 q).mpr ⟨w, cq⟩, t6⟩ ⟨q', (a9 q').mpr ⟨w', clo_t cq t5⟩, t7⟩
            · have w' : ¬ Rm q' := fun u => w ((pi_clo hP t3.1 t5).mpr u)
              exact clo_b (b6 x y (Or.inr ⟨t1, t2, q, q', ⟨t3.1, w⟩, ⟨t4.1, w'⟩, t5, t6, t7⟩))
theorem c_tie {r1 r2 r3 : Nat} {I : zI} {L : zL} {B0 : Nat → Nat → Prop} {R : Nat → Nat} (hr1 : r1 ≠ 71 ∧ r1 ≠ 57 ∧ r1 ≠ 59) (hr2 : r2 ≠ 71 ∧ r2 ≠ 57 ∧ r2 ≠ 59) (hr3 : r3 ≠ 58) (hp : RPeel I L) (hN1 : ∀ q, q < 4096 → I r1 q = -1 ∨ ∃ x, x < nd ∧ I r1 q = nI x) (hN2 : ∀ q, q < 4096 → I r2 q = -1 ∨ ∃ x, x < nd ∧ I r2 q = nI x) (hB0 : ∀ a b, B0 a b → a < nd ∧ b < nd) (hU : UFR nd R I) (hC : RCl nd R B0) :
    ∃ I' L' R', f_X3_tie r1 r2 r3 I L = some (I', L') ∧ RPeel I' L' ∧ UFR nd R' I' ∧ RCl nd R' (fun a b => B0 a b ∨ TB (fun q => q < 4096 ∧ bt (L r3 (q / 64)) (q % 64) = true) (fun q => q < 4096 ∧ bt (L r3 (q / 64)) (q % 64) = true) (I r1) (I r2) nd a b) ∧ (∀ p, p ≠ 71 → p ≠ 57 → p ≠ 59 → I' p = I p) ∧ (∀ p, p ≠ 58 → p ≠ 60 → L' p = L p) := by
  obtain ⟨I2, L2, b1, b2, b3⟩ := c_popen (r := r3) (I := I) (L := L) hp hr3
  unfold f_X3_tie
  rw [b1, zb2_b]
  have hU' : UFR nd R I2 := by
    obtain ⟨u1, u2, u3⟩ := hU
    exact ⟨u1, by rw [b2.1 61 (by decide) (by decide)]; exact u2, by rw [b2.1 71 (by decide) (by decide)]; exact u3⟩
  exact t_11 (S := fun q => q < 4096 ∧ bt (L r3 (q / 64)) (q % 64) = true) (Ia := I) (L0 := L) hr1 hr2 (fun q hq => hq.1) hN1 hN2 hB0 2048 0 (fun _ => 0) _ I2 L2 R zF (by omega) (zF_lt (by omega)) (pi_0 _) b3 hU' (RCl_cg hC (fun a b ha hb => ⟨fun w => clo_mono (fun x y h => clo_b (Or.inl h)) w, fun w => clo_mono (fun x y h => h.elim clo_b (fun ⟨_, _, q, _, t, _⟩ => absurd t.1 t.2)) w⟩)) (fun p _ y z => b2.1 p y z) b2.2
/-- nets, numbered by their least nodes -/
theorem nn_7 {R : Nat → Nat} {I0 : zI} (hRl : ∀ a, a < nd → R a ≤ a ∧ R (R a) = R a) (hn : nd ≤ 16384) : ∀ r v k g I f, v + r = nd → r < f → UFR nd R I → I 61 1 = nI k → k ≤ v → (∀ i, i < v → I 72 i = nI (g i)) → cls (fun q => q < v) (fun a b => R a = R b) g k → (∀ p, p ≠ 71 → p ≠ 72 → p ≠ 61 → I p = I0 p) → (∀ j, j ≠ 1 → j ≠ 6 → I 61 j = I0 61 j) → ∃ k' g' I', zlp2 f_X3_numberNets_7 f (nI v) I = some I' ∧ I' 61 1 = nI k' ∧ k' ≤ nd ∧ (∀ i, i < nd → I' 72 i = nI (g' i)) ∧ cls (fun q => q < nd) (fun a b => R a = R b) g' k' ∧ (∀ p, p ≠ 71 → p ≠ 72 → p ≠ 61 → I' p = I0 p)
  | _, _, _, _, _, 0, _, h, _, _, _, _, _, _, _ => absurd h (by omega)
  | 0, v, k, g, I, f + 1, hv, _, hU, h1, hk, h2, h3, h4, _ => by
    have : v = nd := by omega
    subst this
    refine ⟨k, g, I, ?_, h1, hk, h2, h3, h4⟩
    show f_X3_numberNets_7 _ (nI v) I = _
    unfold f_X3_numberNets_7
    rw [hU.2.1, if_pos (Int32.le_refl _)]
  | r + 1, v, k, g, I, f + 1, hv, hf, hU, h1, hk, h2, h3, h4, h5 => by
    have ih := fun k g I => nn_7 (I0 := I0) hRl hn r (v + 1) k g I f (by omega) (by omega)
    have e1 : zlp2 f_X3_numberNets_7 (f + 1) (nI v) I = f_X3_numberNets_7 (zlp2 f_X3_numberNets_7 f) (nI v) I := rfl
    rw [e1]
    generalize zlp2 f_X3_numberNets_7 f = k1 at ih ⊢
    obtain ⟨I1, a1, a2, a3⟩ := c_least' (show v < nd by omega) hU
    obtain ⟨r1, r2⟩ := hRl v (by omega)
    have hb : zbd (nI v) 16384 = true := zbd_nI (by omega) (by decide)
    have hcl : (nI v).toNatClampNeg = v := nI_clamp (by omega)
    have uf : ∀ I2 : zI, I2 71 = I1 71 → I2 61 6 = I1 61 6 → UFR nd R I2 := fun I2 q1 q2 => by
      obtain ⟨u1, u2, u3⟩ := a3
      exact ⟨u1, by rw [q2]; exact u2, by rw [q1]; exact u3⟩
    unfold f_X3_numberNets_7 f_X3_numberNets_61
    rw [hU.2.1, if_neg (nI_ge (by omega) (by omega)), a1, zb2_b]
    by_cases z : R v = v
    · rw [if_pos (by rw [z]), zck_t _ hb, hcl, a2 61 (by decide), h1]
      have e6 : ∀ x, zu I1 72 v x 61 1 = nI k := fun x => by rw [zu_p _ _ (by decide), a2 61 (by decide)]; exact h1
      simp only [zlt_b, e6, nI_1]
      have fr : ∀ a, a < v → ¬ R a = R v := fun a ha e => by have := (hRl a (by omega)).1; omega
      refine ih (k + 1) (fadd (fun q => q = v) k g) _ (uf _ (by rw [zu_pf _ _ (by decide), zu_pf _ _ (by decide)]) (by rw [zu_k _ _ (by decide), zu_p _ _ (by decide)])) (zu_eq _ _ _ _) (by omega) (fun i hi => ?_) (cls_cS (cls_add (C := fun q => q = v) (s := v) h3 rfl (fun a b ha hb => by rw [ha, hb]) (fun a b ha hb => by rw [hb]; exact ⟨fr a ha, fun w => fr a ha w.symm⟩) (fun x hx => ?_)) (fun q => by omega)) (fun p x y z => by rw [zu_pf _ _ z, zu_pf _ _ y, a2 p x]; exact h4 p x y z) (fun j x y => by rw [zu_k _ _ x, zu_p _ _ (by decide), a2 61 (by decide)]; exact h5 j x y)
      · rw [zu_p _ _ (by decide)]
        by_cases w : i = v
        · subst w; rw [zu_eq, fadd_t (C := fun q => q = i) rfl]
        · rw [zu_k _ _ w, fadd_f (C := fun q => q = v) w, a2 72 (by decide)]; exact h2 i (by omega)
      · obtain ⟨q, q1, q2⟩ := h3.2.2.1 x hx
        exact ⟨q, q1, q2, fun b hb => by rw [hb]; exact q1⟩
    · have rl : R v < v := by omega
      rw [if_neg (fun y => z ((nI_eq (by omega) (by omega)).mp y)), zck_t _ (zbd_nI (by omega) (by decide)), zck_t _ hb, hcl, nI_clamp (by omega), a2 72 (by decide), h2 (R v) rl]
      simp only [zlt_b, nI_1]
      have gv : ∀ i, i ≠ v → fadd (fun q => q = v) (g (R v)) g i = g i := fun i hi => fadd_f hi
      have gvv : fadd (fun q => q = v) (g (R v)) g v = g (R v) := fadd_t rfl
      refine ih k (fadd (fun q => q = v) (g (R v)) g) _ (uf _ (by rw [zu_pf _ _ (by decide)]) (by rw [zu_p _ _ (by decide)])) (by rw [zu_p _ _ (by decide), a2 61 (by decide)]; exact h1) (by omega) (fun i hi => ?_) ⟨fun q hq => ?_, fun a b ha hb => ?_, fun x hx => ?_, fun x b hb hlt => ?_⟩ (fun p x y z => by rw [zu_pf _ _ y, a2 p x]; exact h4 p x y z) (fun j x y => by rw [zu_p _ _ (by decide), a2 61 (by decide)]; exact h5 j x y)
      · by_cases w : i = v
        · subst w; rw [zu_eq, gvv]
        · rw [zu_k _ _ w, gv i w, a2 72 (by decide)]; exact h2 i (by omega)
      · by_cases w : q = v
        · rw [w, gvv]; exact h3.1 _ rl
        · rw [gv q w]; exact h3.1 q (by omega)
      · have key : ∀ x, x < v + 1 → ∃ y, y < v ∧ R y = R x ∧ fadd (fun q => q = v) (g (R v)) g x = g y := fun x hx => by
          by_cases w : x = v
          · subst w; exact ⟨R x, rl, r2, gvv⟩
          · exact ⟨x, by omega, rfl, gv x w⟩
        obtain ⟨a', a1', a2', a3'⟩ := key a ha
        obtain ⟨b', b1', b2', b3'⟩ := key b hb
        rw [a3', b3', h3.2.1 a' b' a1' b1']
        show (R a' = R b') ↔ (R a = R b)
        rw [a2', b2']
      · obtain ⟨q, q1, q2⟩ := h3.2.2.1 x hx
        exact ⟨q, by omega, by rw [gv q (by omega)]; exact q2⟩
      · by_cases w : b = v
        · rw [w, gvv] at hlt
          obtain ⟨a, x1, x2, x3⟩ := h3.2.2.2 x (R v) rl hlt
          exact ⟨a, by omega, by omega, by rw [gv a (by omega)]; exact x3⟩
        · rw [gv b w] at hlt
          obtain ⟨a, x1, x2, x3⟩ := h3.2.2.2 x b (by omega) hlt
          exact ⟨a, by omega, x2, by rw [gv a (by omega)]; exact x3⟩
theorem c_number {R : Nat → Nat} {I : zI} (hU : UFR nd R I) : ∃ k g I', f_X3_numberNets I = some I' ∧ I' 61 1 = nI k ∧ k ≤ nd ∧ (∀ i, i < nd → I' 72 i = nI (g i)) ∧ cls (fun q => q < nd) (fun a b => R a = R b) g k ∧ (∀ p, p ≠ 71 → p ≠ 72 → p ≠ 61 → I' p = I p) := by
  unfold f_X3_numberNets
  rw [zlt_b]
  have hU' : UFR nd R (zu I 61 1 0) := by
    obtain ⟨u1, u2, u3⟩ := hU
    exact ⟨u1, by rw [zu_k _ _ (by decide)]; exact u2, by rw [zu_pf _ _ (by decide)]; exact u3⟩
  exact nn_7 (I0 := I) (fun a ha => hU.root ha) hU.1 nd 0 0 (fun _ => 0) _ zF (by omega) (zF_lt (by have := hU.1; omega)) hU' (zu_eq _ _ _ _) (Nat.le_refl _) (fun i hi => absurd hi (by omega)) (cls_0 (fun q h => absurd h (by omega))) (fun p _ _ c => zu_pf _ _ c) (fun j a _ => zu_k _ _ a _)
end Ti
