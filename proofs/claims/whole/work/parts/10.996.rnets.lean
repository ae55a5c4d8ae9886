/-! the reference's nets are those asked for -/
section Rn
variable {D : Nat → Nat → Nat}
theorem stp_q {j c b n q : Nat} (hS : SqS D (D 7 j) q) (h : nq (nod D (D 5 j)) (nod D (D 6 j)) q n) (hn : n < ndn D) (hb : shf D (D 7 j) q = b) : ∃ c, c < 8192 ∧ stp D j c b n := by
  have := hS.1
  rcases h with h | h
  · refine ⟨2 * q, by omega, by rw [show 2 * q / 2 = q by omega]; exact hS, by rw [show 2 * q / 2 = q by omega]; exact hb, ?_, hn⟩
    rw [show 2 * q / 2 = q by omega, if_pos (by omega)]; exact h
  · refine ⟨2 * q + 1, by omega, by rw [show (2 * q + 1) / 2 = q by omega]; exact hS, by rw [show (2 * q + 1) / 2 = q by omega]; exact hb, ?_, hn⟩
    rw [show (2 * q + 1) / 2 = q by omega, if_neg (by omega)]; exact h
theorem stp_nq {j c b n : Nat} (h : stp D j c b n) : nq (nod D (D 5 j)) (nod D (D 6 j)) (c / 2) n := by
  have := h.2.2.1
  by_cases z : c % 2 = 0
  · rw [if_pos z] at this; exact Or.inl this
  · rw [if_neg z] at this; exact Or.inr this
theorem stp_tt {j c c' b n n' : Nat} (hj : j < D 0 2) (h : stp D j c b n) (g : stp D j c' b n') : TT D (D 0 2) n n' :=
  ⟨j, hj, h.2.2.2, g.2.2.2, c / 2, c' / 2, h.1, g.1, ((sh_cls D (D 7 j)).2.1 _ _ h.1 g.1).mp (by rw [h.2.1, g.2.1]), stp_nq h, stp_nq g⟩
theorem tt_stp {a a' : Nat} (h : TT D (D 0 2) a a') : ∃ j b c c', j < D 0 2 ∧ c < 8192 ∧ c' < 8192 ∧ stp D j c b a ∧ stp D j c' b a' := by
  obtain ⟨j, hj, t1, t2, q, q', t3, t4, t5, t6, t7⟩ := h
  obtain ⟨c, c1, c2⟩ := stp_q (b := shf D (D 7 j) q) (c := 0) t3 t6 t1 rfl
  obtain ⟨c', d1, d2⟩ := stp_q (b := shf D (D 7 j) q) (c := 0) t4 t7 t2 (((sh_cls D (D 7 j)).2.1 _ _ t3 t4).mpr t5).symm
  exact ⟨j, _, c, c', hj, c1, d1, c2, d2⟩
def NuI (D : Nat → Nat → Nat) (nu : Nat → Nat) (J : zI) : Prop := ∀ n, n < ndn D → J 122 n = nI (nu n) ∧ nu n ≤ n ∧ clo (TT D (D 0 2)) n (nu n)
def SmN (D : Nat → Nat → Nat) (nu : Nat → Nat) (jj : Nat) : Prop := ∀ j b c c' n n', j < jj → c < 8192 → c' < 8192 → stp D j c b n → stp D j c' b n' → nu n = nu n'
theorem m_84 {k76 : Int32 → zI → Option zI} {nu0 : Nat → Nat} {J0 : zI} (hv : DV D) (hN : RNo D J0) : ∀ r jj nu mo J f, jj + r = D 0 2 → r < f → NuI D nu J → (∀ n, nu n ≤ nu0 n) → ((mo = 0 ∧ (∀ n, nu n = nu0 n) ∧ SmN D nu0 jj) ∨ (mo = 1 ∧ ∃ n, n < ndn D ∧ nu n < nu0 n)) → (∀ p, p ≠ 122 → p ≠ 131 → J p = J0 p) → ∃ nu' mo' J', zlp3 (f_X12_findNets_84 k76) f mo (nI jj) J = k76 mo' J' ∧ NuI D nu' J' ∧ (∀ n, nu' n ≤ nu0 n) ∧ ((mo' = 0 ∧ (∀ n, nu' n = nu0 n) ∧ SmN D nu0 (D 0 2)) ∨ (mo' = 1 ∧ ∃ n, n < ndn D ∧ nu' n < nu0 n)) ∧ (∀ p, p ≠ 122 → p ≠ 131 → J' p = J0 p)
  | _, _, _, _, _, 0, _, h, _, _, _, _ => absurd h (by omega)
  | 0, jj, nu, mo, J, f + 1, hj, _, h1, h2, h3, h4 => by
    have : jj = D 0 2 := by omega
    subst this
    refine ⟨nu, mo, J, ?_, h1, h2, h3, h4⟩
    show f_X12_findNets_84 k76 _ mo (nI _) J = _
    unfold f_X12_findNets_84
    rw [h4 97 (by decide) (by decide), hN.1.1 2 (by omega), if_pos (Int32.le_refl _)]
  | r + 1, jj, nu, mo, J, f + 1, hj, hf, h1, h2, h3, h4 => by
    have ih := fun nu mo J => m_84 (k76 := k76) (nu0 := nu0) hv hN r (jj + 1) nu mo J f (by omega) (by omega)
    have e1 : zlp3 (f_X12_findNets_84 k76) (f + 1) mo (nI jj) J = f_X12_findNets_84 k76 (zlp3 (f_X12_findNets_84 k76) f) mo (nI jj) J := rfl
    rw [e1]
    generalize zlp3 (f_X12_findNets_84 k76) f = k1 at ih ⊢
    have v3 := hv.1.2.2.1
    have hNJ : RNo D J := hN.cg (fun p _ _ => h4 p (by omega) (by omega)) (fun _ _ => by rw [h4 97 (by decide) (by decide)])
    obtain ⟨nv, ch, J', a1, a2, a3, a4, a5, a6⟩ := c_lower (j := jj) (nu := nu) hv hNJ (by omega) (fun n hn => ⟨(h1 n hn).1, (h1 n hn).2.1⟩)
    have hI : NuI D nv J' := fun n hn => by
      refine ⟨a2 n hn, Nat.le_trans (a3 n) (h1 n hn).2.1, ?_⟩
      rcases a4 n hn with h | ⟨b, c, c', n', -, -, s1, s2, h⟩
      · rw [h]; exact (h1 n hn).2.2
      · rw [h]; exact clo_t (clo_b (stp_tt (by omega) s1 s2)) (h1 n' s2.2.2.2).2.2
    have fr : ∀ p, p ≠ 122 → p ≠ 131 → J' p = J0 p := fun p x y => by rw [a6 p x y]; exact h4 p x y
    have le : ∀ n, nv n ≤ nu0 n := fun n => Nat.le_trans (a3 n) (h2 n)
    unfold f_X12_findNets_84 f_X12_findNets_106 f_X12_findNets_111
    rw [h4 97 (by decide) (by decide), hN.1.1 2 (by omega), if_neg (nI_ge (by omega) (by omega)), a1, zb2_b, zlt_b, zlt_b, nI_1]
    rcases h3 with ⟨rfl, m1, m2⟩ | ⟨rfl, n, n1, n2⟩
    · rw [if_pos rfl]
      rcases a5 with ⟨rfl, b1, b2⟩ | ⟨rfl, n, n1, n2⟩
      · rw [if_pos rfl]
        refine ih nv 0 J' hI le (Or.inl ⟨rfl, fun n => by rw [b1, m1], fun j b c c' n n' hj hc hc' s1 s2 => ?_⟩) fr
        by_cases z : j = jj
        · subst z; rw [← m1, ← m1]; exact b2 b c c' n n' hc hc' s1 s2
        · exact m2 j b c c' n n' (by omega) hc hc' s1 s2
      · rw [if_neg n10]
        exact ih nv 1 J' hI le (Or.inr ⟨rfl, n, n1, by rw [← m1]; exact n2⟩) fr
    · rw [if_neg n10]
      exact ih nv 1 J' hI le (Or.inr ⟨rfl, n, n1, by have := a3 n; omega⟩) fr
theorem sm_lt {f g : Nat → Nat} {x : Nat} (h : ∀ i, f i ≤ g i) (hx : f x < g x) : ∀ n, smm f n ≤ smm g n ∧ (x < n → smm f n < smm g n)
  | 0 => ⟨Nat.le_refl _, fun w => absurd w (by omega)⟩
  | n + 1 => by
    obtain ⟨a, b⟩ := sm_lt h hx n
    have := h n
    refine ⟨show smm f n + f n ≤ smm g n + g n by omega, fun w => show smm f n + f n < smm g n + g n from ?_⟩
    by_cases z : x = n
    · subst z; omega
    · have := b (by omega); omega
theorem zlp2_s {A1 A2 β : Type} (F : (A1 → A2 → Option β) → A1 → A2 → Option β) (n : Nat) (a1 : A1) (a2 : A2) : zlp2 F (n + 1) a1 a2 = F (zlp2 F n) a1 a2 := rfl
theorem m_76a {k76 : Int32 → zI → Option zI} {v1 : Int32} {J : zI} (h : v1 = 0) : f_X12_findNets_76 k76 v1 J = zlp2 f_X12_findNets_128 zF 0 (zu J 97 38 0) := by
  unfold f_X12_findNets_76
  rw [if_pos h, zlt_b]
theorem m_76b {k76 : Int32 → zI → Option zI} {v1 : Int32} {J : zI} (h : ¬ v1 = 0) : f_X12_findNets_76 k76 v1 J = zlp3 (f_X12_findNets_84 k76) zF 0 0 J := by
  unfold f_X12_findNets_76
  rw [if_neg h]
theorem m_76 {J0 : zI} (hv : DV D) (hN : RNo D J0) : ∀ M nu J f, smm nu (ndn D) ≤ M → M + 2 ≤ f → NuI D nu J → (∀ p, p ≠ 122 → p ≠ 131 → J p = J0 p) → ∃ nu' J', zlp2 f_X12_findNets_76 f 1 J = zlp2 f_X12_findNets_128 zF 0 (zu J' 97 38 0) ∧ NuI D nu' J' ∧ SmN D nu' (D 0 2) ∧ (∀ p, p ≠ 122 → p ≠ 131 → J' p = J0 p) := by
  intro M
  induction M with
  | zero =>
    intro nu J f hM hf h1 h4
    obtain ⟨f, rfl⟩ : ∃ q, f = q + 1 + 1 := ⟨f - 2, by omega⟩
    obtain ⟨nu', mo', J', a1, a2, a3, a4, a5⟩ := m_84 (k76 := zlp2 f_X12_findNets_76 (f + 1)) (nu0 := nu) hv hN (D 0 2) 0 nu 0 J zF (by omega) (zF_lt (by have := hv.1.2.2.1; omega)) h1 (fun _ => Nat.le_refl _) (Or.inl ⟨rfl, fun _ => rfl, fun j _ _ _ _ _ h => absurd h (by omega)⟩) h4
    have a1 : zlp3 (f_X12_findNets_84 (zlp2 f_X12_findNets_76 (f + 1))) zF 0 0 J = _ := a1
    rw [zlp2_s, m_76b n10, a1]
    rcases a4 with ⟨rfl, b1, b2⟩ | ⟨rfl, n, n1, n2⟩
    · rw [zlp2_s, m_76a rfl]
      refine ⟨nu', J', rfl, a2, ?_, a5⟩
      have : nu' = nu := funext b1
      rw [this]; exact b2
    · have := (sm_lt a3 n2 (ndn D)).2 n1; omega
  | succ M ih =>
    intro nu J f hM hf h1 h4
    obtain ⟨f, rfl⟩ : ∃ q, f = q + 1 + 1 := ⟨f - 2, by omega⟩
    obtain ⟨nu', mo', J', a1, a2, a3, a4, a5⟩ := m_84 (k76 := zlp2 f_X12_findNets_76 (f + 1)) (nu0 := nu) hv hN (D 0 2) 0 nu 0 J zF (by omega) (zF_lt (by have := hv.1.2.2.1; omega)) h1 (fun _ => Nat.le_refl _) (Or.inl ⟨rfl, fun _ => rfl, fun j _ _ _ _ _ h => absurd h (by omega)⟩) h4
    have a1 : zlp3 (f_X12_findNets_84 (zlp2 f_X12_findNets_76 (f + 1))) zF 0 0 J = _ := a1
    rw [zlp2_s, m_76b n10, a1]
    rcases a4 with ⟨rfl, b1, b2⟩ | ⟨rfl, n, n1, n2⟩
    · rw [zlp2_s, m_76a rfl]
      refine ⟨nu', J', rfl, a2, ?_, a5⟩
      have : nu' = nu := funext b1
      rw [this]; exact b2
    · have := (sm_lt a3 n2 (ndn D)).2 n1
      exact ih nu' J' (f + 1) (by omega) (by omega) a2 a5
/-- numbers -/
theorem m_128 {R : Nat → Nat} {J0 : zI} {nd : Nat} (hRl : ∀ a, a < nd → R a ≤ a ∧ R (R a) = R a) (hn : nd ≤ 16384) (h35 : J0 97 35 = nI nd) (h122 : ∀ n, n < nd → J0 122 n = nI (R n)) : ∀ r v k g J f, v + r = nd → r < f → J 97 38 = nI k → k ≤ v → (∀ i, i < v → J 123 i = nI (g i)) → cls (fun q => q < v) (fun a b => R a = R b) g k → (∀ p, p ≠ 97 → p ≠ 123 → J p = J0 p) → (∀ i, i ≠ 38 → J 97 i = J0 97 i) → ∃ k' g' J', zlp2 f_X12_findNets_128 f (nI v) J = some J' ∧ J' 97 38 = nI k' ∧ (∀ i, i < nd → J' 123 i = nI (g' i)) ∧ cls (fun q => q < nd) (fun a b => R a = R b) g' k' ∧ (∀ p, p ≠ 97 → p ≠ 123 → J' p = J0 p) ∧ (∀ i, i ≠ 38 → J' 97 i = J0 97 i)
  | _, _, _, _, _, 0, _, h, _, _, _, _, _, _ => absurd h (by omega)
  | 0, v, k, g, J, f + 1, hv, _, h1, hk, h2, h3, h4, h5 => by
    have : v = nd := by omega
    subst this
    refine ⟨k, g, J, ?_, h1, h2, h3, h4, h5⟩
    show f_X12_findNets_128 _ (nI v) J = _
    unfold f_X12_findNets_128
    rw [h5 35 (by decide), h35, if_pos (Int32.le_refl _)]
  | r + 1, v, k, g, J, f + 1, hv, hf, h1, hk, h2, h3, h4, h5 => by
    have ih := fun k g J => m_128 (J0 := J0) hRl hn h35 h122 r (v + 1) k g J f (by omega) (by omega)
    have e1 : zlp2 f_X12_findNets_128 (f + 1) (nI v) J = f_X12_findNets_128 (zlp2 f_X12_findNets_128 f) (nI v) J := rfl
    rw [e1]
    generalize zlp2 f_X12_findNets_128 f = k1 at ih ⊢
    obtain ⟨r1, r2⟩ := hRl v (by omega)
    have hb : zbd (nI v) 32768 = true := zbd_nI (by omega) (by decide)
    have hcl : (nI v).toNatClampNeg = v := nI_clamp (by omega)
    unfold f_X12_findNets_128 f_X12_findNets_186
    rw [h5 35 (by decide), h35, if_neg (nI_ge (by omega) (by omega)), zck_t _ hb, hcl, h4 122 (by decide) (by decide), h122 v (by omega)]
    by_cases z : R v = v
    · rw [if_pos (by rw [z]), zck_t _ hb, h1, zlt_b, zu_p _ _ (by decide), h1, nI_1, zlt_b, zlt_b, zlt_b, nI_1]
      have fr : ∀ a, a < v → ¬ R a = R v := fun a ha e => by have := (hRl a (by omega)).1; omega
      refine ih (k + 1) (fadd (fun q => q = v) k g) _ (zu_eq _ _ _ _) (by omega) (fun i hi => ?_) (cls_cS (cls_add (C := fun q => q = v) (s := v) h3 rfl (fun a b ha hb => by rw [ha, hb]) (fun a b ha hb => by rw [hb]; exact ⟨fr a ha, fun w => fr a ha w.symm⟩) (fun x hx => ?_)) (fun q => by omega)) (fun p x y => by rw [zu_pf _ _ x, zu_pf _ _ y]; exact h4 p x y) (fun j x => by rw [zu_k _ _ x, zu_p _ _ (by decide)]; exact h5 j x)
      · rw [zu_p _ _ (by decide)]
        by_cases w : i = v
        · subst w; rw [zu_eq, fadd_t (C := fun q => q = i) rfl]
        · rw [zu_k _ _ w, fadd_f (C := fun q => q = v) w]; exact h2 i (by omega)
      · obtain ⟨q, q1, q2⟩ := h3.2.2.1 x hx
        exact ⟨q, q1, q2, fun b hb => by rw [hb]; exact q1⟩
    · have rl : R v < v := by omega
      rw [if_neg (fun y => z ((nI_eq (by omega) (by omega)).mp y)), zck_t _ hb, zlt_b, zck_t _ (zbd_nI (by omega) (by decide)), zck_t _ hb, nI_clamp (n := R v) (by omega), h2 (R v) rl, zlt_b, zlt_b, nI_1]
      have gv : ∀ i, i ≠ v → fadd (fun q => q = v) (g (R v)) g i = g i := fun i hi => fadd_f hi
      have gvv : fadd (fun q => q = v) (g (R v)) g v = g (R v) := fadd_t rfl
      refine ih k (fadd (fun q => q = v) (g (R v)) g) _ (by rw [zu_p _ _ (by decide)]; exact h1) (by omega) (fun i hi => ?_) ⟨fun q hq => ?_, fun a b ha hb => ?_, fun x hx => ?_, fun x b hb hlt => ?_⟩ (fun p x y => by rw [zu_pf _ _ y]; exact h4 p x y) (fun j x => by rw [zu_p _ _ (by decide)]; exact h5 j x)
      · by_cases w : i = v
        · subst w; rw [zu_eq, gvv]
        · rw [zu_k _ _ w, gv i w]; exact h2 i (by omega)
      · by_cases w : q = v
        · rw [w, gvv]; exact h3.1 _ rl
        · rw [gv q w]; exact h3.1 q (by omega)
      · have key : ∀ x, x < v + 1 → ∃ y, y < v ∧ R y = R x ∧ fadd (fun q => q = v) (g (R v)) g x = g y := fun x hx => by
          by_cases w : x = v
          · subst w; exact ⟨R x, rl, r2, gvv⟩
          · exact ⟨x, by omega, rfl, gv x w⟩
        obtain ⟨a', a1', a2', a3'⟩ := key a ha
        obtain ⟨b', b1', b2', b3'⟩ := key b hb
        rw [a3', b3', h3.2.1 a' b' a1' b1']
        show (R a' = R b') ↔ (R a = R b)
        rw [a2', b2']
      · obtain ⟨q, q1, q2⟩ := h3.2.2.1 x hx
        exact ⟨q, by omega, by rw [gv q (by omega)]; exact q2⟩
      · by_cases w : b = v
        · rw [w, gvv] at hlt
          obtain ⟨a, x1, x2, x3⟩ := h3.2.2.2 x (R v) rl hlt
          exact ⟨a, by omega, by omega, by rw [gv a (by omega)]; exact x3⟩
        · rw [gv b w] at hlt
          obtain ⟨a, x1, x2, x3⟩ := h3.2.2.2 x b (by omega) hlt
          exact ⟨a, by omega, x2, by rw [gv a (by omega)]; exact x3⟩
/-- net and number -/
def RNt (D : Nat → Nat → Nat) (J : zI) : Prop := (∀ n, n < ndn D → J 123 n = nI (gn D n)) ∧ J 97 38 = nI (nns D)
def FM (J0 J : zI) : Prop := (∀ p, p ≠ 97 → p ≠ 121 → p ≠ 122 → p ≠ 123 → p ≠ 131 → J p = J0 p) ∧ ∀ i, i ≠ 35 → i ≠ 38 → J 97 i = J0 97 i
theorem m_53 {J0 : zI} (hv : DV D) (hN : RNo D J0) (h35 : J0 97 35 = nI (ndn D)) : ∀ r v J f, v + r = ndn D → r < f → (∀ i, i < v → J 122 i = nI i) → (∀ p, p ≠ 122 → J p = J0 p) → ∃ J', zlp2 f_X12_findNets_53 f (nI v) J = some J' ∧ RNo D J' ∧ RNt D J' ∧ (∀ p, p ≠ 97 → p ≠ 122 → p ≠ 123 → p ≠ 131 → J' p = J0 p) ∧ ∀ i, i ≠ 38 → J' 97 i = J0 97 i
  | _, _, _, 0, _, h, _, _ => absurd h (by omega)
  | 0, v, J, f + 1, hv', _, h1, h2 => by
    have : v = ndn D := by omega
    subst this
    have hnd := ndn_le hv
    have sl : smm (fun n => n) (ndn D) ≤ 16384 * 16384 := by
      have : ∀ n, n ≤ 16384 → smm (fun n => n) n ≤ 16384 * n := fun n => by
        induction n with
        | zero => intro _; exact Nat.le_refl _
        | succ n ih => intro h; have := ih (by omega); show smm (fun n => n) n + n ≤ _; rw [Nat.mul_succ]; omega
      have h1 := this (ndn D) hnd
      have h2 : 16384 * ndn D ≤ 16384 * 16384 := Nat.mul_le_mul_left _ hnd
      omega
    obtain ⟨nu, J1, a1, a2, a3, a4⟩ := m_76 (J0 := J) hv (hN.cg (fun p _ _ => h2 p (by omega)) (fun _ _ => by rw [h2 97 (by decide)])) (16384 * 16384) (fun n => n) J zF sl (Nat.le_of_lt (zF_lt (by omega))) (fun n hn => ⟨h1 n hn, Nat.le_refl _, clo_r _ _⟩) (fun _ _ _ => rfl)
    have inv : ∀ a b, clo (TT D (D 0 2)) a b → nu a = nu b := fun a b => clo_inv (fun x y h => by
      obtain ⟨j, b, c, c', hj, hc, hc', s1, s2⟩ := tt_stp h
      exact a3 j b c c' x y hj hc hc' s1 s2)
    have z38 : ∀ p, p ≠ 97 → zu J1 97 38 0 p = J1 p := fun p hp => zu_pf _ _ hp
    obtain ⟨k, g, J2, b1, b2, b3, b4, b5, b6⟩ := m_128 (R := nu) (J0 := zu J1 97 38 0) (nd := ndn D) (fun a ha => ⟨(a2 a ha).2.1, (inv _ _ (a2 a ha).2.2).symm⟩) hnd (by rw [zu_k _ _ (by decide), a4 97 (by decide) (by decide), h2 97 (by decide)]; exact h35) (fun n hn => by rw [z38 122 (by decide)]; exact (a2 n hn).1) (ndn D) 0 0 (fun _ => 0) (zu J1 97 38 0) zF (by omega) (zF_lt (by omega)) (zu_eq _ _ _ _) (Nat.le_refl _) (fun i hi => absurd hi (by omega)) (cls_0 (fun q h => absurd h (by omega))) (fun _ _ _ => rfl) (fun _ _ => rfl)
    have hc := cls_cg b4 (fun q _ => rfl) (R' := clo (TT D (D 0 2))) (fun a b ha hb => ⟨fun w => clo_t (a2 a ha).2.2 (by rw [show nu a = nu b from w]; exact clo_s (a2 b hb).2.2), fun w => inv a b w⟩)
    have fr : ∀ p, p ≠ 97 → p ≠ 122 → p ≠ 123 → p ≠ 131 → J2 p = J0 p := fun p x y z u => by rw [b5 p x z, z38 p x, a4 p y u, h2 p y]
    have f97 : ∀ i, i ≠ 38 → J2 97 i = J0 97 i := fun i hi => by rw [b6 i hi, zu_k _ _ hi, a4 97 (by decide) (by decide), h2 97 (by decide)]
    refine ⟨J2, ?_, hN.cg (fun p _ _ => fr p (by omega) (by omega) (by omega) (by omega)) (fun i hi => f97 i (by omega)), ⟨fun n hn => by rw [b3 n hn]; exact congrArg nI (cf_eq hc hn).symm, by rw [b2]; exact congrArg nI (ck_eq hc).symm⟩, fr, f97⟩
    show f_X12_findNets_53 _ (nI _) J = _
    unfold f_X12_findNets_53
    rw [h2 97 (by decide), h35, if_pos (Int32.le_refl _), a1]
    exact b1
  | r + 1, v, J, f + 1, hv', hf, h1, h2 => by
    have ih := fun J => m_53 hv hN h35 r (v + 1) J f (by omega) (by omega)
    have e1 : zlp2 f_X12_findNets_53 (f + 1) (nI v) J = f_X12_findNets_53 (zlp2 f_X12_findNets_53 f) (nI v) J := rfl
    rw [e1]
    generalize zlp2 f_X12_findNets_53 f = k1 at ih ⊢
    have hnd := ndn_le hv
    unfold f_X12_findNets_53
    rw [h2 97 (by decide), h35, if_neg (nI_ge (by omega) (by omega)), zck_t _ (zbd_nI (by omega) (by decide)), nI_clamp (n := v) (by omega), zlt_b, zlt_b, nI_1]
    refine ih _ (fun i hi => ?_) (fun p hp => by rw [zu_pf _ _ hp]; exact h2 p hp)
    by_cases y : i = v
    · subst y; rw [zu_eq]
    · rw [zu_k _ _ y]; exact h1 i (by omega)
theorem m_7 {J0 : zI} (hv : DV D) (hd : DM D J0) (hL : LSh D J0 (D 0 0)) : ∀ r w J f, w + r = D 0 1 → r < f → J 97 35 = nI (fw D w) → (∀ v, v < w → J 121 v = nI (fw D v)) → (∀ p, p ≠ 97 → p ≠ 121 → J p = J0 p) → (∀ i, i ≠ 35 → J 97 i = J0 97 i) → ∃ J', zlp2 f_X12_findNets_7 f (nI w) J = some J' ∧ RNo D J' ∧ RNt D J' ∧ FM J0 J'
  | _, _, _, 0, _, h, _, _, _, _ => absurd h (by omega)
  | 0, w, J, f + 1, hw, _, h1, h2, h3, h4 => by
    have : w = D 0 1 := by omega
    subst this
    have hN : RNo D J := ⟨hd.cg (fun p _ _ => h3 p (by omega) (by omega)) (fun j hj => h4 j (by omega)), by unfold LSh; rw [h3 119 (by decide) (by decide), h3 120 (by decide) (by decide)]; exact hL, h2⟩
    obtain ⟨J', a1, a2, a3, a4, a5⟩ := m_53 (J0 := J) hv hN h1 (ndn D) 0 J zF (by omega) (zF_lt (by have := ndn_le hv; omega)) (fun i hi => absurd hi (by omega)) (fun _ _ => rfl)
    refine ⟨J', ?_, a2, a3, fun p x y z u v => by rw [a4 p x z u v, h3 p x y], fun i x y => by rw [a5 i y, h4 i x]⟩
    show f_X12_findNets_7 _ (nI _) J = _
    unfold f_X12_findNets_7
    rw [h4 13 (by decide), hd.1 1 (by omega), if_pos (Int32.le_refl _)]
    exact a1
  | r + 1, w, J, f + 1, hw, hf, h1, h2, h3, h4 => by
    have ih := fun J => m_7 hv hd hL r (w + 1) J f (by omega) (by omega)
    have e1 : zlp2 f_X12_findNets_7 (f + 1) (nI w) J = f_X12_findNets_7 (zlp2 f_X12_findNets_7 f) (nI w) J := rfl
    rw [e1]
    generalize zlp2 f_X12_findNets_7 f = k1 at ih ⊢
    have v2 := hv.1.2.1
    have v1 := hv.1.1
    have w3 := hv.2.2.1 w (by omega)
    unfold f_X12_findNets_7
    rw [h4 13 (by decide), hd.1 1 (by omega), if_neg (nI_ge (by omega) (by omega)), zck_t _ (zbd_nI (by omega) (by decide)), nI_clamp (n := w) (by omega), h1, zlt_b, zck_t _ (zbd_nI (by omega) (by decide)), zu_p _ _ (by decide), h3 109 (by decide) (by decide), hd.2.2.2.1 w (by omega), zlt_b, zck_t _ (zbd_nI (by omega) (by decide)), zu_p _ _ (by decide), h1, zu_p _ _ (by decide), nI_clamp (n := D 4 w) (by omega), h3 120 (by decide) (by decide), (hL _ w3).1, nI_add, zlt_b, zlt_b, zlt_b, nI_1]
    refine ih _ (zu_eq _ _ _ _) (fun v hv' => ?_) (fun p x y => by rw [zu_pf _ _ x, zu_pf _ _ y]; exact h3 p x y) (fun i x => by rw [zu_k _ _ x, zu_p _ _ (by decide)]; exact h4 i x)
    rw [zu_p _ _ (by decide)]
    by_cases y : v = w
    · subst y; rw [zu_eq]
    · rw [zu_k _ _ y]; exact h2 v (by omega)
theorem m_findNets {J : zI} (hv : DV D) (hd : DM D J) (hL : LSh D J (D 0 0)) : ∃ J', f_X12_findNets J = some J' ∧ RNo D J' ∧ RNt D J' ∧ FM J J' := by
  unfold f_X12_findNets
  rw [zlt_b]
  exact m_7 (J0 := J) hv hd hL (D 0 1) 0 _ zF (by omega) (zF_lt (by have := hv.1.2.1; omega)) (zu_eq _ _ _ _) (fun v h => absurd h (by omega)) (fun p x _ => zu_pf _ _ x) (fun i x => zu_k _ _ x _)
end Rn
