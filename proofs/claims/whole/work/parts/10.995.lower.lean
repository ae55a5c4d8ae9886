/-! the reference lowers: the second round, and both -/
section Lx
variable {D : Nat → Nat → Nat} {j : Nat} {nu m : Nat → Nat} {J0 : zI}
theorem l1_79 {k48 : Int32 → Int32 → Int32 → Int32 → zI → Option (Int32 × zI)} {k57 : Int32 → Int32 → Int32 → Int32 → Int32 → zI → Option (Int32 × zI)} {s : Nat} {v2 : Int32} (hv : DV D) (hN : RNo D J0) (hj : j < D 0 2) (hs : s < 4096) (hnu : ∀ n, n < ndn D → nu n ≤ n) (hm : ∀ b, b < shk D (D 7 j) → J0 131 b = nI (m b) ∧ m b ≤ 40000) (hS : SqS D (D 7 j) s) : ∀ r k nv ch J f, k + r = 2 → r < f → R1i D j nu m J0 (2 * s + k) nv ch J → ∃ nv' ch' J', zlp8 (f_X12_lower_79 k48 k57) f (nI j) v2 ch 1 (nI s) (nI (shf D (D 7 j) s)) (nI k) J = k57 (nI j) v2 ch' 1 (nI (s + 1)) J' ∧ R1i D j nu m J0 (2 * (s + 1)) nv' ch' J'
  | _, _, _, _, _, 0, _, h, _ => absurd h (by omega)
  | 0, k, nv, ch, J, f + 1, hk, _, hR => by
    have : k = 2 := by omega
    subst this
    refine ⟨nv, ch, J, ?_, hR⟩
    show f_X12_lower_79 k48 k57 _ (nI j) v2 ch 1 (nI s) (nI _) (nI 2) J = _
    unfold f_X12_lower_79 f_X12_lower_216
    rw [if_pos (by decide), zlt_b, nI_1]
  | r + 1, k, nv, ch, J, f + 1, hk, hf, hR => by
    have ih := fun nv ch J => l1_79 (k48 := k48) (k57 := k57) (v2 := v2) hv hN hj hs hnu hm hS r (k + 1) nv ch J f (by omega) (by omega)
    have e1 : zlp8 (f_X12_lower_79 k48 k57) (f + 1) (nI j) v2 ch 1 (nI s) (nI (shf D (D 7 j) s)) (nI k) J = f_X12_lower_79 k48 k57 (zlp8 (f_X12_lower_79 k48 k57) f) (nI j) v2 ch 1 (nI s) (nI (shf D (D 7 j) s)) (nI k) J := rfl
    rw [e1]
    generalize zlp8 (f_X12_lower_79 k48 k57) f = k1 at ih ⊢
    obtain ⟨r1, r2, r3, r4, r5, r6⟩ := id hR
    have hNJ : RNo D J := hN.cg (fun p _ _ => r6 p (by omega)) (fun _ _ => by rw [r6 97 (by decide)])
    have sl := shf_lt hS
    have sk := (sh_cls D (D 7 j)).1 s hS
    have e2 : (2 * s + k) / 2 = s := by omega
    have mw := m_wire (D := D) (j := j) hv hj (2 * s + k)
    have hnd := ndn_le hv
    rw [lw_head hv hNJ hj hs (by omega) sl]
    show ∃ nv' ch' J', (if nod D (if (2 * s + k) % 2 = 0 then D 5 j else D 6 j) s = (-1 : Int32) then _ else _) = _ ∧ _
    have up : ∀ c' b n, c' < 2 * s + (k + 1) → stp D j c' b n → c' < 2 * s + k ∨ stp D j (2 * s + k) b n := fun c' b n hc h => by
      by_cases z : c' = 2 * s + k
      · subst z; exact Or.inr h
      · exact Or.inl (by omega)
    by_cases z : nod D (if (2 * s + k) % 2 = 0 then D 5 j else D 6 j) s = -1
    · rw [if_pos z]
      unfold f_X12_lower_210
      rw [zlt_b, nI_1]
      refine ih nv ch J ⟨r1, r2, r3, fun b n c' hc h => ?_, r5, r6⟩
      rcases up c' b n hc h with h1 | h1
      · exact r4 b n c' h1 h
      · have := h1.2.2.1
        rw [e2, z] at this
        exact absurd this.symm (nI_m1 (by have := h1.2.2.2; omega))
    · rw [if_neg z, if_neg n10]
      obtain ⟨n, n1, n2⟩ : ∃ n, n < ndn D ∧ nod D (if (2 * s + k) % 2 = 0 then D 5 j else D 6 j) s = nI n := (nod_or mw s).resolve_left z
      have st : stp D j (2 * s + k) (shf D (D 7 j) s) n := ⟨by rw [e2]; exact hS, by rw [e2], by rw [e2]; exact n2, n1⟩
      obtain ⟨q1, q2⟩ := hm _ sk
      have u2 := hnu n n1
      have u3 := r2 n
      rw [n2, zck_t _ (zbd_nI (by omega) (by decide)), zck_t _ (zbd_nI (by omega) (by decide)), nI_clamp (n := n) (by omega), r6 131 (by decide), r1 n n1, q1]
      by_cases y : nv n ≤ m (shf D (D 7 j) s)
      · rw [if_pos (nI_le y (by omega))]
        unfold f_X12_lower_210
        rw [zlt_b, nI_1]
        refine ih nv ch J ⟨r1, r2, r3, fun b n' c' hc h => ?_, r5, r6⟩
        rcases up c' b n' hc h with h1 | h1
        · exact r4 b n' c' h1 h
        · obtain ⟨a, b⟩ := stp_u hv h1 st
          subst a b; exact y
      · rw [if_neg (nI_ge (by omega) (by omega)), zck_t _ (zbd_nI (by omega) (by decide)), zck_t _ (zbd_nI (by omega) (by decide)), zlt_b]
        unfold f_X12_lower_210
        rw [zlt_b, nI_1]
        obtain ⟨mm, hm1, hm2⟩ : ∃ mm : Nat → Nat, mm n = m (shf D (D 7 j) s) ∧ ∀ b, b ≠ n → mm b = nv b := ⟨fun b => if b = n then m (shf D (D 7 j) s) else nv b, if_pos rfl, fun b h => if_neg h⟩
        have le : ∀ b, mm b ≤ nv b := fun b => by
          by_cases w : b = n
          · subst w; rw [hm1]; omega
          · rw [hm2 b w]; exact Nat.le_refl _
        refine ih mm 1 _ ⟨fun n' hn' => ?_, fun n' => Nat.le_trans (le n') (r2 n'), fun n' hn' => ?_, fun b n' c' hc h => ?_, Or.inr ⟨rfl, n, n1, by rw [hm1]; omega⟩, fun p hp => by rw [zu_pf _ _ hp]; exact r6 p hp⟩
        · by_cases w : n' = n
          · subst w; rw [zu_eq, hm1]
          · rw [zu_k _ _ w, hm2 n' w]; exact r1 n' hn'
        · by_cases w : n' = n
          · subst w; exact Or.inr ⟨_, 2 * s + k, by omega, st, hm1⟩
          · rw [hm2 n' w]; exact r3 n' hn'
        · rcases up c' b n' hc h with h1 | h1
          · exact Nat.le_trans (le n') (r4 b n' c' h1 h)
          · obtain ⟨a, b⟩ := stp_u hv h1 st
            subst a b; rw [hm1]; exact Nat.le_refl _
theorem l1_57 {k48 : Int32 → Int32 → Int32 → Int32 → zI → Option (Int32 × zI)} (hv : DV D) (hN : RNo D J0) (hj : j < D 0 2) (hnu : ∀ n, n < ndn D → nu n ≤ n) (hm : ∀ b, b < shk D (D 7 j) → J0 131 b = nI (m b) ∧ m b ≤ 40000) : ∀ r s nv ch J f, s + r = 4096 → r < f → R1i D j nu m J0 (2 * s) nv ch J → ∃ nv' ch' J', zlp6 (f_X12_lower_57 k48) f (nI j) (nI (4096 * D 7 j)) ch 1 (nI s) J = k48 (nI j) (nI (4096 * D 7 j)) ch' 2 J' ∧ R1i D j nu m J0 8192 nv' ch' J'
  | _, _, _, _, _, 0, _, h, _ => absurd h (by omega)
  | 0, s, nv, ch, J, f + 1, hs, _, hR => by
    have e8 : 2 * s = 8192 := by omega
    rw [e8] at hR
    refine ⟨nv, ch, J, ?_, hR⟩
    show f_X12_lower_57 k48 _ (nI j) _ ch 1 (nI s) J = _
    unfold f_X12_lower_57
    rw [if_pos (show (4096 : Int32) ≤ nI s from nI_le (a := 4096) (by omega) (by omega)), zlt_b, show (1 : Int32) + 1 = 2 from by decide]
  | r + 1, s, nv, ch, J, f + 1, hs, hf, hR => by
    have ih := fun nv ch J => l1_57 (k48 := k48) hv hN hj hnu hm r (s + 1) nv ch J f (by omega) (by omega)
    have e1 : zlp6 (f_X12_lower_57 k48) (f + 1) (nI j) (nI (4096 * D 7 j)) ch 1 (nI s) J = f_X12_lower_57 k48 (zlp6 (f_X12_lower_57 k48) f) (nI j) (nI (4096 * D 7 j)) ch 1 (nI s) J := rfl
    rw [e1]
    generalize zlp6 (f_X12_lower_57 k48) f = k1 at ih ⊢
    obtain ⟨w1, w2, w3⟩ := hv.2.2.2.1 j hj
    have v1 := hv.1.1
    unfold f_X12_lower_57
    rw [if_neg (show ¬ (4096 : Int32) ≤ nI s from nI_ge (b := 4096) (by omega) (by decide)), nI_add, zlt_b, zck_t _ (zbd_nI (by omega) (by decide)), nI_clamp (n := 4096 * D 7 j + s) (by omega), hR.2.2.2.2.2 119 (by decide), (hN.2.1 _ w3).2 s (by omega), zlt_b]
    by_cases z : SqS D (D 7 j) s
    · rw [shi_t z]
      obtain ⟨nv', ch', J', a1, a2⟩ := l1_79 (k48 := k48) (k57 := k1) (v2 := nI (4096 * D 7 j)) hv hN hj (show s < 4096 by omega) hnu hm z 2 0 nv ch J zF (by omega) (zF_lt (by omega)) hR
      have a1 : zlp8 (f_X12_lower_79 k48 k1) zF (nI j) (nI (4096 * D 7 j)) ch 1 (nI s) (nI (shf D (D 7 j) s)) 0 J = _ := a1
      rw [a1]
      exact ih nv' ch' J' a2
    · rw [shi_f z]
      have e2 := lw_skip (k48 := k48) (k57 := k1) (nI j) (nI (4096 * D 7 j)) ch 1 s J
      rw [e2]
      obtain ⟨r1, r2, r3, r4, r5, r6⟩ := hR
      refine ih nv ch J ⟨r1, r2, r3, fun b n c' hc h => ?_, r5, r6⟩
      by_cases y : c' < 2 * s
      · exact r4 b n c' y h
      · have := h.1
        rw [show c' / 2 = s by omega] at this
        exact absurd this z
theorem zlp5_s {A1 A2 A3 A4 A5 β : Type} (F : (A1 → A2 → A3 → A4 → A5 → Option β) → A1 → A2 → A3 → A4 → A5 → Option β) (n : Nat) (a1 : A1) (a2 : A2) (a3 : A3) (a4 : A4) (a5 : A5) : zlp5 F (n + 1) a1 a2 a3 a4 a5 = F (zlp5 F n) a1 a2 a3 a4 a5 := rfl
theorem lw_48a {k48 : Int32 → Int32 → Int32 → Int32 → zI → Option (Int32 × zI)} {a v2 v3 v4 : Int32} {J : zI} (h : ¬ (2 : Int32) ≤ v4) : f_X12_lower_48 k48 a v2 v3 v4 J = zlp6 (f_X12_lower_57 k48) zF a v2 v3 v4 0 J := by
  unfold f_X12_lower_48
  rw [if_neg h]
theorem lw_48b {k48 : Int32 → Int32 → Int32 → Int32 → zI → Option (Int32 × zI)} {a v2 v3 v4 : Int32} {J : zI} (h : (2 : Int32) ≤ v4) (hb : v3 = 0 ∨ v3 = 1) : f_X12_lower_48 k48 a v2 v3 v4 J = some (v3, J) := by
  unfold f_X12_lower_48
  rw [if_pos h, zck_t _ (by rcases hb with rfl | rfl <;> decide)]
theorem lw_13 (hv : DV D) (hj : j < D 0 2) (hN : RNo D J0) {v2 : Int32} : ∀ r b J f, b + r = shk D (D 7 j) → r < f → (∀ c, c < b → J 131 c = nI 40000) → (∀ p, p ≠ 131 → J p = J0 p) → ∃ J', zlp4 f_X12_lower_13 f (nI j) v2 (nI b) J = zlp5 f_X12_lower_48 zF (nI j) v2 0 0 J' ∧ (∀ c, c < shk D (D 7 j) → J' 131 c = nI 40000) ∧ ∀ p, p ≠ 131 → J' p = J0 p
  | _, _, _, 0, _, h, _, _ => absurd h (by omega)
  | 0, b, J, f + 1, hb, _, h1, h2 => by
    have : b = shk D (D 7 j) := by omega
    subst this
    refine ⟨J, ?_, h1, h2⟩
    obtain ⟨w1, w2, w3⟩ := hv.2.2.2.1 j hj
    have v1 := hv.1.1
    have v3 := hv.1.2.2.1
    show f_X12_lower_13 _ (nI j) v2 (nI _) J = _
    unfold f_X12_lower_13
    rw [zck_t _ (zbd_nI (by omega) (by decide)), nI_clamp (n := j) (by omega), h2 112 (by decide), (hN.1.2.2.2.2.1 j hj).2.2, zlt_b, zck_t _ (zbd_nI (by omega) (by decide)), nI_clamp (n := D 7 j) (by omega), h2 120 (by decide), (hN.2.1 _ w3).1, if_pos (Int32.le_refl _)]
  | r + 1, b, J, f + 1, hb, hf, h1, h2 => by
    have ih := fun J => lw_13 (v2 := v2) hv hj hN r (b + 1) J f (by omega) (by omega)
    have e1 : zlp4 f_X12_lower_13 (f + 1) (nI j) v2 (nI b) J = f_X12_lower_13 (zlp4 f_X12_lower_13 f) (nI j) v2 (nI b) J := rfl
    rw [e1]
    generalize zlp4 f_X12_lower_13 f = k1 at ih ⊢
    obtain ⟨w1, w2, w3⟩ := hv.2.2.2.1 j hj
    have v1 := hv.1.1
    have v3 := hv.1.2.2.1
    have sk := shk_le D (D 7 j)
    unfold f_X12_lower_13
    rw [zck_t _ (zbd_nI (by omega) (by decide)), nI_clamp (n := j) (by omega), h2 112 (by decide), (hN.1.2.2.2.2.1 j hj).2.2, zlt_b, zck_t _ (zbd_nI (by omega) (by decide)), nI_clamp (n := D 7 j) (by omega), h2 120 (by decide), (hN.2.1 _ w3).1, if_neg (nI_ge (by omega) (by omega)), zck_t _ (zbd_nI (by omega) (by decide)), nI_clamp (n := b) (by omega), zlt_b, zlt_b, nI_1]
    refine ih _ (fun c hc => ?_) (fun p hp => by rw [zu_pf _ _ hp]; exact h2 p hp)
    by_cases y : c = b
    · subst y; rw [zu_eq]; rfl
    · rw [zu_k _ _ y]; exact h1 c (by omega)
theorem c_lower {J : zI} (hv : DV D) (hN : RNo D J) (hj : j < D 0 2) (hnu : ∀ n, n < ndn D → J 122 n = nI (nu n) ∧ nu n ≤ n) : ∃ (nv : Nat → Nat) (ch : Int32) (J' : zI), f_X12_lower (nI j) J = some (ch, J') ∧ (∀ n, n < ndn D → J' 122 n = nI (nv n)) ∧ (∀ n, nv n ≤ nu n) ∧ (∀ n, n < ndn D → nv n = nu n ∨ ∃ b c c' n', c < 8192 ∧ c' < 8192 ∧ stp D j c b n ∧ stp D j c' b n' ∧ nv n = nu n') ∧ ((ch = 0 ∧ (∀ n, nv n = nu n) ∧ ∀ b c c' n n', c < 8192 → c' < 8192 → stp D j c b n → stp D j c' b n' → nu n = nu n') ∨ (ch = 1 ∧ ∃ n, n < ndn D ∧ nv n < nu n)) ∧ ∀ p, p ≠ 122 → p ≠ 131 → J' p = J p := by
  obtain ⟨w1, w2, w3⟩ := hv.2.2.2.1 j hj
  have v1 := hv.1.1
  have v3 := hv.1.2.2.1
  have hnd := ndn_le hv
  obtain ⟨J1, a1, a2, a3⟩ := lw_13 (J0 := J) (v2 := nI (4096 * D 7 j)) hv hj hN (shk D (D 7 j)) 0 J zF (by omega) (zF_lt (by have := shk_le D (D 7 j); omega)) (fun c hc => absurd hc (by omega)) (fun _ _ => rfl)
  obtain ⟨q, hq⟩ : ∃ q, zF = q + 1 + 1 + 1 := ⟨zF - 3, by have := zF_ge; omega⟩
  obtain ⟨m, J2, b1, b2⟩ := l0_57 (k48 := zlp5 f_X12_lower_48 (q + 1 + 1)) (v3 := 0) (nu := nu) (J0 := J) hv hN hj hnu 4096 0 (fun _ => 40000) J1 zF (by omega) (zF_lt (by omega)) ⟨fun b hb => ⟨a2 b hb, Nat.le_refl _⟩, fun b n c' hc => absurd hc (by omega), fun b hb => Or.inl rfl, a3⟩
  obtain ⟨s1, s2, s3, s4⟩ := b2
  have hN2 : RNo D J2 := hN.cg (fun p _ _ => s4 p (by omega)) (fun _ _ => by rw [s4 97 (by decide)])
  obtain ⟨nv, ch, J3, c1, c2⟩ := l1_57 (k48 := zlp5 f_X12_lower_48 (q + 1)) (nu := nu) (m := m) (J0 := J2) hv hN2 hj (fun n hn => (hnu n hn).2) s1 4096 0 nu 0 J2 zF (by omega) (zF_lt (by omega)) ⟨fun n hn => by rw [s4 122 (by decide)]; exact (hnu n hn).1, fun _ => Nat.le_refl _, fun _ _ => Or.inl rfl, fun b n c' hc => absurd hc (by omega), Or.inl ⟨rfl, fun _ => rfl⟩, fun _ _ => rfl⟩
  obtain ⟨t1, t2, t3, t4, t5, t6⟩ := c2
  have hch : ch = 0 ∨ ch = 1 := t5.imp (fun h => h.1) (fun h => h.1)
  have mb : ∀ b n c, c < 8192 → stp D j c b n → ∃ c' n', c' < 8192 ∧ stp D j c' b n' ∧ m b = nu n' := fun b n c hc h => by
    rcases s3 b (stp_lt h) with h1 | h1
    · have := s2 b n c hc h
      have := (hnu n h.2.2.2).2
      have := h.2.2.2
      omega
    · exact h1
  refine ⟨nv, ch, J3, ?_, t1, t2, fun n hn => ?_, ?_, fun p x y => by rw [t6 p x, s4 p y]⟩
  · unfold f_X12_lower
    have a1 : zlp4 f_X12_lower_13 zF (nI j) (nI (4096 * D 7 j)) 0 J = zlp5 f_X12_lower_48 zF (nI j) (nI (4096 * D 7 j)) 0 0 J1 := a1
    have b1 : zlp6 (f_X12_lower_57 (zlp5 f_X12_lower_48 (q + 1 + 1))) zF (nI j) (nI (4096 * D 7 j)) 0 0 0 J1 = zlp5 f_X12_lower_48 (q + 1 + 1) (nI j) (nI (4096 * D 7 j)) 0 1 J2 := b1
    have c1 : zlp6 (f_X12_lower_57 (zlp5 f_X12_lower_48 (q + 1))) zF (nI j) (nI (4096 * D 7 j)) 0 1 0 J2 = zlp5 f_X12_lower_48 (q + 1) (nI j) (nI (4096 * D 7 j)) ch 2 J3 := c1
    have z0 : zlp5 f_X12_lower_48 zF (nI j) (nI (4096 * D 7 j)) 0 0 J1 = zlp5 f_X12_lower_48 (q + 1 + 1 + 1) (nI j) (nI (4096 * D 7 j)) 0 0 J1 := by rw [hq]
    rw [zck_t _ (zbd_nI (by omega) (by decide)), nI_clamp (n := j) (by omega), (hN.1.2.2.2.2.1 j hj).2.2, show (4096 : Int32) = nI 4096 from rfl, pk_mul, zlt_b, a1, z0, zlp5_s, lw_48a (by decide), b1, zlp5_s, lw_48a (by decide), c1, zlp5_s, lw_48b (by decide) hch]
  · rcases t3 n hn with h | ⟨b, c, c1, h, e⟩
    · exact Or.inl h
    · obtain ⟨c', n', x1, x2, x3⟩ := mb b n c c1 h
      exact Or.inr ⟨b, c, c', n', c1, x1, h, x2, by rw [e, x3]⟩
  · rcases t5 with ⟨h1, h2⟩ | h
    · refine Or.inl ⟨h1, h2, fun b c c' n n' hc hc' g g' => ?_⟩
      have e1 := t4 b n c hc g
      have e2 := t4 b n' c' hc' g'
      have e3 := s2 b n c hc g
      have e4 := s2 b n' c' hc' g'
      rw [h2 n] at e1
      rw [h2 n'] at e2
      omega
    · exact Or.inr h
end Lx
