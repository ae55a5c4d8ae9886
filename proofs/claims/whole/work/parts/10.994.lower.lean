/-! the reference lowers the nets of one join's nodes -/
def RNo (D : Nat → Nat → Nat) (J : zI) : Prop := DM D J ∧ LSh D J (D 0 0) ∧ ∀ w, w < D 0 1 → J 121 w = nI (fw D w)
theorem DM.cg {D : Nat → Nat → Nat} {J J' : zI} (h : DM D J) (e1 : ∀ p, 98 ≤ p → p ≤ 116 → J' p = J p) (e2 : ∀ j, j = 2 ∨ (12 ≤ j ∧ j ≤ 15) → J' 97 j = J 97 j) : DM D J' := by
  have g := e1
  obtain ⟨h1, h2, h3⟩ := h
  refine ⟨fun i hi => by rw [e2 (12 + i) (by omega)]; exact h1 i hi, by rw [e2 2 (by omega)]; exact h2, ?_⟩
  rw [g 98 (by omega) (by omega), g 99 (by omega) (by omega), g 100 (by omega) (by omega), g 101 (by omega) (by omega), g 106 (by omega) (by omega), g 107 (by omega) (by omega), g 108 (by omega) (by omega), g 109 (by omega) (by omega), g 110 (by omega) (by omega), g 111 (by omega) (by omega), g 112 (by omega) (by omega), g 114 (by omega) (by omega), g 115 (by omega) (by omega), g 116 (by omega) (by omega)]
  exact h3
theorem RNo.cg {D : Nat → Nat → Nat} {J J' : zI} (h : RNo D J) (e1 : ∀ p, 98 ≤ p → p ≤ 121 → J' p = J p) (e2 : ∀ j, j = 2 ∨ (12 ≤ j ∧ j ≤ 15) → J' 97 j = J 97 j) : RNo D J' := ⟨h.1.cg (fun p a b => e1 p a (by omega)) e2, by unfold LSh; rw [e1 119 (by omega) (by omega), e1 120 (by omega) (by omega)]; exact h.2.1, by rw [e1 121 (by omega) (by omega)]; exact h.2.2⟩
theorem m_nodeAt {D : Nat → Nat → Nat} {J : zI} {w q : Nat} (hv : DV D) (h : RNo D J) (hw : w < D 0 1) (hq : q < 4096) : f_X12_nodeAt (nI w) (nI q) J = some (nod D w q) := by
  have v2 := hv.1.2.1
  have v1 := hv.1.1
  have w3 := hv.2.2.1 w hw
  unfold f_X12_nodeAt f_X12_nodeAt_35
  rw [zck_t _ (zbd_nI (by omega) (by decide)), nI_clamp (n := w) (by omega), h.1.2.2.2.1 w hw, show (4096 : Int32) = nI 4096 from rfl, pk_mul, zlt_b, nI_add, zlt_b, zck_t _ (zbd_nI (by omega) (by decide)), nI_clamp (n := 4096 * D 4 w + q) (by omega), (h.2.1 _ w3).2 q hq, zlt_b]
  by_cases z : SqS D (D 4 w) q
  · rw [shi_t z, if_neg (nI_m1 (by have := shf_lt z; omega)), zck_t _ (zbd_nI (by omega) (by decide)), h.2.2 w hw, nI_add, zlt_b, nod_t z]
  · rw [shi_f z, if_pos rfl, nod_f z]
/-- step c of a join touches node n with shape b -/
def stp (D : Nat → Nat → Nat) (j c b n : Nat) : Prop := SqS D (D 7 j) (c / 2) ∧ shf D (D 7 j) (c / 2) = b ∧ nod D (if c % 2 = 0 then D 5 j else D 6 j) (c / 2) = nI n ∧ n < ndn D
def R0i (D : Nat → Nat → Nat) (j : Nat) (nu : Nat → Nat) (J0 : zI) (c : Nat) (m : Nat → Nat) (J : zI) : Prop := (∀ b, b < shk D (D 7 j) → J 131 b = nI (m b) ∧ m b ≤ 40000) ∧ (∀ b n c', c' < c → stp D j c' b n → m b ≤ nu n) ∧ (∀ b, b < shk D (D 7 j) → m b = 40000 ∨ ∃ c' n, c' < c ∧ stp D j c' b n ∧ m b = nu n) ∧ ∀ p, p ≠ 131 → J p = J0 p
def R1i (D : Nat → Nat → Nat) (j : Nat) (nu m : Nat → Nat) (J0 : zI) (c : Nat) (nv : Nat → Nat) (ch : Int32) (J : zI) : Prop := (∀ n, n < ndn D → J 122 n = nI (nv n)) ∧ (∀ n, nv n ≤ nu n) ∧ (∀ n, n < ndn D → nv n = nu n ∨ ∃ b c', c' < 8192 ∧ stp D j c' b n ∧ nv n = m b) ∧ (∀ b n c', c' < c → stp D j c' b n → nv n ≤ m b) ∧ ((ch = 0 ∧ ∀ n, nv n = nu n) ∨ (ch = 1 ∧ ∃ n, n < ndn D ∧ nv n < nu n)) ∧ ∀ p, p ≠ 122 → J p = J0 p
section Lw
variable {D : Nat → Nat → Nat} {j : Nat} {nu : Nat → Nat} {J0 : zI}
theorem stp_lt {c b n : Nat} (h : stp D j c b n) : b < shk D (D 7 j) := by
  rw [← h.2.1]; exact (sh_cls D (D 7 j)).1 _ h.1
theorem stp_u (hv : DV D) {c b b' n n' : Nat} (h : stp D j c b n) (g : stp D j c b' n') : b = b' ∧ n = n' := by
  have := ndn_le hv
  have h1 := h.2.2.2; have g1 := g.2.2.2
  refine ⟨by rw [← h.2.1, ← g.2.1], (nI_eq (by omega) (by omega)).mp (by rw [← h.2.2.1, ← g.2.2.1])⟩
theorem m_wire (hv : DV D) (hj : j < D 0 2) (c : Nat) : (if c % 2 = 0 then D 5 j else D 6 j) < D 0 1 := by
  obtain ⟨w1, w2, w3⟩ := hv.2.2.2.1 j hj
  by_cases z : c % 2 = 0
  · rw [if_pos z]; exact w1
  · rw [if_neg z]; exact w2
/-- the head of a step: where the wire is taken from -/
theorem lw_head {k48 : Int32 → Int32 → Int32 → Int32 → zI → Option (Int32 × zI)} {k57 : Int32 → Int32 → Int32 → Int32 → Int32 → zI → Option (Int32 × zI)} {k79 : Int32 → Int32 → Int32 → Int32 → Int32 → Int32 → Int32 → zI → Option (Int32 × zI)} {J : zI} {v2 v3 v4 : Int32} {s k b : Nat} (hv : DV D) (hN : RNo D J) (hj : j < D 0 2) (hs : s < 4096) (hk : k < 2) (hb : b < 2048) :
    f_X12_lower_79 k48 k57 k79 (nI j) v2 v3 v4 (nI s) (nI b) (nI k) J = (fun x18 => if x18 = (-1 : Int32) then (f_X12_lower_210 k48 k57 k79 (nI j) v2 v3 v4 (nI s) (nI b) (nI k) J) else (if v4 = 0 then (zck (zbd x18 32768) (zck (zbd (nI b) 4096) (if (J 131 b) ≤ (J 122 x18.toNatClampNeg) then (zck (zbd (nI b) 4096) (f_X12_lower_173 k48 k57 k79 (nI j) v2 v3 v4 (nI s) (nI b) (nI k) (nI b) (J 131 b) J)) else (zck (zbd x18 32768) (f_X12_lower_173 k48 k57 k79 (nI j) v2 v3 v4 (nI s) (nI b) (nI k) (nI b) (J 122 x18.toNatClampNeg) J))))) else (zck (zbd x18 32768) (zck (zbd (nI b) 4096) (if (J 122 x18.toNatClampNeg) ≤ (J 131 b) then (f_X12_lower_210 k48 k57 k79 (nI j) v2 v3 v4 (nI s) (nI b) (nI k) J) else (zck (zbd (nI b) 4096) (zck (zbd x18 32768) (zlt (zu J 122 x18.toNatClampNeg (J 131 b)) (fun I23 => f_X12_lower_210 k48 k57 k79 (nI j) v2 (1 : Int32) v4 (nI s) (nI b) (nI k) I23)))))))) ) (nod D (if (2 * s + k) % 2 = 0 then D 5 j else D 6 j) s) := by
  obtain ⟨w1, w2, w3⟩ := hv.2.2.2.1 j hj
  obtain ⟨d1, d2, d3⟩ := hN.1.2.2.2.2.1 j hj
  have v3' := hv.1.2.2.1
  unfold f_X12_lower_79 f_X12_lower_112
  have hz : ∀ x : Option (Int32 × zI), zck (zbd (nI j) 32) x = x := fun x => zck_t x (zbd_nI (by omega) (by decide))
  rw [if_neg (show ¬ (2 : Int32) ≤ nI k from nI_ge (b := 2) hk (by decide)), if_neg (nI_m1 (by omega)), hz, hz, nI_clamp (n := j) (by omega), d1, d2, m_nodeAt hv hN w1 hs, m_nodeAt hv hN w2 hs, zb1_b, zb1_b, nI_clamp (n := b) (by omega)]
  by_cases z : k = 0
  · subst z
    rw [if_pos nI_0, if_pos (show (2 * s + 0) % 2 = 0 by omega)]
  · have : k = 1 := by omega
    subst this
    rw [if_neg (nI_ne0 (by decide) (by decide)), if_neg (show ¬ (2 * s + 1) % 2 = 0 by omega)]
theorem l0_79 {k48 : Int32 → Int32 → Int32 → Int32 → zI → Option (Int32 × zI)} {k57 : Int32 → Int32 → Int32 → Int32 → Int32 → zI → Option (Int32 × zI)} {s : Nat} {v2 v3 : Int32} (hv : DV D) (hN : RNo D J0) (hj : j < D 0 2) (hs : s < 4096) (hnu : ∀ n, n < ndn D → J0 122 n = nI (nu n) ∧ nu n ≤ n) (hS : SqS D (D 7 j) s) : ∀ r k m J f, k + r = 2 → r < f → R0i D j nu J0 (2 * s + k) m J → ∃ m' J', zlp8 (f_X12_lower_79 k48 k57) f (nI j) v2 v3 0 (nI s) (nI (shf D (D 7 j) s)) (nI k) J = k57 (nI j) v2 v3 0 (nI (s + 1)) J' ∧ R0i D j nu J0 (2 * (s + 1)) m' J'
  | _, _, _, _, 0, _, h, _ => absurd h (by omega)
  | 0, k, m, J, f + 1, hk, _, hR => by
    have : k = 2 := by omega
    subst this
    refine ⟨m, J, ?_, hR⟩
    show f_X12_lower_79 k48 k57 _ (nI j) v2 v3 0 (nI s) (nI _) (nI 2) J = _
    unfold f_X12_lower_79 f_X12_lower_216
    rw [if_pos (by decide), zlt_b, nI_1]
  | r + 1, k, m, J, f + 1, hk, hf, hR => by
    have ih := fun m J => l0_79 (k48 := k48) (k57 := k57) (v2 := v2) (v3 := v3) hv hN hj hs hnu hS r (k + 1) m J f (by omega) (by omega)
    have e1 : zlp8 (f_X12_lower_79 k48 k57) (f + 1) (nI j) v2 v3 0 (nI s) (nI (shf D (D 7 j) s)) (nI k) J = f_X12_lower_79 k48 k57 (zlp8 (f_X12_lower_79 k48 k57) f) (nI j) v2 v3 0 (nI s) (nI (shf D (D 7 j) s)) (nI k) J := rfl
    rw [e1]
    generalize zlp8 (f_X12_lower_79 k48 k57) f = k1 at ih ⊢
    obtain ⟨r1, r2, r3, r4⟩ := id hR
    have hNJ : RNo D J := hN.cg (fun p _ _ => r4 p (by omega)) (fun _ _ => by rw [r4 97 (by decide)])
    have sl := shf_lt hS
    have sk := (sh_cls D (D 7 j)).1 s hS
    have e2 : (2 * s + k) / 2 = s := by omega
    have mw := m_wire (D := D) (j := j) hv hj (2 * s + k)
    have hnd := ndn_le hv
    rw [lw_head hv hNJ hj hs (by omega) sl]
    show ∃ m' J', (if nod D (if (2 * s + k) % 2 = 0 then D 5 j else D 6 j) s = (-1 : Int32) then _ else _) = _ ∧ _
    have up : ∀ c' b n, c' < 2 * s + (k + 1) → stp D j c' b n → c' < 2 * s + k ∨ stp D j (2 * s + k) b n := fun c' b n hc h => by
      by_cases z : c' = 2 * s + k
      · subst z; exact Or.inr h
      · exact Or.inl (by omega)
    by_cases z : nod D (if (2 * s + k) % 2 = 0 then D 5 j else D 6 j) s = -1
    · rw [if_pos z]
      unfold f_X12_lower_210
      rw [zlt_b, nI_1]
      refine ih m J ⟨r1, fun b n c' hc h => ?_, fun b hb => (r3 b hb).imp id (fun ⟨c', n, a, b⟩ => ⟨c', n, by omega, b⟩), r4⟩
      rcases up c' b n hc h with h1 | h1
      · exact r2 b n c' h1 h
      · have := h1.2.2.1
        rw [e2, z] at this
        exact absurd this.symm (nI_m1 (by have := h1.2.2.2; omega))
    · rw [if_neg z, if_pos rfl]
      obtain ⟨n, n1, n2⟩ : ∃ n, n < ndn D ∧ nod D (if (2 * s + k) % 2 = 0 then D 5 j else D 6 j) s = nI n := (nod_or mw s).resolve_left z
      have st : stp D j (2 * s + k) (shf D (D 7 j) s) n := ⟨by rw [e2]; exact hS, by rw [e2], by rw [e2]; exact n2, n1⟩
      obtain ⟨u1, u2⟩ := hnu n n1
      obtain ⟨q1, q2⟩ := r1 _ sk
      rw [n2, zck_t _ (zbd_nI (by omega) (by decide)), zck_t _ (zbd_nI (by omega) (by decide)), nI_clamp (n := n) (by omega), r4 122 (by decide), u1, q1]
      have tail : ∀ x, x ≤ nu n → (x = m (shf D (D 7 j) s) ∨ x = nu n) → x ≤ m (shf D (D 7 j) s) → ∃ m' J', f_X12_lower_173 k48 k57 k1 (nI j) v2 v3 0 (nI s) (nI (shf D (D 7 j) s)) (nI k) (nI (shf D (D 7 j) s)) (nI x) J = k57 (nI j) v2 v3 0 (nI (s + 1)) J' ∧ R0i D j nu J0 (2 * (s + 1)) m' J' := by
        intro x x1 x2 x3
        unfold f_X12_lower_173 f_X12_lower_210
        rw [zck_t _ (zbd_nI (by omega) (by decide)), nI_clamp (n := shf D (D 7 j) s) (by omega), zlt_b, zlt_b, nI_1]
        obtain ⟨mm, hm1, hm2⟩ : ∃ mm : Nat → Nat, mm (shf D (D 7 j) s) = x ∧ ∀ b, b ≠ shf D (D 7 j) s → mm b = m b := ⟨fun b => if b = shf D (D 7 j) s then x else m b, if_pos rfl, fun b h => if_neg h⟩
        refine ih mm _ ⟨fun b hb => ?_, fun b n' c' hc h => ?_, fun b hb => ?_, fun p hp => by rw [zu_pf _ _ hp]; exact r4 p hp⟩
        · by_cases y : b = shf D (D 7 j) s
          · subst y; rw [zu_eq, hm1]; exact ⟨rfl, by omega⟩
          · rw [zu_k _ _ y, hm2 b y]; exact r1 b hb
        · by_cases y : b = shf D (D 7 j) s
          · subst y
            rw [hm1]
            rcases up c' _ n' hc h with h1 | h1
            · have := r2 _ n' c' h1 h; omega
            · have := (stp_u hv h1 st).2; subst this; exact x1
          · rw [hm2 b y]
            rcases up c' b n' hc h with h1 | h1
            · exact r2 b n' c' h1 h
            · exact absurd (stp_u hv h1 st).1 y
        · by_cases y : b = shf D (D 7 j) s
          · subst y
            rw [hm1]
            rcases x2 with x2 | x2
            · rcases r3 _ hb with h | ⟨c', n', a, b', c⟩
              · exact Or.inl (by rw [x2]; exact h)
              · exact Or.inr ⟨c', n', by omega, b', by rw [x2]; exact c⟩
            · exact Or.inr ⟨2 * s + k, n, by omega, st, x2⟩
          · rw [hm2 b y]
            exact (r3 b hb).imp id (fun ⟨c', n', a, b', c⟩ => ⟨c', n', by omega, b', c⟩)
      by_cases y : m (shf D (D 7 j) s) ≤ nu n
      · rw [if_pos (nI_le y (by omega)), zck_t _ (zbd_nI (by omega) (by decide))]
        exact tail _ y (Or.inl rfl) (Nat.le_refl _)
      · rw [if_neg (nI_ge (by omega) (by omega)), zck_t _ (zbd_nI (by omega) (by decide))]
        exact tail _ (Nat.le_refl _) (Or.inr rfl) (by omega)
theorem zlp8_s {A1 A2 A3 A4 A5 A6 A7 A8 β : Type} (F : (A1 → A2 → A3 → A4 → A5 → A6 → A7 → A8 → Option β) → A1 → A2 → A3 → A4 → A5 → A6 → A7 → A8 → Option β) (n : Nat) (a1 : A1) (a2 : A2) (a3 : A3) (a4 : A4) (a5 : A5) (a6 : A6) (a7 : A7) (a8 : A8) : zlp8 F (n + 1) a1 a2 a3 a4 a5 a6 a7 a8 = F (zlp8 F n) a1 a2 a3 a4 a5 a6 a7 a8 := rfl
theorem lw_skip1 {k48 : Int32 → Int32 → Int32 → Int32 → zI → Option (Int32 × zI)} {k57 : Int32 → Int32 → Int32 → Int32 → Int32 → zI → Option (Int32 × zI)} {k79 : Int32 → Int32 → Int32 → Int32 → Int32 → Int32 → Int32 → zI → Option (Int32 × zI)} {a v2 v3 v4 v5 v6 v7 : Int32} {J : zI} (h6 : v6 = -1) (h7 : ¬ (2 : Int32) ≤ v7) : f_X12_lower_79 k48 k57 k79 a v2 v3 v4 v5 v6 v7 J = k57 a v2 v3 v4 (v5 + 1) J := by
  unfold f_X12_lower_79 f_X12_lower_216
  rw [if_neg h7, if_pos h6, zlt_b]
theorem lw_skip {k48 : Int32 → Int32 → Int32 → Int32 → zI → Option (Int32 × zI)} {k57 : Int32 → Int32 → Int32 → Int32 → Int32 → zI → Option (Int32 × zI)} (a v2 v3 v4 : Int32) (s : Nat) (J : zI) : zlp8 (f_X12_lower_79 k48 k57) zF a v2 v3 v4 (nI s) (-1) 0 J = k57 a v2 v3 v4 (nI (s + 1)) J := by
  obtain ⟨q, hq⟩ := zF_s
  rw [hq, zlp8_s, lw_skip1 rfl (by decide), nI_1]
theorem l0_57 {k48 : Int32 → Int32 → Int32 → Int32 → zI → Option (Int32 × zI)} {v3 : Int32} (hv : DV D) (hN : RNo D J0) (hj : j < D 0 2) (hnu : ∀ n, n < ndn D → J0 122 n = nI (nu n) ∧ nu n ≤ n) : ∀ r s m J f, s + r = 4096 → r < f → R0i D j nu J0 (2 * s) m J → ∃ m' J', zlp6 (f_X12_lower_57 k48) f (nI j) (nI (4096 * D 7 j)) v3 0 (nI s) J = k48 (nI j) (nI (4096 * D 7 j)) v3 1 J' ∧ R0i D j nu J0 8192 m' J'
  | _, _, _, _, 0, _, h, _ => absurd h (by omega)
  | 0, s, m, J, f + 1, hs, _, hR => by
    have e8 : 2 * s = 8192 := by omega
    rw [e8] at hR
    refine ⟨m, J, ?_, hR⟩
    show f_X12_lower_57 k48 _ (nI j) _ v3 0 (nI s) J = _
    unfold f_X12_lower_57
    rw [if_pos (show (4096 : Int32) ≤ nI s from nI_le (a := 4096) (by omega) (by omega)), zlt_b, show (0 : Int32) + 1 = 1 from by decide]
  | r + 1, s, m, J, f + 1, hs, hf, hR => by
    have ih := fun m J => l0_57 (k48 := k48) (v3 := v3) hv hN hj hnu r (s + 1) m J f (by omega) (by omega)
    have e1 : zlp6 (f_X12_lower_57 k48) (f + 1) (nI j) (nI (4096 * D 7 j)) v3 0 (nI s) J = f_X12_lower_57 k48 (zlp6 (f_X12_lower_57 k48) f) (nI j) (nI (4096 * D 7 j)) v3 0 (nI s) J := rfl
    rw [e1]
    generalize zlp6 (f_X12_lower_57 k48) f = k1 at ih ⊢
    obtain ⟨w1, w2, w3⟩ := hv.2.2.2.1 j hj
    have v1 := hv.1.1
    unfold f_X12_lower_57
    rw [if_neg (show ¬ (4096 : Int32) ≤ nI s from nI_ge (b := 4096) (by omega) (by decide)), nI_add, zlt_b, zck_t _ (zbd_nI (by omega) (by decide)), nI_clamp (n := 4096 * D 7 j + s) (by omega), hR.2.2.2 119 (by decide), (hN.2.1 _ w3).2 s (by omega), zlt_b]
    by_cases z : SqS D (D 7 j) s
    · rw [shi_t z]
      obtain ⟨m', J', a1, a2⟩ := l0_79 (k48 := k48) (k57 := k1) (v2 := nI (4096 * D 7 j)) (v3 := v3) hv hN hj (show s < 4096 by omega) hnu z 2 0 m J zF (by omega) (zF_lt (by omega)) hR
      have a1 : zlp8 (f_X12_lower_79 k48 k1) zF (nI j) (nI (4096 * D 7 j)) v3 0 (nI s) (nI (shf D (D 7 j) s)) 0 J = _ := a1
      rw [a1]
      exact ih m' J' a2
    · rw [shi_f z]
      have e2 := lw_skip (k48 := k48) (k57 := k1) (nI j) (nI (4096 * D 7 j)) v3 0 s J
      rw [e2]
      obtain ⟨r1, r2, r3, r4⟩ := hR
      refine ih m J ⟨r1, fun b n c' hc h => ?_, fun b hb => (r3 b hb).imp id (fun ⟨c', n, a, b⟩ => ⟨c', n, by omega, b⟩), r4⟩
      by_cases y : c' < 2 * s
      · exact r2 b n c' y h
      · have := h.1
        rw [show c' / 2 = s by omega] at this
        exact absurd this z
end Lw
