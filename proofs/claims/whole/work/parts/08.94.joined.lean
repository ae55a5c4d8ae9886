/-! joined -/
theorem e_joined_29 {v1 w1 : Int32} {I : zI} (h0 : ¬ w1 = 0) : f_X12_joined_29 v1 w1 I = some (0, zu I 97 0 w1) := by
  obtain ⟨m, hm⟩ := zF_s
  unfold f_X12_joined_29
  rw [hm]
  simp only [zlt]
  show f_X12_joined_36 _ v1 0 0 (zu I 97 0 w1) = _
  unfold f_X12_joined_36 f_X12_joined_222
  rw [zu_eq, if_neg h0, ite_self]
theorem j_in {I J : zI} {c kd d e nd : Nat} (hc : c ≤ 4) (hkd : kd < 8) (hd : d < 300) (he : e < 300) (hnd : nd ≤ 16384) (h1 : J 115 kd = nI c) {k36 : Int32 → Int32 → Int32 → zI → Option (Int32 × zI)} {k80 : Int32 → Int32 → Int32 → Int32 → Int32 → zI → Option (Int32 × zI)} {v2 : Int32}
    (hD : ∀ i, i < c → f_X12_netOf (J 128 (4 * d + i)) J = some (I 82 (4 * d + i))) (hE : ∀ i, i < c → f_X12_netOf (J 128 (4 * e + i)) J = some (I 82 (4 * e + i))) :
    ∀ r i w f, i + r = c → r < f → (w = 0 ∨ w = 1) → ∃ w' : Int32, zlp7 (f_X12_joined_122 k36 k80) f (nI kd) v2 (nI d) (nI e) w (nI i) J = f_X12_joined_185 k36 k80 (nI kd) v2 (nI d) (nI e) w' J ∧ ((w' = 1 ∧ w = 1 ∧ ∀ j, i ≤ j → j < c → I 82 (4 * d + j) = I 82 (4 * e + j)) ∨ (w' = 0 ∧ ¬ (w = 1 ∧ ∀ j, i ≤ j → j < c → I 82 (4 * d + j) = I 82 (4 * e + j))))
  | _, _, _, 0, _, h, _ => absurd h (by omega)
  | 0, i, w, f + 1, hi, _, hw => by
    have : i = c := by omega
    subst this
    refine ⟨w, ?_, ?_⟩
    · show f_X12_joined_122 k36 k80 _ (nI kd) v2 (nI d) (nI e) w (nI i) J = _
      unfold f_X12_joined_122
      rw [zck_t _ (zbd_nI (by omega) (by decide)), nI_clamp (by omega), h1, if_pos (Int32.le_refl _)]
    · rcases hw with rfl | rfl
      · exact Or.inr ⟨rfl, fun z => absurd z.1 (by decide)⟩
      · exact Or.inl ⟨rfl, rfl, fun j _ _ => by omega⟩
  | r + 1, i, w, f + 1, hi, hf, hw => by
    have ih := fun w hw => j_in hc hkd hd he hnd h1 (k36 := k36) (k80 := k80) (v2 := v2) hD hE r (i + 1) w f (by omega) (by omega) hw
    have e1 : zlp7 (f_X12_joined_122 k36 k80) (f + 1) (nI kd) v2 (nI d) (nI e) w (nI i) J = f_X12_joined_122 k36 k80 (zlp7 (f_X12_joined_122 k36 k80) f) (nI kd) v2 (nI d) (nI e) w (nI i) J := rfl
    rw [e1]
    generalize zlp7 (f_X12_joined_122 k36 k80) f = k1 at ih ⊢
    have ex : ∀ x, (4 : Int32) * nI x + nI i = nI (4 * x + i) := fun x => by rw [show (4 : Int32) = nI 4 from rfl, pk_mul, nI_add]
    unfold f_X12_joined_122 f_X12_joined_177
    rw [zck_t _ (zbd_nI (by omega) (by decide)), nI_clamp (by omega), h1, if_neg (nI_ge (by omega) (by omega))]
    rcases hw with rfl | rfl
    · rw [if_pos rfl]
      exact ⟨0, rfl, Or.inr ⟨rfl, fun z => absurd z.1 (by decide)⟩⟩
    · rw [if_neg n10]
      simp only [zlt, ex, nI_1]
      rw [zck_t _ (zbd_nI (show 4 * d + i < 1200 by omega) (by decide)), nI_clamp (show 4 * d + i < 2 ^ 31 by omega), hD i (by omega)]
      simp only [zb1, Option.bind_some]
      rw [zck_t _ (zbd_nI (show 4 * e + i < 1200 by omega) (by decide)), nI_clamp (show 4 * e + i < 2 ^ 31 by omega), hE i (by omega)]
      simp only [Option.bind_some]
      by_cases hs : I 82 (4 * d + i) = I 82 (4 * e + i)
      · rw [if_pos hs]
        obtain ⟨w', w1, w2⟩ := ih 1 (Or.inr rfl)
        refine ⟨w', w1, ?_⟩
        rcases w2 with ⟨a1, a2, a3⟩ | ⟨a1, a2⟩
        · refine Or.inl ⟨a1, by first | rfl | trivial, fun j j1 j2 => ?_⟩
          by_cases z : j = i
          · subst z; exact hs
          · exact a3 j (by omega) j2
        · exact Or.inr ⟨a1, fun z => a2 ⟨rfl, fun j j1 j2 => z.2 j (by omega) j2⟩⟩
      · rw [if_neg hs]
        obtain ⟨w', w1, w2⟩ := ih 0 (Or.inl rfl)
        refine ⟨w', w1, ?_⟩
        rcases w2 with ⟨a1, a2, -⟩ | ⟨a1, -⟩
        · exact absurd a2 (by decide)
        · exact Or.inr ⟨a1, fun z => hs (z.2 i (Nat.le_refl _) (by omega))⟩
theorem j_mid {I J : zI} {c kd d D nd : Nat} (hc : c ≤ 4) (hkd : kd < 8) (hd : d < D) (hDD : D ≤ 300) (hnd : nd ≤ 16384) (h1 : J 115 kd = nI c) {k36 : Int32 → Int32 → Int32 → zI → Option (Int32 × zI)} {v2 : Int32}
    (hg : ∀ e, e < D → ((J 124 e = nI kd ∧ J 127 e = 0) ↔ (I 77 e = nI kd ∧ I 79 e = 0))) (hn : ∀ e i, e < D → I 77 e = nI kd → i < c → f_X12_netOf (J 128 (4 * e + i)) J = some (I 82 (4 * e + i))) :
    ∀ r e w f, e + r = d → r < f → (w = 0 ∨ (w = 1 ∧ I 77 d = nI kd)) → ∃ w' : Int32, zlp6 (f_X12_joined_80 k36) f (nI kd) v2 (nI d) w (nI e) J = f_X12_joined_203 k36 (nI kd) v2 (nI d) w' J ∧ ((w' = 1 ∧ w = 1 ∧ ∀ j, e ≤ j → j < d → I 77 j = nI kd → I 79 j = 0 → ¬ zSame I c d j) ∨ (w' = 0 ∧ ¬ (w = 1 ∧ ∀ j, e ≤ j → j < d → I 77 j = nI kd → I 79 j = 0 → ¬ zSame I c d j)))
  | _, _, _, 0, _, h, _ => absurd h (by omega)
  | 0, e, w, f + 1, he, _, hw => by
    have : e = d := by omega
    subst this
    refine ⟨w, ?_, ?_⟩
    · show f_X12_joined_80 k36 _ (nI kd) v2 (nI e) w (nI e) J = _
      unfold f_X12_joined_80
      rw [if_pos (Int32.le_refl _)]
    · rcases hw with rfl | ⟨rfl, -⟩
      · exact Or.inr ⟨rfl, fun z => absurd z.1 (by decide)⟩
      · exact Or.inl ⟨rfl, rfl, fun j _ _ => by omega⟩
  | r + 1, e, w, f + 1, he, hf, hw => by
    have ih := fun w hw => j_mid hc hkd hd hDD hnd h1 (k36 := k36) (v2 := v2) hg hn r (e + 1) w f (by omega) (by omega) hw
    have e1 : zlp6 (f_X12_joined_80 k36) (f + 1) (nI kd) v2 (nI d) w (nI e) J = f_X12_joined_80 k36 (zlp6 (f_X12_joined_80 k36) f) (nI kd) v2 (nI d) w (nI e) J := rfl
    rw [e1]
    generalize zlp6 (f_X12_joined_80 k36) f = k1 at ih ⊢
    unfold f_X12_joined_80 f_X12_joined_116 f_X12_joined_117
    rw [if_neg (nI_ge (by omega) (by omega))]
    rcases hw with rfl | ⟨rfl, hdk⟩
    · rw [if_pos rfl]
      exact ⟨0, rfl, Or.inr ⟨rfl, fun z => absurd z.1 (by decide)⟩⟩
    · rw [if_neg n10, zck_t _ (zbd_nI (show e < 300 by omega) (by decide)), zck_t _ (zbd_nI (show e < 300 by omega) (by decide)), nI_clamp (show e < 2 ^ 31 by omega)]
      have skip : ¬ (I 77 e = nI kd ∧ I 79 e = 0 ∧ zSame I c d e) → ∃ w' : Int32, k1 (nI kd) v2 (nI d) 1 (nI (e + 1)) J = f_X12_joined_203 k36 (nI kd) v2 (nI d) w' J ∧ ((w' = 1 ∧ (1 : Int32) = 1 ∧ ∀ j, e ≤ j → j < d → I 77 j = nI kd → I 79 j = 0 → ¬ zSame I c d j) ∨ (w' = 0 ∧ ¬ ((1 : Int32) = 1 ∧ ∀ j, e ≤ j → j < d → I 77 j = nI kd → I 79 j = 0 → ¬ zSame I c d j))) := by
        intro hs
        obtain ⟨w', w1, w2⟩ := ih 1 (Or.inr ⟨rfl, hdk⟩)
        refine ⟨w', w1, ?_⟩
        rcases w2 with ⟨a1, a2, a3⟩ | ⟨a1, a2⟩
        · refine Or.inl ⟨a1, rfl, fun j j1 j2 j3 j4 j5 => ?_⟩
          by_cases z : j = e
          · subst z; exact hs ⟨j3, j4, j5⟩
          · exact a3 j (by omega) j2 j3 j4 j5
        · exact Or.inr ⟨a1, fun z => a2 ⟨rfl, fun j j1 j2 => z.2 j (by omega) j2⟩⟩
      have r0 : f_X12_joined_185 k36 k1 (nI kd) v2 (nI d) (nI e) 0 J = k1 (nI kd) v2 (nI d) 1 (nI (e + 1)) J := by
        unfold f_X12_joined_185 f_X12_joined_195
        rw [if_pos rfl]
        simp only [zlt, nI_1]
      have r1 : f_X12_joined_185 k36 k1 (nI kd) v2 (nI d) (nI e) 1 J = k1 (nI kd) v2 (nI d) 0 (nI (e + 1)) J := by
        unfold f_X12_joined_185 f_X12_joined_195
        rw [if_neg n10]
        simp only [zlt, nI_1]
      by_cases hk : I 77 e = nI kd ∧ I 79 e = 0
      · obtain ⟨k1', k2'⟩ := (hg e (by omega)).mpr hk
        rw [if_pos k1', if_pos k2']
        obtain ⟨w', w1, w2⟩ := j_in (I := I) hc hkd (by omega : d < 300) (by omega : e < 300) hnd h1 (k36 := k36) (k80 := k1) (v2 := v2) (fun i hi => hn d i (by omega) hdk hi) (fun i hi => hn e i (by omega) hk.1 hi) c 0 1 zF (by omega) (zF_lt (by omega)) (Or.inr rfl)
        have w1' : zlp7 (f_X12_joined_122 k36 k1) zF (nI kd) v2 (nI d) (nI e) 1 0 J = _ := w1
        rw [w1']
        rcases w2 with ⟨rfl, -, a3⟩ | ⟨rfl, a2⟩
        · rw [r1]
          obtain ⟨u, u1, u2⟩ := ih 0 (Or.inl rfl)
          rcases u2 with ⟨-, q, -⟩ | ⟨q, -⟩
          · exact absurd q (by decide)
          · exact ⟨u, u1, Or.inr ⟨q, fun z => z.2 e (Nat.le_refl _) (by omega) hk.1 hk.2 (fun i hi => a3 i (Nat.zero_le _) hi)⟩⟩
        · rw [r0]
          exact skip fun z => a2 ⟨rfl, fun j _ j2 => z.2.2 j j2⟩
      · have ez : ∀ b : Option (Int32 × zI), b = zlp7 (f_X12_joined_122 k36 k1) zF (nI kd) v2 (nI d) (nI e) 0 0 J → b = k1 (nI kd) v2 (nI d) 1 (nI (e + 1)) J := by
          intro b hb
          rw [hb]
          obtain ⟨m, hm⟩ := zF_s
          rw [hm]
          show f_X12_joined_122 k36 k1 _ (nI kd) v2 (nI d) (nI e) 0 0 J = _
          unfold f_X12_joined_122
          rw [zck_t _ (zbd_nI (by omega) (by decide)), if_pos rfl, ite_self, r0]
        have hsk := skip (fun z => hk ⟨z.1, z.2.1⟩)
        have nk : ¬ (J 124 e = nI kd ∧ J 127 e = 0) := fun z => hk ((hg e (by omega)).mp z)
        by_cases q1 : J 124 e = nI kd
        · rw [if_pos q1, if_neg (fun q2 => nk ⟨q1, q2⟩), ez _ rfl]
          exact hsk
        · rw [if_neg q1, ez _ rfl]
          exact hsk
theorem j_out {I J : zI} {c kd D nd : Nat} (hc : c ≤ 4) (hkd : kd < 8) (hDD : D ≤ 300) (hnd : nd ≤ 16384) (h1 : J 115 kd = nI c) (h2 : J 97 39 = nI D) (h3 : J 97 0 = 0)
    (hg : ∀ e, e < D → ((J 124 e = nI kd ∧ J 127 e = 0) ↔ (I 77 e = nI kd ∧ I 79 e = 0))) (hn : ∀ e i, e < D → I 77 e = nI kd → i < c → f_X12_netOf (J 128 (4 * e + i)) J = some (I 82 (4 * e + i))) :
    ∀ r d f, d + r = D → r < f → zlp4 f_X12_joined_36 f (nI kd) (nI (zCount (zFresh I c kd) d)) (nI d) J = some (nI (zCount (zFresh I c kd) D), J)
  | _, _, 0, _, h => absurd h (by omega)
  | 0, d, f + 1, hd, _ => by
    have : d = D := by omega
    subst this
    show f_X12_joined_36 _ (nI kd) (nI (zCount (zFresh I c kd) d)) (nI d) J = _
    unfold f_X12_joined_36 f_X12_joined_222
    rw [h2, if_pos (Int32.le_refl _)]
  | r + 1, d, f + 1, hd, hf => by
    have ih := j_out hc hkd hDD hnd h1 h2 h3 hg hn r (d + 1) f (by omega) (by omega)
    have e1 : zlp4 f_X12_joined_36 (f + 1) (nI kd) (nI (zCount (zFresh I c kd) d)) (nI d) J = f_X12_joined_36 (zlp4 f_X12_joined_36 f) (nI kd) (nI (zCount (zFresh I c kd) d)) (nI d) J := rfl
    rw [e1]
    generalize zlp4 f_X12_joined_36 f = k1 at ih ⊢
    generalize hx : nI (zCount (zFresh I c kd) d) = x
    have r0 : f_X12_joined_203 k1 (nI kd) x (nI d) 0 J = k1 (nI kd) x (nI (d + 1)) J := by
      unfold f_X12_joined_203 f_X12_joined_214
      rw [if_pos rfl]
      simp only [zlt, nI_1, Int32.add_zero]
    have r1 : f_X12_joined_203 k1 (nI kd) x (nI d) 1 J = k1 (nI kd) (x + 1) (nI (d + 1)) J := by
      unfold f_X12_joined_203 f_X12_joined_214
      rw [if_neg n10]
      simp only [zlt, nI_1]
    unfold f_X12_joined_36 f_X12_joined_74 f_X12_joined_75
    rw [h2, if_neg (nI_ge (by omega) (by omega)), h3, if_pos rfl, zck_t _ (zbd_nI (show d < 300 by omega) (by decide)), zck_t _ (zbd_nI (show d < 300 by omega) (by decide)), nI_clamp (show d < 2 ^ 31 by omega)]
    by_cases hk : I 77 d = nI kd ∧ I 79 d = 0
    · obtain ⟨k1', k2'⟩ := (hg d (by omega)).mpr hk
      rw [if_pos k1', if_pos k2']
      obtain ⟨w', w1, w2⟩ := j_mid (I := I) hc hkd (by omega : d < D) hDD hnd h1 (k36 := k1) (v2 := x) hg hn d 0 1 zF (by omega) (zF_lt (by omega)) (Or.inr ⟨rfl, hk.1⟩)
      have w1' : zlp6 (f_X12_joined_80 k1) zF (nI kd) x (nI d) 1 0 J = _ := w1
      rw [w1']
      rcases w2 with ⟨rfl, -, a3⟩ | ⟨rfl, a2⟩
      · rw [r1, ← hx, nI_1, ← zCount_t (p := zFresh I c kd) ⟨hk.1, hk.2, fun e he => a3 e (Nat.zero_le _) he⟩]
        exact ih
      · rw [r0, ← hx, ← zCount_f (p := zFresh I c kd) (n := d) (fun z => a2 ⟨rfl, fun j _ => z.2.2 j⟩)]
        exact ih
    · have ez : zlp6 (f_X12_joined_80 k1) zF (nI kd) x (nI d) 0 0 J = k1 (nI kd) x (nI (d + 1)) J := by
        obtain ⟨m, hm⟩ := zF_s
        rw [hm]
        show f_X12_joined_80 k1 _ (nI kd) x (nI d) 0 0 J = _
        unfold f_X12_joined_80
        rw [if_pos rfl, ite_self, r0]
      have fin : k1 (nI kd) x (nI (d + 1)) J = some (nI (zCount (zFresh I c kd) D), J) := by
        rw [← hx, ← zCount_f (p := zFresh I c kd) (n := d) (fun z => hk ⟨z.1, z.2.1⟩)]
        exact ih
      have nk : ¬ (J 124 d = nI kd ∧ J 127 d = 0) := fun z => hk ((hg d (by omega)).mp z)
      by_cases q1 : J 124 d = nI kd
      · rw [if_pos q1, if_neg (fun q2 => nk ⟨q1, q2⟩), ez, fin]
      · rw [if_neg q1, ez, fin]
theorem sx_joined : Sx_joined zInv := by
  rintro I L x ⟨P, Q, hp, h⟩
  refine ⟨P, zpq_l hp, ?_⟩
  have hP : decide (I 0 8 = nI (P + 1)) = true := decide_eq_true h.1
  rcases zf_cases h with ⟨f1, f2⟩ | ⟨f1, f2, D, nn, nd, nw, nk, hD, hnn, hnd, hnw, hnk, d1, d2, d3, d4, p13, p15, hd, hcn, hm, hno, htx⟩
  · refine qx_t hp h 1 0 n10 ?_ ?_
    · simp only [w_joined, f_X11_joined, f1, e_true_0, zb1, zsm, Option.bind_some, if_true]
    · unfold f_X12_joined; rw [if_pos f2, e_joined_29 n10]
  · obtain ⟨nl, nw', hl24, hw8, w1, w2, k15, hwl, kn⟩ := zkin h.2.2.2.2.2.2.1 p15 hnk
    by_cases hx : x < 0 ∨ nI nk ≤ x
    · refine qx_t hp h 2 0 n20 ?_ ?_
      · simp only [w_joined, f_X11_joined, f1, e_true_1, zck_t _ hP, p15, e_below_f hx, zb1, zsm, Option.bind_some]
        rfl
      · unfold f_X12_joined f_X12_joined_24; rw [if_neg f2, k15, e_joined_29 n20]
        rcases hx with hx | hx
        · rw [if_pos hx]
        · rw [if_neg (Int32.not_lt.mpr hx), ite_self]
    · obtain ⟨kd, hkd, rfl⟩ : ∃ i, i < nk ∧ x = nI i := by
        rcases pk_ix x (n := nk) (by omega) with q | q | q
        · exact absurd (Or.inl q) hx
        · exact absurd (Or.inr q) hx
        · exact q
      obtain ⟨c, c1, c2, c3⟩ := hcn kd hkd
      refine qx_o hp h (nI (zCount (zFresh I c kd) D)) ?_ ?_
      · simp only [w_joined, f_X11_joined, f1, e_true_1, zck_t _ hP, p15, e_below_t hkd (show nk < 2 ^ 31 by omega), zb1, zsm, Option.bind_some, zck_t _ (zbd_nI (show kd < 8 by omega) (by decide)), nI_clamp (show kd < 2 ^ 31 by omega), zlt, c3]
      · unfold f_X12_joined; rw [if_neg f2, k15, if_neg (nI_pos (by omega)), if_pos (nI_lt hkd (by omega))]
        refine j_out (I := I) (J := zu I 97 0 0) (D := D) c1 (by omega) hD hnd (by rw [zu_p _ _ (by decide)]; exact c2) (by rw [zu_k _ _ (by decide)]; exact d2) (zu_eq _ _ _ _) (fun e he => ?_) (fun e i he hk hi => ?_) D 0 zF (by omega) (zF_lt (by omega))
        · obtain ⟨k, hk, g1, g2, -, g3, -⟩ := hd e he
          rw [zu_p _ _ (by decide), zu_p _ _ (by decide), g1, g2]
          rcases g3 with ⟨q1, q2⟩ | ⟨q1, q2⟩
          · rw [q1, q2]
          · rw [q1, q2]
        · obtain ⟨k, hk2, g1, g2, -, g3, -, -, g8⟩ := hd e he
          have : k = kd := by rw [g1] at hk; exact (nI_eq (by omega) (by omega)).mp hk
          subst this
          obtain ⟨r1, r2⟩ := g8 i (by omega) (by rw [c2]; exact nI_lt hi (by omega))
          rw [zu_p _ _ (by decide), e_mnet hnd r2, zNet_z, ← r1]
