/-! what is asked of the found: device, size, pin, net, bad -/
theorem qx_t {α : Type} {P Q : Nat} {I : zI} {L : zL} {w : Option (Int32 × Nat × zI × zL)} {m : zI → Option (α × zI)} {g : α → Int64} (hp : zpq P Q) (h : zInvP P Q I L) (k : Int32) (v : α) (hk : ¬ k = 0) (h1 : w = some (k, 1, I, L)) (h2 : m I = some (v, zu I 97 0 k)) :
    ∃ (k : Int32) (n : Nat) (I1 : zI) (L1 : zL) (v : α) (I2 : zI), n ≤ 1 ∧ w = some (k, n, I1, L1) ∧ m I1 = some (v, I2) ∧ f_X12_thrown I2 = some k ∧ (k = 0 → L1 133 0 = g v) ∧ zInv I2 L1 :=
  ⟨k, 1, I, L, v, _, Nat.le_refl _, h1, h2, e_thr _, fun z => absurd z hk, inv_thr' hp h k⟩
theorem qx_o {α : Type} {P Q : Nat} {I : zI} {L : zL} {w : Option (Int32 × Nat × zI × zL)} {m : zI → Option (α × zI)} {g : α → Int64} (hp : zpq P Q) (h : zInvP P Q I L) (v : α) (h1 : w = some (0, 0, I, zul L 133 0 (g v))) (h2 : m I = some (v, zu I 97 0 0)) :
    ∃ (k : Int32) (n : Nat) (I1 : zI) (L1 : zL) (v : α) (I2 : zI), n ≤ 1 ∧ w = some (k, n, I1, L1) ∧ m I1 = some (v, I2) ∧ f_X12_thrown I2 = some k ∧ (k = 0 → L1 133 0 = g v) ∧ zInv I2 L1 :=
  ⟨0, 0, I, _, v, _, Nat.zero_le _, h1, h2, e_thr _, fun _ => zul_eq _ _ _ _, inv_thr hp h 0 _⟩
theorem zf_cases {P Q : Nat} {I : zI} {L : zL} (h : zInvP P Q I L) : (I 0 10 = 0 ∧ I 97 30 = 0) ∨ (I 0 10 = 1 ∧ ¬ I 97 30 = 0 ∧ RFound P I L) := by
  rcases h.2.2.2.2.2.2.2.1.2 with q | q
  · exact Or.inl q
  · exact Or.inr ⟨q.1, by rw [q.2.1]; decide, (h.2.2.2.2.2.2.2.2.2 q.1).1⟩
theorem e_isdev_t {I : zI} {d D : Nat} (hd : d < D) (hD : D ≤ 300) (h : I 97 39 = nI D) : f_X12_isDevice (nI d) I = some 1 := by
  unfold f_X12_isDevice f_X12_isDevice_17
  rw [if_neg (nI_pos (by omega)), h, if_neg (nI_ge hd (by omega)), zck_t _ zbo_1]
theorem e_isdev_f {I : zI} {x : Int32} (h : x < 0 ∨ I 97 39 ≤ x) : f_X12_isDevice x I = some 0 := by
  unfold f_X12_isDevice f_X12_isDevice_16 f_X12_isDevice_17
  rw [zck_t _ zbo_0]
  rcases h with h | h
  · rw [if_pos h]
  · rw [if_pos h, ite_self]
theorem n10 : ¬ (1 : Int32) = 0 := by decide
theorem n20 : ¬ (2 : Int32) = 0 := by decide
theorem e_dev_38 {v1 v2 w1 : Int32} {I : zI} (h : ¬ w1 ≤ 0) : f_X12_device_38 v1 v2 w1 I = some (0, zu I 97 0 w1) := by
  simp only [f_X12_device_38, zlt, zu_eq]
  rw [if_neg h]
theorem sx_device : Sx_device zInv := by
  rintro I L x y ⟨P, Q, hp, h⟩
  rcases pk_ix y (n := 5) (by omega) with hy | hy | ⟨c, hc, rfl⟩
  · refine qx_t hp h 1 0 n10 ?_ ?_
    · simp only [w_device, f_X11_device, e_below_f (Or.inl hy), zb1, zsm, Option.bind_some, if_true]
    · unfold f_X12_device f_X12_device_10; rw [if_pos hy, e_dev_38 zi_01]
  · refine qx_t hp h 1 0 n10 ?_ ?_
    · simp only [w_device, f_X11_device, e_below_f (x := y) (y := 5) (Or.inr hy), zb1, zsm, Option.bind_some, if_true]
    · have n4 : ¬ y ≤ 4 := fun z => by
        have hy : (5 : Int32) ≤ y := hy
        rw [Int32.le_iff_toInt_le] at hy z
        have q1 : (5 : Int32).toInt = 5 := by decide
        have q2 : (4 : Int32).toInt = 4 := by decide
        omega
      unfold f_X12_device f_X12_device_10; rw [if_neg n4, e_dev_38 zi_01, ite_self]
  · have e1 : f_X11_mustBeBelow (nI c) 5 = some (.inl ()) := e_below_t (N := 5) hc (by omega)
    have c0 : ¬ nI c < 0 := nI_pos (by omega)
    have c4 : nI c ≤ 4 := nI_le (b := 4) (by omega) (by decide)
    rcases zf_cases h with ⟨f1, f2⟩ | ⟨f1, f2, D, nn, nd, nw, nk, hD, -, -, -, hnk, d1, d2, -, -, -, -, hd, -⟩
    · refine qx_t hp h 2 0 n20 ?_ ?_
      · simp only [w_device, f_X11_device, e1, f1, e_true_0, zb1, zsm, Option.bind_some]
        rfl
      · unfold f_X12_device; rw [if_neg c0, if_pos c4, if_pos f2, e_dev_38 zi_02]
    · by_cases hx : x < 0 ∨ nI D ≤ x
      · refine qx_t hp h 1 0 n10 ?_ ?_
        · simp only [w_device, f_X11_device, e1, f1, e_true_1, d1, e_below_f hx, zb1, zsm, Option.bind_some]
          rfl
        · unfold f_X12_device; rw [if_neg c0, if_pos c4, if_neg f2, e_isdev_f (by rw [d2]; exact hx)]
          simp only [zb1, Option.bind_some, if_true]
          rw [e_dev_38 zi_01]
      · obtain ⟨d, hdD, rfl⟩ : ∃ d, d < D ∧ x = nI d := by
          rcases pk_ix x (n := D) (by omega) with q | q | q
          · exact absurd (Or.inl q) hx
          · exact absurd (Or.inr q) hx
          · exact q
        obtain ⟨k, hk, g1, g2, ⟨s, hs, g3, g4⟩, g5, ⟨q, hq, g6, g7⟩, -⟩ := hd d hdD
        have hb : zbd (nI d) 300 = true := zbd_nI (by omega) (by decide)
        have hcl : (nI d).toNatClampNeg = d := nI_clamp (by omega)
        have rd : ∀ p, p ≠ 97 → zu I 97 0 0 p d = I p d := fun p hp => zu_p _ _ hp _
        have w1 : ∀ v, f_X11_device (nI d) (nI c) I = some (.inl v) → w_device (nI d) (nI c) I L = some (0, 0, I, zul L 133 0 v.toInt64) := fun v hv => by
          simp only [w_device, hv, zb1, zsm, Option.bind_some]
        have m1 : f_X12_device (nI d) (nI c) I = f_X12_device_38 (nI d) (nI c) 0 I := by
          unfold f_X12_device; rw [if_neg c0, if_pos c4, if_neg f2, e_isdev_t hdD hD d2]
          simp only [zb1, Option.bind_some]
          rw [if_neg n10]
        have w2 : f_X11_device (nI d) (nI c) I = if nI c = 0 then some (.inl (I 77 d)) else (if nI c = 1 then some (.inl (I 78 d)) else (if nI c = 2 then some (.inl (I 79 d)) else (if nI c = 3 then some (.inl (I 80 d - I 80 d / 64 * 64)) else some (.inl (I 80 d / 64))))) := by
          simp only [f_X11_device, e1, f1, e_true_1, d1, e_below_t hdD (show D < 2 ^ 31 by omega), zb1, zsm, Option.bind_some, zck_t _ hb, hcl, zlt, f_X11_columnOf, f_X11_rowOf]
        have m2 : f_X12_device_38 (nI d) (nI c) 0 I = if nI c = 0 then some (I 124 d, zu I 97 0 0) else (if nI c = 1 then some (I 125 d, zu I 97 0 0) else (if nI c = 2 then some (if I 127 d = 0 then 0 else 1, zu I 97 0 0) else (if nI c = 3 then some (I 126 d - I 126 d / 64 * 64, zu I 97 0 0) else some (I 126 d / 64, zu I 97 0 0)))) := by
          simp only [f_X12_device_38, zlt, zu_eq, zck_t _ hb, hcl, f_X12_device_125, rd 124 (by decide), rd 125 (by decide), rd 126 (by decide), rd 127 (by decide)]
          rw [if_pos (by decide)]
          by_cases z : I 127 d = 0 <;> simp [z]
        have q127 : I 79 d = if I 127 d = 0 then 0 else 1 := by
          rcases g5 with ⟨z1, z2⟩ | ⟨z1, z2⟩
          · rw [z1, z2, if_pos rfl]
          · rw [z1, z2, if_neg (by decide)]
        have fin : ∃ v, f_X11_device (nI d) (nI c) I = some (.inl v) ∧ f_X12_device_38 (nI d) (nI c) 0 I = some (v, zu I 97 0 0) := by
          rw [w2, m2, ← q127, g1, g2, g3, g4, g6, g7]
          by_cases r0 : nI c = 0
          · exact ⟨_, if_pos r0, if_pos r0⟩
          · simp only [if_neg r0]
            by_cases r1 : nI c = 1
            · exact ⟨_, if_pos r1, if_pos r1⟩
            · simp only [if_neg r1]
              by_cases r2 : nI c = 2
              · exact ⟨_, if_pos r2, if_pos r2⟩
              · simp only [if_neg r2]
                by_cases r3 : nI c = 3
                · exact ⟨_, if_pos r3, if_pos r3⟩
                · exact ⟨_, if_neg r3, if_neg r3⟩
        obtain ⟨v, v1, v2⟩ := fin
        exact qx_o hp h v (w1 v v1) (m1.trans v2)
theorem e_size_38 {v1 v2 w1 : Int32} {I : zI} {L : zL} (h : ¬ w1 ≤ 0) : f_X12_size_38 v1 v2 w1 I L = some (0, zu I 97 0 w1) := by
  simp only [f_X12_size_38, f_X12_size_62, zlt, zu_eq]
  rw [if_neg h]
theorem sx_size : Sx_size zInv := by
  rintro I L x y ⟨P, Q, hp, h⟩
  have T : ∀ k : Int32, ¬ k = 0 → w_size x y I L = some (k, 1, I, L) → f_X12_size x y I L = some (0, zu I 97 0 k) → ∃ (k : Int32) (n : Nat) (I1 : zI) (L1 : zL) (v : Int64) (I2 : zI), n ≤ 1 ∧ w_size x y I L = some (k, n, I1, L1) ∧ f_X12_size x y I1 L1 = some (v, I2) ∧ f_X12_thrown I2 = some k ∧ (k = 0 → L1 133 0 = v) ∧ zInv I2 L1 :=
    fun k hk h1 h2 => ⟨k, 1, I, L, 0, _, Nat.le_refl _, h1, h2, e_thr _, fun z => absurd z hk, inv_thr' hp h k⟩
  rcases pk_ix y (n := 3) (by omega) with hy | hy | ⟨c, hc, rfl⟩
  · refine T 1 n10 ?_ ?_
    · simp only [w_size, f_X11_size, e_below_f (Or.inl hy), zb1, zsm, Option.bind_some, if_true]
    · unfold f_X12_size f_X12_size_10; rw [if_pos hy, e_size_38 zi_01]
  · refine T 1 n10 ?_ ?_
    · simp only [w_size, f_X11_size, e_below_f (x := y) (y := 3) (Or.inr hy), zb1, zsm, Option.bind_some, if_true]
    · have n4 : ¬ y ≤ 2 := fun z => by
        have hy : (3 : Int32) ≤ y := hy
        rw [Int32.le_iff_toInt_le] at hy z
        have q1 : (3 : Int32).toInt = 3 := by decide
        have q2 : (2 : Int32).toInt = 2 := by decide
        omega
      unfold f_X12_size f_X12_size_10; rw [if_neg n4, e_size_38 zi_01, ite_self]
  · have e1 : f_X11_mustBeBelow (nI c) 3 = some (.inl ()) := e_below_t (N := 3) hc (by omega)
    have c0 : ¬ nI c < 0 := nI_pos (by omega)
    have c4 : nI c ≤ 2 := nI_le (b := 2) (by omega) (by decide)
    rcases zf_cases h with ⟨f1, f2⟩ | ⟨f1, f2, D, nn, nd, nw, nk, hD, -, -, -, hnk, d1, d2, -, -, -, -, hd, -⟩
    · refine T 2 n20 ?_ ?_
      · simp only [w_size, f_X11_size, e1, f1, e_true_0, zb1, zsm, Option.bind_some]
        rfl
      · unfold f_X12_size; rw [if_neg c0, if_pos c4, if_pos f2, e_size_38 zi_02]
    · by_cases hx : x < 0 ∨ nI D ≤ x
      · refine T 1 n10 ?_ ?_
        · simp only [w_size, f_X11_size, e1, f1, e_true_1, d1, e_below_f hx, zb1, zsm, Option.bind_some]
          rfl
        · unfold f_X12_size; rw [if_neg c0, if_pos c4, if_neg f2, e_isdev_f (by rw [d2]; exact hx)]
          simp only [zb1, Option.bind_some, if_true]
          rw [e_size_38 zi_01]
      · obtain ⟨d, hdD, rfl⟩ : ∃ d, d < D ∧ x = nI d := by
          rcases pk_ix x (n := D) (by omega) with q | q | q
          · exact absurd (Or.inl q) hx
          · exact absurd (Or.inr q) hx
          · exact q
        obtain ⟨k, hk, g1, g2, -, -, -, g8, -⟩ := hd d hdD
        obtain ⟨m, hm, g9, g10⟩ := g8 c hc
        have ex : nI d * 3 + nI c = nI (3 * d + c) := by rw [show (3 : Int32) = nI 3 from rfl, pk_mul, nI_add, Nat.mul_comm]
        have ex2 : 3 * nI d + nI c = nI (3 * d + c) := by rw [show (3 : Int32) = nI 3 from rfl, pk_mul, nI_add]
        have hb : zbd (nI (3 * d + c)) 900 = true := zbd_nI (by omega) (by decide)
        have hcl : (nI (3 * d + c)).toNatClampNeg = 3 * d + c := nI_clamp (by omega)
        refine ⟨0, 0, I, zul L 133 0 (lN m), lN m, zu I 97 0 0, Nat.zero_le _, ?_, ?_, e_thr _, fun _ => zul_eq _ _ _ _, inv_thr hp h 0 _⟩
        · simp only [w_size, f_X11_size, e1, f1, e_true_1, d1, e_below_t hdD (show D < 2 ^ 31 by omega), zb1, zsm, Option.bind_some, zlt, ex, zck_t _ hb, hcl, g9, nI_l hm]
        · unfold f_X12_size; rw [if_neg c0, if_pos c4, if_neg f2, e_isdev_t hdD hD d2]
          simp only [zb1, Option.bind_some]
          rw [if_neg n10]
          simp only [f_X12_size_38, f_X12_size_62, zlt, zu_eq, ex2, zck_t _ hb, hcl]
          rw [if_pos (by decide), zul_p _ _ (by decide), g10]
theorem e_mnet {I : zI} {nd : Nat} {x : Int32} (hn : nd ≤ 16384) (h : x = -1 ∨ ∃ m, m < nd ∧ x = nI m) : f_X12_netOf x I = some (zNet I x) := by
  unfold f_X12_netOf f_X12_netOf_15 zNet
  rcases h with rfl | ⟨m, hm, rfl⟩
  · rfl
  · rw [if_neg (nI_m1 (by omega)), if_neg (nI_m1 (by omega)), zck_t _ (zbd_nI (by omega) (by decide))]
theorem zNet_z {I : zI} {k : Nat} {v : Int32} (x : Int32) : zNet (zu I 97 k v) x = zNet I x := by
  unfold zNet; rw [zu_pf _ _ (by decide)]
theorem e_pin_44 {v1 v2 w1 : Int32} {I : zI} (h : ¬ w1 ≤ 0) : f_X12_pin_44 v1 v2 w1 I = some (0, zu I 97 0 w1) := by
  simp only [f_X12_pin_44, f_X12_pin_72, zlt, zu_eq]
  rw [if_neg h]
/-- the plan's part, of the class and of the reference -/
theorem zkin {P : Nat} {I : zI} (h : RPlan P I) {nk : Nat} (hk : I P 15 = nI nk) (hn : nk ≤ 8) : ∃ nl nw, nl ≤ 24 ∧ nw ≤ 8 ∧ I P 13 = nI nw ∧ I 97 13 = nI nw ∧ I 97 15 = nI nk ∧ (∀ w, w < nw → ∃ l, l < nl ∧ I (P + 1 + 4) w = nI l ∧ I 109 w = nI l) ∧ ∀ k, k < nk → ∃ c, 1 ≤ c ∧ c ≤ 4 ∧ I (P + 1 + 10) k = nI c ∧ I 115 k = nI c ∧ ∀ i, i < c → ∃ w, w < nw ∧ I (P + 1 + 11) (4 * k + i) = nI w ∧ I 116 (4 * k + i) = nI w := by
  obtain ⟨nl, nw, nj, nk', ⟨l0, -⟩, ⟨w0, w1, w2, w3⟩, -, ⟨k0, k1, k2, k3⟩⟩ := h
  have : nk' = nk := by rw [k1] at hk; exact (nI_eq (by omega) (by omega)).mp hk
  subst this
  exact ⟨nl, nw, l0, w0, w1, w2, k2, w3, fun k hk => (k3 k hk).2⟩
theorem sx_pin : Sx_pin zInv := by
  rintro I L x y ⟨P, Q, hp, h⟩
  refine ⟨P, zpq_l hp, ?_⟩
  have hP : decide (I 0 8 = nI (P + 1)) = true := decide_eq_true h.1
  rcases zf_cases h with ⟨f1, f2⟩ | ⟨f1, f2, D, nn, nd, nw, nk, hD, -, hnd, -, hnk, d1, d2, -, -, -, p15, hd, -⟩
  · refine qx_t hp h 1 0 n10 ?_ ?_
    · simp only [w_pin, f_X11_pin, f1, e_true_0, zb1, zsm, Option.bind_some, if_true]
    · unfold f_X12_pin; rw [if_pos f2, e_pin_44 zi_01]
  · by_cases hx : x < 0 ∨ nI D ≤ x
    · refine qx_t hp h 2 0 n20 ?_ ?_
      · simp only [w_pin, f_X11_pin, f1, e_true_1, d1, e_below_f hx, zb1, zsm, Option.bind_some]
        rfl
      · unfold f_X12_pin f_X12_pin_39; rw [if_neg f2, e_isdev_f (by rw [d2]; exact hx)]
        simp only [zb1, Option.bind_some, if_true]
        rw [e_pin_44 zi_02]
    · obtain ⟨d, hdD, rfl⟩ : ∃ d, d < D ∧ x = nI d := by
        rcases pk_ix x (n := D) (by omega) with q | q | q
        · exact absurd (Or.inl q) hx
        · exact absurd (Or.inr q) hx
        · exact q
      obtain ⟨k, hk, g1, g2, -, -, -, -, g8⟩ := hd d hdD
      obtain ⟨nl, nw', -, -, -, -, -, -, kn⟩ := zkin h.2.2.2.2.2.2.1 p15 hnk
      obtain ⟨c, c1, c2, c3, c4, -⟩ := kn k hk
      have hb : zbd (nI d) 300 = true := zbd_nI (by omega) (by decide)
      have hcl : (nI d).toNatClampNeg = d := nI_clamp (by omega)
      have hbk : zbd (nI k) 8 = true := zbd_nI (by omega) (by decide)
      have hbk2 : zbd (nI k) 16 = true := zbd_nI (by omega) (by decide)
      have hck : (nI k).toNatClampNeg = k := nI_clamp (by omega)
      have m1 : f_X12_pin (nI d) y I = if y < 0 then some (0, zu I 97 0 2) else (if y < nI c then f_X12_pin_44 (nI d) y 0 I else some (0, zu I 97 0 2)) := by
        unfold f_X12_pin f_X12_pin_39; rw [if_neg f2, e_isdev_t hdD hD d2]
        simp only [zb1, Option.bind_some, if_neg n10, zlt, zck_t _ hb, hcl, g2, zck_t _ hbk2, hck, c4, e_pin_44 zi_02]
      by_cases hy : y < 0 ∨ nI c ≤ y
      · refine qx_t hp h 2 0 n20 ?_ ?_
        · simp only [w_pin, f_X11_pin, f1, e_true_1, d1, e_below_t hdD (show D < 2 ^ 31 by omega), zb1, zsm, Option.bind_some, zck_t _ hP, zck_t _ hb, hcl, g1, zlt, zck_t _ hbk, hck, c3, e_below_f hy]
          rfl
        · rw [m1]
          rcases hy with hy | hy
          · rw [if_pos hy]
          · rw [if_neg (Int32.not_lt.mpr hy), ite_self]
      · obtain ⟨i, hi, rfl⟩ : ∃ i, i < c ∧ y = nI i := by
          rcases pk_ix y (n := c) (by omega) with q | q | q
          · exact absurd (Or.inl q) hy
          · exact absurd (Or.inr q) hy
          · exact q
        obtain ⟨r1, r2⟩ := g8 i (by omega) (by rw [c4]; exact nI_lt hi (by omega))
        have ex : nI d * 4 + nI i = nI (4 * d + i) := by rw [show (4 : Int32) = nI 4 from rfl, pk_mul, nI_add, Nat.mul_comm]
        have ex2 : 4 * nI d + nI i = nI (4 * d + i) := by rw [show (4 : Int32) = nI 4 from rfl, pk_mul, nI_add]
        have hbx : zbd (nI (4 * d + i)) 1200 = true := zbd_nI (by omega) (by decide)
        have hcx : (nI (4 * d + i)).toNatClampNeg = 4 * d + i := nI_clamp (by omega)
        refine qx_o hp h (zNet I (I 128 (4 * d + i))) ?_ ?_
        · simp only [w_pin, f_X11_pin, f1, e_true_1, d1, e_below_t hdD (show D < 2 ^ 31 by omega), zb1, zsm, Option.bind_some, zck_t _ hP, zck_t _ hb, hcl, g1, zlt, zck_t _ hbk, hck, c3, e_below_t hi (show c < 2 ^ 31 by omega), ex, zck_t _ hbx, hcx, r1]
        · rw [m1, if_neg (nI_pos (by omega)), if_pos (nI_lt hi (by omega))]
          have e0 : zu I 97 0 0 128 (4 * d + i) = I 128 (4 * d + i) := zu_p _ _ (by decide) _
          simp only [f_X12_pin_44, f_X12_pin_72, zlt, zu_eq, ex2, zck_t _ hbx, hcx, e0]
          rw [if_pos (by decide), e_mnet hnd r2, zNet_z]
          rfl
theorem e_node {I : zI} {nw nl w q : Nat} (hw : w < nw) (hnw : nw ≤ 8) (hnl : nl ≤ 24) (hq : q < 4096) (hl : ∃ l, l < nl ∧ I 109 w = nI l) : f_X12_nodeAt (nI w) (nI q) I = some (zNode I w q) := by
  obtain ⟨l, h1, h2⟩ := hl
  have hcw : (nI w).toNatClampNeg = w := nI_clamp (by omega)
  have hcl : (nI l).toNatClampNeg = l := nI_clamp (by omega)
  have ex : (4096 : Int32) * nI l + nI q = nI (4096 * l + q) := by rw [show (4096 : Int32) = nI 4096 from rfl, pk_mul, nI_add]
  have hcx : (nI (4096 * l + q)).toNatClampNeg = 4096 * l + q := nI_clamp (by omega)
  simp only [f_X12_nodeAt, f_X12_nodeAt_35, zlt, hcw, h2, ex, hcx, zck_t _ (zbd_nI (show w < 16 by omega) (by decide)), zck_t _ (zbd_nI (show 4096 * l + q < 98304 by omega) (by decide)), zck_t _ (zbd_nI (show w < 8 by omega) (by decide)), zNode, hcl]
  split <;> rfl
theorem zNode_z {I : zI} {k : Nat} {v : Int32} (w q : Nat) : zNode (zu I 97 k v) w q = zNode I w q := by
  unfold zNode; rw [zu_pf _ _ (by decide), zu_pf _ _ (by decide), zu_pf _ _ (by decide)]
theorem e_net_42 {v1 w1 : Int32} {a b : Int64} {I : zI} (h : ¬ w1 ≤ 0) : f_X12_net_42 v1 a b w1 I = some (0, zu I 97 0 w1) := by
  simp only [f_X12_net_42, f_X12_net_74, zlt, zu_eq]
  rw [if_neg h]
theorem e_cnet {I : zI} {nd nn : Nat} {x : Int32} (hn : nd ≤ 16384) (h : x = -1 ∨ ∃ m, m < nd ∧ x = nI m) (he : ∀ m, m < nd → ∃ t, t < nn ∧ I 72 m = nI t ∧ I 123 m = nI t) : f_X3_netOf x I = some (zNet I x) := by
  unfold f_X3_netOf f_X3_netOf_15 zNet
  rcases h with rfl | ⟨m, hm, rfl⟩
  · rfl
  · obtain ⟨t, -, t1, t2⟩ := he m hm
    rw [if_neg (nI_m1 (by omega)), if_neg (nI_m1 (by omega)), zck_t _ (zbd_nI (by omega) (by decide)), nI_clamp (by omega), t1, t2]
theorem e_cnetAt {I : zI} {w q nd nn : Nat} (hw : w < 8) (hq : q < 4096) (hnd : nd ≤ 16384) (o1 : I (63 + w) q = zNode I w q) (o2 : zNode I w q = -1 ∨ ∃ m, m < nd ∧ zNode I w q = nI m) (hm : ∀ m, m < nd → ∃ t, t < nn ∧ I 72 m = nI t ∧ I 123 m = nI t) : f_X3_netAt (nI w) (nI q) I = some (zNet I (zNode I w q)) := by
  have hcw : (nI w).toNatClampNeg = w := nI_clamp (by omega)
  have hcq : (nI q).toNatClampNeg = q := nI_clamp (by omega)
  unfold f_X3_netAt
  rw [zck_t _ (zbd_nI hw (by decide)), zck_t _ (zbd_nI hq (by decide)), hcw, hcq, o1, e_cnet hnd o2 hm]
  rfl
theorem zsq_at {X Y : Nat} : f_X11_squareAt (lN X).toInt32 (lN Y).toInt32 = some (nI (64 * Y + X)) := by
  simp only [f_X11_squareAt, zlt, lN_i]
  rw [show (64 : Int32) = nI 64 from rfl, pk_mul, nI_add, Nat.mul_comm]
theorem zsq_at2 {X Y : Nat} : (64 : Int32) * (lN Y).toInt32 + (lN X).toInt32 = nI (64 * Y + X) := by
  rw [lN_i, lN_i, show (64 : Int32) = nI 64 from rfl, pk_mul, nI_add]
theorem e_mnetAt {I : zI} {X Y w nw nl nd : Nat} (hw : w < nw) (hnw : nw ≤ 8) (hnl : nl ≤ 24) (hq : 64 * Y + X < 4096) (hl : ∃ l, l < nl ∧ I 109 w = nI l) (hnd : nd ≤ 16384) (o2 : zNode I w (64 * Y + X) = -1 ∨ ∃ m, m < nd ∧ zNode I w (64 * Y + X) = nI m) : f_X12_net_42 (nI w) (lN X) (lN Y) 0 I = some (zNet I (zNode I w (64 * Y + X)), zu I 97 0 0) := by
  unfold f_X12_net_42 f_X12_net_74
  simp only [zlt]
  rw [zu_eq, if_pos (by decide), zsq_at2, e_node hw hnw hnl hq (by rw [zu_p _ _ (by decide)]; exact hl)]
  simp only [zb1, Option.bind_some]
  rw [zNode_z, e_mnet hnd o2, zNet_z]
  rfl
theorem sx_net : Sx_net zInv := by
  rintro I L x a b ⟨P, Q, hp, h⟩
  refine ⟨P, zpq_l hp, ?_⟩
  have hP : decide (I 0 8 = nI (P + 1)) = true := decide_eq_true h.1
  by_cases hs : ¬ a < 0 ∧ ¬ 64 ≤ a ∧ ¬ b < 0 ∧ b < 64
  · rcases zf_cases h with ⟨f1, f2⟩ | ⟨f1, f2, D, nn, nd, nw, nk, hD, -, hnd, hnw, hnk, d1, d2, -, -, p13, p15, hd, -, hm, hno, -⟩
    · refine qx_t hp h 2 0 n20 ?_ ?_
      · simp only [w_net, f_X11_net, e_msq_t hs, f1, e_true_0, zb1, zsm, Option.bind_some]
        rfl
      · unfold f_X12_net; rw [e_isq_t hs]
        simp only [zb1, Option.bind_some]
        rw [if_neg n10, if_pos f2, e_net_42 zi_02]
    · obtain ⟨nl, nw', hl24, hw8, w1, w2, -, hwl, -⟩ := zkin h.2.2.2.2.2.2.1 p15 hnk
      have : nw' = nw := by rw [w1] at p13; exact (nI_eq (by omega) (by omega)).mp p13
      subst this
      by_cases hx : x < 0 ∨ nI nw' ≤ x
      · refine qx_t hp h 1 0 n10 ?_ ?_
        · simp only [w_net, f_X11_net, e_msq_t hs, f1, e_true_1, zck_t _ hP, w1, e_below_f hx, zb1, zsm, Option.bind_some]
          rfl
        · unfold f_X12_net f_X12_net_37; rw [e_isq_t hs]
          simp only [zb1, Option.bind_some]
          rw [if_neg n10, if_neg f2, w2, e_net_42 zi_01]
          rcases hx with hx | hx
          · rw [if_pos hx]
          · rw [if_neg (Int32.not_lt.mpr hx), ite_self]
      · obtain ⟨w, hw, rfl⟩ : ∃ i, i < nw' ∧ x = nI i := by
          rcases pk_ix x (n := nw') (by omega) with q | q | q
          · exact absurd (Or.inl q) hx
          · exact absurd (Or.inr q) hx
          · exact q
        have hs' := hs
        obtain ⟨X, Y, hX, hY, rfl, rfl⟩ := zsq_of hs
        obtain ⟨o1, o2⟩ := hno w (64 * Y + X) hw (by omega)
        obtain ⟨l, l1, l2, l3⟩ := hwl w hw
        refine qx_o hp h (zNet I (zNode I w (64 * Y + X))) ?_ ?_
        · simp only [w_net, f_X11_net, e_msq_t hs', f1, e_true_1, zck_t _ hP, w1, e_below_t hw (show nw' < 2 ^ 31 by omega), zb1, zsm, Option.bind_some, zsq_at, e_cnetAt (show w < 8 by omega) (show 64 * Y + X < 4096 by omega) hnd o1 o2 hm]
        · unfold f_X12_net; rw [e_isq_t hs']
          simp only [zb1, Option.bind_some]
          rw [if_neg n10, if_neg f2, if_neg (nI_pos (by omega)), w2, if_pos (nI_lt hw (by omega))]
          exact e_mnetAt hw hw8 hl24 (by omega) ⟨l, l1, l3⟩ hnd o2
  · refine qx_t hp h 1 0 n10 ?_ ?_
    · simp only [w_net, f_X11_net, e_msq_f hs, zb1, zsm, Option.bind_some]
      rfl
    · unfold f_X12_net; rw [e_isq_f hs]
      simp only [zb1, Option.bind_some, if_true]
      rw [e_net_42 zi_01]
