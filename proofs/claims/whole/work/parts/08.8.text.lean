/-! text, count -/
theorem e_text_47 {v1 v6 w1 : Int32} {a b : Int64} {I : zI} (h : ¬ w1 ≤ 0) : f_X12_text_47 v1 a b v6 w1 I = some (0, zu I 97 0 w1) := by
  simp only [f_X12_text_47, zlt, zu_eq]
  rw [if_neg h]
theorem e_msq_t {a b : Int64} (h : ¬ a < 0 ∧ ¬ 64 ≤ a ∧ ¬ b < 0 ∧ b < 64) : f_X11_mustBeSquare a b = some (.inl ()) := by
  unfold f_X11_mustBeSquare; rw [if_neg h.1, if_neg h.2.1, if_neg h.2.2.1, if_pos h.2.2.2]
theorem e_msq_f {a b : Int64} (h : ¬ (¬ a < 0 ∧ ¬ 64 ≤ a ∧ ¬ b < 0 ∧ b < 64)) : f_X11_mustBeSquare a b = some (.inr 0) := by
  unfold f_X11_mustBeSquare f_X11_mustBeSquare_28
  by_cases r1 : a < 0
  · rw [if_pos r1]
  · by_cases r2 : 64 ≤ a
    · rw [if_neg r1, if_pos r2]
    · by_cases r3 : b < 0
      · rw [if_neg r1, if_neg r2, if_pos r3]
      · rw [if_neg r1, if_neg r2, if_neg r3, if_neg (fun z => h ⟨r1, r2, r3, z⟩)]
theorem e_isq_t {a b : Int64} (h : ¬ a < 0 ∧ ¬ 64 ≤ a ∧ ¬ b < 0 ∧ b < 64) : f_X12_isSquare a b = some 1 := by
  unfold f_X12_isSquare f_X12_isSquare_32 f_X12_isSquare_33; rw [if_neg h.1, if_neg h.2.1, if_neg h.2.2.1, if_neg (Int64.not_le.mpr h.2.2.2), zck_t _ zbo_1]
theorem e_isq_f {a b : Int64} (h : ¬ (¬ a < 0 ∧ ¬ 64 ≤ a ∧ ¬ b < 0 ∧ b < 64)) : f_X12_isSquare a b = some 0 := by
  unfold f_X12_isSquare f_X12_isSquare_32 f_X12_isSquare_33
  rw [zck_t _ zbo_0]
  by_cases r1 : a < 0
  · rw [if_pos r1]
  · by_cases r2 : 64 ≤ a
    · rw [if_neg r1, if_pos r2]
    · by_cases r3 : b < 0
      · rw [if_neg r1, if_neg r2, if_pos r3]
      · rw [if_neg r1, if_neg r2, if_neg r3, if_pos (Int64.not_lt.mp fun z => h ⟨r1, r2, r3, z⟩)]
theorem zsq_of {a b : Int64} (h : ¬ a < 0 ∧ ¬ 64 ≤ a ∧ ¬ b < 0 ∧ b < 64) : ∃ X Y, X < 64 ∧ Y < 64 ∧ a = lN X ∧ b = lN Y := by
  have l : ∀ x : Int64, x < 64 → x ≤ 63 := fun x hx => by
    rw [Int64.le_iff_toInt_le]
    rw [Int64.lt_iff_toInt_lt] at hx
    have h1 : (64 : Int64).toInt = 64 := by decide
    have h2 : (63 : Int64).toInt = 63 := by decide
    omega
  obtain ⟨X, h1, e1⟩ := lN_of64 (m := 63) (y := 63) (by decide) (by decide) h.1 (l _ (Int64.not_le.mp h.2.1))
  obtain ⟨Y, h2, e2⟩ := lN_of64 (m := 63) (y := 63) (by decide) (by decide) h.2.2.1 (l _ h.2.2.2)
  exact ⟨X, Y, by omega, by omega, e1, e2⟩
theorem sx_text : Sx_text zInv := by
  rintro I L x a b v ⟨P, Q, hp, h⟩
  obtain ⟨n, a1, a2, a3, a4⟩ := h.2.2.2.2.2.1
  have thr : ∀ k : Int32, (k = 1 ∨ k = 2 ∨ k = 3) → w_text x a b v I L = some (k, 1, I, L) → f_X12_text x a b v I = f_X12_text_47 x a b v k I → ∃ (k : Int32) (n : Nat) (I1 : zI) (L1 : zL) (v1 : Int32) (I2 : zI), n ≤ 1 ∧ w_text x a b v I L = some (k, n, I1, L1) ∧ f_X12_text x a b v I1 = some (v1, I2) ∧ f_X12_thrown I2 = some k ∧ (k = 0 → L1 133 0 = v1.toInt64) ∧ zInv I2 L1 := by
    intro k hk h1 h2
    have hk0 : ¬ k ≤ 0 := by rcases hk with rfl | rfl | rfl <;> decide
    exact ⟨k, 1, I, L, 0, zu I 97 0 k, Nat.le_refl _, h1, by rw [h2, e_text_47 hk0], e_thr _, fun z => absurd (show k ≤ 0 by rw [z]; decide) hk0, inv_thr' hp h k⟩
  rcases pk_ix x (n := 8) (by omega) with hx | hx | ⟨w, hw, rfl⟩
  · refine thr 1 (by simp) ?_ ?_
    · simp only [w_text, f_X11_text, e_below_f (Or.inl hx), zb1, zb2, zsm, Option.bind_some, if_true]
    · unfold f_X12_text f_X12_text_20; rw [if_pos hx]
  · refine thr 1 (by simp) ?_ ?_
    · simp only [w_text, f_X11_text, e_below_f (x := x) (y := 8) (Or.inr hx), zb1, zb2, zsm, Option.bind_some, if_true]
    · unfold f_X12_text f_X12_text_20; rw [if_pos (show (8 : Int32) ≤ x from hx), ite_self]
  · have e1 : f_X11_mustBeBelow (nI w) 8 = some (.inl ()) := e_below_t (N := 8) hw (by omega)
    have w0 : ¬ nI w < 0 := nI_pos (by omega)
    have w8 : ¬ (8 : Int32) ≤ nI w := nI_ge (b := 8) hw (by decide)
    by_cases hs : ¬ a < 0 ∧ ¬ 64 ≤ a ∧ ¬ b < 0 ∧ b < 64
    · rcases Nat.lt_or_ge n 40 with hn | hn
      · have l1 : ¬ (40 : Int32) ≤ nI n := nI_ge (b := 40) hn (by decide)
        have l2 : ¬ nI n = 40 := fun z => by have := (nI_eq (b := 40) (by omega) (by decide)).mp z; omega
        by_cases hv : 0 ≤ v
        · obtain ⟨X, Y, hX, hY, rfl, rfl⟩ := zsq_of hs
          obtain ⟨m, hm, rfl⟩ := nI_of (Int32.not_lt.mpr hv)
          have es : f_X11_squareAt (lN X).toInt32 (lN Y).toInt32 = some (nI (64 * Y + X)) := by
            simp only [f_X11_squareAt, zlt, lN_i]
            rw [show (64 : Int32) = nI 64 from rfl, pk_mul, nI_add, Nat.mul_comm]
          have es2 : (64 : Int32) * (lN Y).toInt32 + (lN X).toInt32 = nI (64 * Y + X) := by
            rw [lN_i, lN_i, show (64 : Int32) = nI 64 from rfl, pk_mul, nI_add]
          let J := zu (zu (zu (zu (zu I 0 10 0) 27 n (nI w)) 28 n (nI (64 * Y + X))) 29 n (nI m)) 26 0 (nI (n + 1))
          have hJ : J = zu (zu (zu (zu (zu I 0 10 0) 27 n (nI w)) 28 n (nI (64 * Y + X))) 29 n (nI m)) 26 0 (nI (n + 1)) := rfl
          have hb : zbd (nI n) 40 = true := zbd_nI hn (by decide)
          have hcl : (nI n).toNatClampNeg = n := nI_clamp (by omega)
          let K := zu (zu (zu (zu (zu (zu J 97 0 0) 102 n (nI w)) 103 n (nI (64 * Y + X))) 104 n (nI m)) 97 7 (nI (n + 1))) 97 30 0
          have hK : K = zu (zu (zu (zu (zu (zu J 97 0 0) 102 n (nI w)) 103 n (nI (64 * Y + X))) 104 n (nI m)) 97 7 (nI (n + 1))) 97 30 0 := rfl
          refine ⟨0, 0, J, zul L 133 0 (nI (n + 1)).toInt64, nI (n + 1), K, by omega, ?_, ?_, ?_, fun _ => zul_eq _ _ _ _, P, Q, hp, inv_draw hp h ?_ ?_ ?_ ?_ ?_ ?_ ?_ ?_⟩
          · have q1 : zu I 0 10 0 26 0 = nI n := by simp [zu, a2]
            have q2 : ∀ u, zu (zu I 0 10 0) 27 n u 26 0 = nI n := fun u => by simp [zu, a2]
            have q3 : ∀ u u2, zu (zu (zu I 0 10 0) 27 n u) 28 n u2 26 0 = nI n := fun u u2 => by simp [zu, a2]
            have q4 : ∀ u u2 u3, zu (zu (zu (zu I 0 10 0) 27 n u) 28 n u2) 29 n u3 26 0 = nI n := fun u u2 u3 => by simp [zu, a2]
            simp only [w_text, f_X11_text, e1, zb1, zb2, zsm, Option.bind_some, e_msq_t hs, a2, if_neg l1, f_X11_text_29, e_true_1, if_pos hv, zlt, es, f_X4_add, q1, hb, zck_t _ hb, hcl, q2, q3, q4, nI_1, zu_eq]
            rfl
          · have q0 : J 97 7 = nI n := by rw [hJ]; simp [zu, a3]
            have q1 : zu J 97 0 0 97 7 = nI n := by simp [zu, q0]
            have q2 : ∀ u, zu (zu J 97 0 0) 102 n u 97 7 = nI n := fun u => by simp [zu, q0]
            have q3 : ∀ u u2, zu (zu (zu J 97 0 0) 102 n u) 103 n u2 97 7 = nI n := fun u u2 => by simp [zu, q0]
            have q4 : ∀ u u2 u3, zu (zu (zu (zu J 97 0 0) 102 n u) 103 n u2) 104 n u3 97 7 = nI n := fun u u2 u3 => by simp [zu, q0]
            unfold f_X12_text
            rw [if_neg w0, if_neg w8, e_isq_t hs]
            simp only [zb1, Option.bind_some]
            rw [if_neg (by decide), q0, if_neg l2, if_pos hv]
            simp only [f_X12_text_47, zlt, zu_eq]
            rw [if_pos (by decide)]
            simp only [es2, q1, zck_t _ hb, hcl, q2, q3, q4, nI_1, zu_k _ _ (show (7 : Nat) ≠ 30 by decide), zu_eq]
            rfl
          · rw [hK]; simp [f_X12_thrown, zlt, zu, hJ]
          · intro q d1 d2 d3; rw [hK, hJ]; funext k; simp only [zu]; simp [d1, show q ≠ 97 by omega, show q ≠ 102 by omega, show q ≠ 103 by omega, show q ≠ 104 by omega, show q ≠ 27 by omega, show q ≠ 28 by omega, show q ≠ 29 by omega, show q ≠ 26 by omega]
          · intro k hk; rw [hK, hJ]; simp [zu, hk]
          · intro k d1 d2 d3 d4; rw [hK, hJ]; simp [zu, d1, d3, d4]
          · intro q hq; funext k; simp [zul, hq]
          · rw [hK, hJ]; simp [zu]
          · rw [hK]; simp [zu]
          · exact h.2.2.2.2.1.cg (by rw [hK, hJ]; simp [zu]) (by rw [hK, hJ]; simp [zu]) (fun q hq => by rw [hK, hJ]; funext k; simp only [zu]; simp [show q ≠ 97 by omega, show q ≠ 102 by omega, show q ≠ 103 by omega, show q ≠ 104 by omega, show q ≠ 27 by omega, show q ≠ 28 by omega, show q ≠ 29 by omega, show q ≠ 26 by omega, show q ≠ 0 by omega])
          · refine ⟨n + 1, by omega, by rw [hK, hJ]; simp [zu], by rw [hK, hJ]; simp [zu], fun t ht => ?_⟩
            by_cases htn : t = n
            · subst htn
              exact ⟨⟨w, hw, by rw [hK, hJ]; simp [zu], by rw [hK, hJ]; simp [zu]⟩, ⟨64 * Y + X, by omega, by rw [hK, hJ]; simp [zu], by rw [hK, hJ]; simp [zu]⟩, ⟨m, hm, by rw [hK, hJ]; simp [zu], by rw [hK, hJ]; simp [zu]⟩⟩
            · have := a4 t (by omega)
              rw [hK, hJ]
              simpa [zu, htn] using this
        · refine thr 3 (by simp) ?_ ?_
          · simp only [w_text, f_X11_text, e1, zb1, zb2, zsm, Option.bind_some, e_msq_t hs, a2, if_neg l1, f_X11_text_29, e_true_1, if_neg hv]
            rfl
          · unfold f_X12_text; rw [if_neg w0, if_neg w8, e_isq_t hs]
            simp only [zb1, Option.bind_some]
            rw [if_neg (by decide), a3, if_neg l2, if_neg hv]
      · have : n = 40 := by omega
        subst this
        refine thr 2 (by simp) ?_ ?_
        · simp only [w_text, f_X11_text, e1, zb1, zb2, zsm, Option.bind_some, e_msq_t hs, a2, if_pos (show (40 : Int32) ≤ nI 40 by decide), f_X11_text_29, e_true_0]
          rfl
        · unfold f_X12_text; rw [if_neg w0, if_neg w8, e_isq_t hs]
          simp only [zb1, Option.bind_some]
          rw [if_neg (by decide), a3, if_pos (show nI 40 = 40 from rfl)]
    · refine thr 1 (by simp) ?_ ?_
      · simp only [w_text, f_X11_text, e1, zb1, zb2, zsm, Option.bind_some, e_msq_f hs]
        rfl
      · unfold f_X12_text f_X12_text_20; rw [if_neg w0, if_neg w8, e_isq_f hs]
        rfl
theorem sx_count : Sx_count zInv := by
  rintro I L x ⟨P, Q, hp, h⟩
  have hz := h
  obtain ⟨h1, h2, h3, h4, h5, h6, h7, h8, h9, h10⟩ := h
  refine ⟨P, zpq_l hp, ?_⟩
  have thr : (x < 0 ∨ (9 : Int32) ≤ x) → ∃ (k : Int32) (n : Nat) (I1 : zI) (L1 : zL) (v : Int32) (I2 : zI), n ≤ 1 ∧ w_count P x I L = some (k, n, I1, L1) ∧ f_X12_count x I1 = some (v, I2) ∧ f_X12_thrown I2 = some k ∧ (k = 0 → L1 133 0 = v.toInt64) ∧ zInv I2 L1 := by
    intro hx
    refine ⟨1, 1, I, L, 0, zu I 97 0 1, Nat.le_refl _, ?_, ?_, e_thr _, fun z => absurd z (by decide), inv_thr' hp hz 1⟩
    · simp only [w_count, f_X11_count, e_below_f hx, zb1, zsm, Option.bind_some, if_true]
    · have e16 : f_X12_count_16 x 1 I = some (0, zu I 97 0 1) := by
        simp only [f_X12_count_16, zlt, zu_eq]
        rw [if_neg zi_01]
      unfold f_X12_count f_X12_count_11
      rw [e16]
      rcases hx with hx | hx
      · rw [if_pos hx]
      · have n8 : ¬ x ≤ 8 := fun z => by
          rw [Int32.le_iff_toInt_le] at hx z
          have q1 : (9 : Int32).toInt = 9 := by decide
          have q2 : (8 : Int32).toInt = 8 := by decide
          omega
        rw [if_neg n8, ite_self]
  rcases pk_ix x (n := 9) (by omega) with hx | hx | ⟨c, hc, rfl⟩
  · exact thr (Or.inl hx)
  · exact thr (Or.inr hx)
  · have e1 : f_X11_mustBeBelow (nI c) 9 = some (.inl ()) := e_below_t (N := 9) hc (by omega)
    have e8 : nI c ≤ 8 := nI_le (b := 8) (by omega) (by decide)
    have ok : ∀ v : Int32, f_X11_count P (nI c) I = some (.inl v) → f_X12_count_16 (nI c) 0 I = some (v, zu I 97 0 0) → ∃ (k : Int32) (n : Nat) (I1 : zI) (L1 : zL) (v : Int32) (I2 : zI), n ≤ 1 ∧ w_count P (nI c) I L = some (k, n, I1, L1) ∧ f_X12_count (nI c) I1 = some (v, I2) ∧ f_X12_thrown I2 = some k ∧ (k = 0 → L1 133 0 = v.toInt64) ∧ zInv I2 L1 := by
      intro v g1 g2
      refine ⟨0, 0, I, zul L 133 0 v.toInt64, v, zu I 97 0 0, by omega, ?_, ?_, e_thr _, fun _ => zul_eq _ _ _ _, inv_thr hp hz 0 _⟩
      · simp only [w_count, g1, zb1, zsm, Option.bind_some]
      · unfold f_X12_count; rw [if_neg (nI_pos (by omega)), if_pos e8, g2]
    have hP : decide (I 0 8 = nI (P + 1)) = true := decide_eq_true h1
    obtain ⟨nl, nw, nj, nk, ⟨-, l1, l2, -⟩, ⟨-, w1, w2, -⟩, ⟨-, j1, j2, -⟩, ⟨-, k1, k2, -⟩⟩ := h7
    have rd : ∀ k, k ≠ 0 → zu I 97 0 0 97 k = I 97 k := fun k hk => zu_k _ _ hk _
    have fl : (I 0 10 = 0 ∧ I 97 30 = 0) ∨ (¬ I 0 10 = 0 ∧ ¬ I 97 30 = 0 ∧ I 73 7 = I 97 39 ∧ I 61 1 = I 97 38) := by
      rcases h8.2 with q | q
      · exact Or.inl q
      · obtain ⟨D, nn, nd, nw, nk, -, -, -, -, -, r1, r2, r3, r4, -⟩ := (h10 q.1).1
        refine Or.inr ⟨by rw [q.1]; decide, by rw [q.2.1]; decide, by rw [r1, r2], by rw [r3, r4]⟩
    have a0 : (if (I 0 10) = 0 then (f_X11_count_102 P (0 : Int32) I) else (f_X11_count_102 P (I 73 7) I)) = some (.inl (if I 97 30 = 0 then 0 else I 97 39)) := by
      rcases fl with ⟨q1, q2⟩ | ⟨q1, q2, q3, q4⟩
      · rw [if_pos q1, if_pos q2]; rfl
      · rw [if_neg q1, if_neg q2, q3]; rfl
    have a0' : (if (I 0 10) = 0 then (f_X11_count_121 P (0 : Int32) I) else (f_X11_count_121 P (I 61 1) I)) = some (.inl (if I 97 30 = 0 then 0 else I 97 38)) := by
      rcases fl with ⟨q1, q2⟩ | ⟨q1, q2, q3, q4⟩
      · rw [if_pos q1, if_pos q2]; rfl
      · rw [if_neg q1, if_neg q2, q4]; rfl
    obtain ⟨nt, -, t1, t2, -⟩ := h4
    obtain ⟨nd, -, d1, d2, -⟩ := h5
    obtain ⟨no, -, o1, o2, -⟩ := h6
    have g1 : ∀ v, f_X11_count P (nI c) I = some (.inl v) ↔ (if nI c = (0 : Int32) then (some (.inl (I P 12))) else (if nI c = (1 : Int32) then some (.inl (I P 13)) else (if nI c = (2 : Int32) then some (.inl (I P 14)) else (if nI c = (3 : Int32) then some (.inl (I P 15)) else (if nI c = (4 : Int32) then some (.inl (if I 97 30 = 0 then 0 else I 97 39)) else (if nI c = (5 : Int32) then some (.inl (if I 97 30 = 0 then 0 else I 97 38)) else (if nI c = (6 : Int32) then some (.inl (I 20 5)) else (if nI c = (7 : Int32) then some (.inl (I 26 0)) else some (.inl (I 1 1)))))))))) = (some (.inl v) : Option (Int32 ⊕ Nat)) := by
      intro v
      simp only [f_X11_count, e1, zb1, zsm, Option.bind_some, zck_t _ hP, zlt, a0, a0']
    have g2 : f_X12_count_16 (nI c) 0 I = some ((if nI c = (0 : Int32) then (I 97 12) else (if nI c = (1 : Int32) then (I 97 13) else (if nI c = (2 : Int32) then (I 97 14) else (if nI c = (3 : Int32) then (I 97 15) else (if nI c = (4 : Int32) then (if I 97 30 = 0 then 0 else I 97 39) else (if nI c = (5 : Int32) then (if I 97 30 = 0 then 0 else I 97 38) else (if nI c = (6 : Int32) then (I 97 2) else (if nI c = (7 : Int32) then (I 97 7) else (I 97 29))))))))), zu I 97 0 0) := by
      simp only [f_X12_count_16, f_X12_count_111, f_X12_count_127, zlt, zu_eq]
      rw [if_pos (by decide), rd 12 (by decide), rd 13 (by decide), rd 14 (by decide), rd 15 (by decide), rd 30 (by decide), rd 38 (by decide), rd 39 (by decide), rd 2 (by decide), rd 7 (by decide), rd 29 (by decide)]
      by_cases q : I 97 30 = 0
      · simp only [if_pos q]
        repeat' split
        all_goals rfl
      · simp only [if_neg q]
        repeat' split
        all_goals rfl
    refine ok _ ((g1 _).mpr ?_) g2
    rw [l1, l2, w1, w2, j1, j2, k1, k2, t1, t2, d1, d2, o1, o2]
    repeat' split
    all_goals rfl
