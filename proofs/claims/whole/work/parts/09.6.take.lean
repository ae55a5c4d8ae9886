/-! taking a word -/
def sg (T : Nat → Nat) (m : Nat) (F E : Nat → Nat) (j ch : Nat) : Prop := wS T m F E j = 3 ∧ wV T F E j = ch
def wd (T : Nat → Nat) (m : Nat) (F E : Nat → Nat) (j t : Nat) : Prop := wS T m F E j = 1 ∧ wG T F E j = kw t
def nwL (T : Nat → Nat) (m : Nat) (F E : Nat → Nat) (n : Nat) (N : Nat → List Nat) (j : Nat) : Prop := wS T m F E j = 1 ∧ ∀ l, l < n → N l ≠ wG T F E j
section Tk
variable {Q : Nat} {G : Nat → Nat → Int32} {c : Nat → Nat} {N : Nat → Nat → List Nat} {I J : zI} {L M : zL} {T : Nat → Nat} {n m : Nat} {F E : Nat → Nat} {j r : Nat}
theorem sg_lt {ch : Nat} (h : sg T m F E j ch) : j < m := wS_lt (by rw [h.1]; decide)
theorem wd_lt {t : Nat} (h : wd T m F E j t) : j < m := wS_lt (by rw [h.1]; decide)
theorem nwL_lt {k : Nat} {W : Nat → List Nat} (h : nwL T m F E k W j) : j < m := wS_lt (by rw [h.1]; decide)
theorem wS_6 : wS T m F E j < 6 := by
  unfold wS; repeat' split
  all_goals omega
theorem nI_wS {k : Nat} (hk : k < 6) : nI (wS T m F E j) = nI k ↔ wS T m F E j = k := nI_eq (by have := wS_6 (T := T) (m := m) (F := F) (E := E) (j := j); omega) (by omega)
theorem wV_lt (hn : n ≤ 800) (ht : Tok T n m F E) (hT : ∀ k, k < n → T k < 127) (h : wS T m F E j = 2 ∨ wS T m F E j = 3) : wV T F E j < 1000000 := by
  rcases h with h | h
  · exact (wV_2 ht h).1
  · have hj : j < m := wS_lt (by rw [h]; decide)
    rw [wV_3 ht h]
    obtain ⟨a1, a2, a3, -⟩ := ht.1 j hj
    have := hT (F j) (by omega)
    omega
theorem c_sign (hn : n ≤ 800) (ht : Tok T n m F E) (hT : ∀ k, k < n → T k < 127) (hs : CS Q T m F E j I L) {ch : Nat} (hch : ch < 127) : (sg T m F E j ch → f_X8_takeSign (nI ch) I L = some (1, zu I 3 4 (nI (j + 1)))) ∧ (¬ sg T m F E j ch → f_X8_takeSign (nI ch) I L = some (0, I)) := by
  obtain ⟨hj, hm, h34, h33, hw⟩ := hs
  obtain ⟨w1, w2, w3⟩ := hw j hj
  have hb : zbd (nI j) 801 = true := zbd_nI (by omega) (by decide)
  have hcl : (nI j).toNatClampNeg = j := nI_clamp (by omega)
  unfold f_X8_takeSign f_X8_takeSign_34 sg
  simp only [zlt_b]
  rw [h34, zck_t _ hb, zck_t _ hb, hcl, w1, nI_1]
  by_cases z : wS T m F E j = 3
  · rw [z, if_pos (show nI 3 = 3 from rfl), w3 (Or.inr z), nI_l (by omega)]
    by_cases y : wV T F E j = ch
    · rw [if_pos (by rw [y])]
      exact ⟨fun _ => rfl, fun x => absurd ⟨rfl, y⟩ x⟩
    · rw [if_neg (fun x => y ((lN_eq (by have := wV_lt hn ht hT (Or.inr z); omega) (by omega)).mp x))]
      exact ⟨fun x => absurd x.2 y, fun _ => rfl⟩
  · rw [if_neg (show ¬ nI (wS T m F E j) = 3 from fun y => z ((nI_wS (k := 3) (by decide)).mp y))]
    exact ⟨fun x => absurd x.1 z, fun _ => rfl⟩
theorem c_isWord (ht : Tok T n m F E) (hs : CS Q T m F E j I L) {t : Nat} (h10 : t < 10) : (wd T m F E j t → f_X8_isWord t I L = some 1) ∧ (¬ wd T m F E j t → f_X8_isWord t I L = some 0) := by
  obtain ⟨hj, hm, h34, h33, hw⟩ := hs
  obtain ⟨w1, w2, w3⟩ := hw j hj
  have hb : zbd (nI j) 801 = true := zbd_nI (by omega) (by decide)
  have hcl : (nI j).toNatClampNeg = j := nI_clamp (by omega)
  unfold f_X8_isWord f_X8_isWord_40 f_X8_isWord_41 wd
  simp only [zlt_b]
  rw [h34, zck_t _ hb, zck_t _ hb, hcl, w1, zck_t _ zbo_0, e_codeOf t h10]
  simp only [zb1, Option.bind_some]
  rw [zck_t _ zbo_1]
  by_cases z : wS T m F E j = 1
  · rw [z, if_pos (show nI 1 = 1 from rfl), w2 z]
    by_cases y : wG T F E j = kw t
    · rw [if_pos (by rw [y])]
      exact ⟨fun _ => rfl, fun x => absurd ⟨rfl, y⟩ x⟩
    · rw [if_neg (fun x => y ((c5_eq (wG_good ht z) (kw_good t h10)).mp x))]
      exact ⟨fun x => absurd x.2 y, fun _ => rfl⟩
  · rw [if_neg (show ¬ nI (wS T m F E j) = 1 from fun y => z ((nI_wS (k := 1) (by decide)).mp y))]
    exact ⟨fun x => absurd x.1 z, fun _ => rfl⟩
theorem c_takeWord (ht : Tok T n m F E) (hs : CS Q T m F E j I L) {t : Nat} (h10 : t < 10) : (wd T m F E j t → f_X8_takeWord t I L = some (1, zu I 3 4 (nI (j + 1)))) ∧ (¬ wd T m F E j t → f_X8_takeWord t I L = some (0, I)) := by
  have h := c_isWord ht hs h10
  unfold f_X8_takeWord
  constructor
  · intro z
    rw [h.1 z]
    simp only [zb1, Option.bind_some, zlt_b]
    rw [if_neg n10, hs.2.2.1, nI_1]
  · intro z
    rw [h.2 z]
    simp only [zb1, Option.bind_some, if_true]
theorem c_takeLayer (ht : Tok T n m F E) (hs : CS Q T m F E j I L) (hc : zPC Q G c N I L) (hg : zPG G c N) : ∃ v, LA T m F E (c 0) (N 0) j v ∧ (v = -1 → f_X8_takeLayer Q I L = some (v, I)) ∧ (¬ v = -1 → f_X8_takeLayer Q I L = some (v, zu I 3 4 (nI (j + 1)))) := by
  obtain ⟨v, v1, v2⟩ := c_lah ht hs hc hg
  refine ⟨v, v2, fun z => ?_, fun z => ?_⟩
  · unfold f_X8_takeLayer f_X8_takeLayer_20
    rw [v1]
    simp only [zb1, Option.bind_some]
    rw [if_pos z]
  · unfold f_X8_takeLayer f_X8_takeLayer_20
    rw [v1]
    simp only [zb1, Option.bind_some, zlt_b]
    rw [if_neg z, hs.2.2.1, nI_1]
theorem c_takeWire (ht : Tok T n m F E) (hs : CS Q T m F E j I L) (hc : zPC Q G c N I L) (hg : zPG G c N) : ∃ v u, LA T m F E (c 0) (N 0) j v ∧ wrR (c 1) (G 3) v u ∧ (u = -1 → f_X8_takeWire Q I L = some (u, I)) ∧ (¬ u = -1 → f_X8_takeWire Q I L = some (u, zu I 3 4 (nI (j + 1)))) := by
  obtain ⟨v, v1, v2⟩ := c_lah ht hs hc hg
  have key : ∃ u, wrR (c 1) (G 3) v u ∧ f_X8_takeWire Q I L = f_X8_takeWire_22 Q u I L := by
    unfold f_X8_takeWire
    rw [v1]
    simp only [zb1, Option.bind_some]
    by_cases z : v = -1
    · rw [if_pos z]; exact ⟨-1, Or.inl ⟨z, rfl⟩, rfl⟩
    · rw [if_neg z, zck_t _ (decide_eq_true hs.2.2.2.1)]
      obtain ⟨u, u1, u2⟩ := c_wireOf hc hg z (c 1) 0 zF (by omega) (zF_lt (by have := hg.1.2.1; omega)) (fun k hk => absurd hk (by omega))
      have e : f_X7_wireOf Q v I = some u := u1
      rw [e]
      exact ⟨u, u2, rfl⟩
  obtain ⟨u, u1, u2⟩ := key
  refine ⟨v, u, v2, u1, fun z => ?_, fun z => ?_⟩
  · rw [u2]; unfold f_X8_takeWire_22 f_X8_takeWire_38; rw [if_pos z]
  · rw [u2]; unfold f_X8_takeWire_22 f_X8_takeWire_38; rw [if_neg z]
    simp only [zlt_b]
    rw [hs.2.2.1, nI_1]
theorem c_newLayer (ht : Tok T n m F E) (hs : CS Q T m F E j I L) (hc : zPC Q G c N I L) (hg : zPG G c N) : (nwL T m F E (c 0) (N 0) j → f_X8_takeNewLayer Q I L = some (z5c (wG T F E j), zu I 3 4 (nI (j + 1)))) ∧ (¬ nwL T m F E (c 0) (N 0) j → f_X8_takeNewLayer Q I L = some (-1, I)) := by
  have hs' := hs
  obtain ⟨hj, hm, h34, h33, hw⟩ := hs
  obtain ⟨w1, w2, w3⟩ := hw j hj
  have hb : zbd (nI j) 801 = true := zbd_nI (by omega) (by decide)
  have hcl : (nI j).toNatClampNeg = j := nI_clamp (by omega)
  unfold f_X8_takeNewLayer f_X8_takeNewLayer_39 nwL
  simp only [zlt_b]
  rw [h34, zck_t _ hb, zck_t _ hb, hcl, w1]
  by_cases z : wS T m F E j = 1
  · rw [z, if_pos (show nI 1 = 1 from rfl), zck_t _ (decide_eq_true h33), w2 z]
    obtain ⟨v, v1, v2⟩ := c_lnamed hc hg (wG_good ht z) (c 0) 0 zF (by omega) (zF_lt (by have := hg.1.1; omega)) (fun k hk => absurd hk (by omega))
    have e : f_X7_layerNamed Q (z5c (wG T F E j)) I L = some v := v1
    rw [e]
    simp only [zb1, Option.bind_some]
    rw [zu_eq, nI_1, nI_s1, zck_t _ hb, hcl, w2 z]
    rcases v2 with ⟨l, l1, l2, l3⟩ | ⟨l1, l2⟩
    · rw [if_neg (by rw [l3]; exact nI_m1 (by have := hg.1.1; omega))]
      exact ⟨fun x => absurd l2 (x.2 l l1), fun _ => rfl⟩
    · rw [if_pos l2]
      exact ⟨fun _ => rfl, fun x => absurd ⟨by first | rfl | trivial, l1⟩ x⟩
  · rw [if_neg (show ¬ nI (wS T m F E j) = 1 from fun y => z ((nI_wS (k := 1) (by decide)).mp y))]
    exact ⟨fun x => absurd x.1 z, fun _ => rfl⟩
theorem c_hasKind (hc : zPC Q G c N I L) (hg : zPG G c N) {g : List Nat} (gg : gNm g) : ∀ r l f, l + r = c 3 → r < f → (∀ k, k < l → N 1 k ≠ g) → ∃ v, zlp4 (f_X7_hasKind_2 Q) f (z5c g) (nI l) I L = some v ∧ ((v = 1 ∧ ∃ k, k < c 3 ∧ N 1 k = g) ∨ (v = 0 ∧ ∀ k, k < c 3 → N 1 k ≠ g))
  | _, _, 0, _, h, _ => absurd h (by omega)
  | 0, l, f + 1, hl, _, hk => by
    have : l = c 3 := by omega
    subst this
    refine ⟨0, ?_, Or.inr ⟨rfl, hk⟩⟩
    show f_X7_hasKind_2 Q _ (z5c g) (nI (c 3)) I L = _
    unfold f_X7_hasKind_2
    rw [hc.1 3 (by decide), if_pos (Int32.le_refl _)]
  | r + 1, l, f + 1, hl, hf, hk => by
    have ih := c_hasKind hc hg gg r (l + 1) f (by omega) (by omega)
    have e1 : zlp4 (f_X7_hasKind_2 Q) (f + 1) (z5c g) (nI l) I L = f_X7_hasKind_2 Q (zlp4 (f_X7_hasKind_2 Q) f) (z5c g) (nI l) I L := rfl
    rw [e1]
    generalize zlp4 (f_X7_hasKind_2 Q) f = k1 at ih ⊢
    have h8 := hg.1.2.2.2
    unfold f_X7_hasKind_2
    rw [hc.1 3 (by decide), if_neg (nI_ge (by omega) (by omega)), zck_t _ (zbd_nI (by omega) (by decide)), nI_clamp (by omega), (hc.2.2.2.2 l (by omega)).1]
    simp only [zlt_b, nI_1]
    by_cases e : N 1 l = g
    · rw [if_pos (by rw [e])]
      exact ⟨_, rfl, Or.inl ⟨rfl, l, by omega, e⟩⟩
    · rw [if_neg (fun z => e ((c5_eq (hg.2.2.2.1 l (by omega)) gg).mp z))]
      exact ih (fun k hk2 => by
        by_cases z : k = l
        · subst z; exact e
        · exact hk k (by omega))
theorem c_newKind (ht : Tok T n m F E) (hs : CS Q T m F E j I L) (hc : zPC Q G c N I L) (hg : zPG G c N) : (nwL T m F E (c 3) (N 1) j → f_X8_takeNewKind Q I L = some (z5c (wG T F E j), zu I 3 4 (nI (j + 1)))) ∧ (¬ nwL T m F E (c 3) (N 1) j → f_X8_takeNewKind Q I L = some (-1, I)) := by
  obtain ⟨hj, hm, h34, h33, hw⟩ := hs
  obtain ⟨w1, w2, w3⟩ := hw j hj
  have hb : zbd (nI j) 801 = true := zbd_nI (by omega) (by decide)
  have hcl : (nI j).toNatClampNeg = j := nI_clamp (by omega)
  unfold f_X8_takeNewKind f_X8_takeNewKind_38 nwL
  simp only [zlt_b]
  rw [h34, zck_t _ hb, zck_t _ hb, hcl, w1]
  by_cases z : wS T m F E j = 1
  · rw [z, if_pos (show nI 1 = 1 from rfl), zck_t _ (decide_eq_true h33), w2 z]
    obtain ⟨v, v1, v2⟩ := c_hasKind hc hg (wG_good ht z) (c 3) 0 zF (by omega) (zF_lt (by have := hg.1.2.2.2; omega)) (fun k hk => absurd hk (by omega))
    have e : f_X7_hasKind Q (z5c (wG T F E j)) I L = some v := v1
    rw [e]
    simp only [zb1, Option.bind_some]
    rw [zu_eq, nI_1, nI_s1, zck_t _ hb, hcl, w2 z]
    rcases v2 with ⟨rfl, l, l1, l2⟩ | ⟨rfl, l1⟩
    · rw [if_neg n10]
      exact ⟨fun x => absurd l2 (x.2 l l1), fun _ => rfl⟩
    · rw [if_pos rfl]
      exact ⟨fun _ => rfl, fun x => absurd ⟨by first | rfl | trivial, l1⟩ x⟩
  · rw [if_neg (show ¬ nI (wS T m F E j) = 1 from fun y => z ((nI_wS (k := 1) (by decide)).mp y))]
    exact ⟨fun x => absurd x.1 z, fun _ => rfl⟩
def inRg (T : Nat → Nat) (m : Nat) (F E : Nat → Nat) (j k : Nat) : Prop := wS T m F E j = 2 ∧ wV T F E j < k
theorem c_input (ht : Tok T n m F E) (hs : CS Q T m F E j I L) {k : Nat} (hk : k ≤ 65536) (h31 : I 3 1 = nI k) : (inRg T m F E j k → f_X8_takeInput I L = some (nI (wV T F E j), zu I 3 4 (nI (j + 1)))) ∧ (¬ inRg T m F E j k → f_X8_takeInput I L = some (-1, I)) := by
  obtain ⟨hj, hm, h34, h33, hw⟩ := hs
  obtain ⟨w1, w2, w3⟩ := hw j hj
  have hb : zbd (nI j) 801 = true := zbd_nI (by omega) (by decide)
  have hcl : (nI j).toNatClampNeg = j := nI_clamp (by omega)
  unfold f_X8_takeInput f_X8_takeInput_37 inRg
  simp only [zlt_b]
  rw [h34, zck_t _ hb, zck_t _ hb, hcl, w1, h31]
  by_cases z : wS T m F E j = 2
  · have hv := (wV_2 ht z).1
    rw [z, if_pos (show nI 2 = 2 from rfl), w3 (Or.inl z), nI_l (by omega), zu_eq, nI_1, nI_s1, zck_t _ hb, hcl, w3 (Or.inl z), lN_i]
    by_cases y : wV T F E j < k
    · rw [if_pos ((lN_lt (by omega) (by omega)).mpr y)]
      exact ⟨fun _ => rfl, fun x => absurd ⟨rfl, y⟩ x⟩
    · rw [if_neg (fun x => y ((lN_lt (by omega) (by omega)).mp x))]
      exact ⟨fun x => absurd x.2 y, fun _ => rfl⟩
  · rw [if_neg (show ¬ nI (wS T m F E j) = 2 from fun y => z ((nI_wS (k := 2) (by decide)).mp y))]
    exact ⟨fun x => absurd x.1 z, fun _ => rfl⟩
/-- and, or, less -/
def wayR (T : Nat → Nat) (m : Nat) (F E : Nat → Nat) (j v : Nat) : Prop := (v = 1 ∧ wd T m F E j 2) ∨ (v = 2 ∧ wd T m F E j 3) ∨ (v = 3 ∧ wd T m F E j 4) ∨ (v = 0 ∧ ¬ wd T m F E j 2 ∧ ¬ wd T m F E j 3 ∧ ¬ wd T m F E j 4)
theorem wd_ne {a b : Nat} (h : wd T m F E j a) (hab : kw a ≠ kw b) : ¬ wd T m F E j b := fun z => hab (h.2.symm.trans z.2)
theorem wayR_ex : ∃ v, wayR T m F E j v := by
  unfold wayR
  by_cases h2 : wd T m F E j 2
  · exact ⟨1, Or.inl ⟨rfl, h2⟩⟩
  · by_cases h3 : wd T m F E j 3
    · exact ⟨2, Or.inr (Or.inl ⟨rfl, h3⟩)⟩
    · by_cases h4 : wd T m F E j 4
      · exact ⟨3, Or.inr (Or.inr (Or.inl ⟨rfl, h4⟩))⟩
      · exact ⟨0, Or.inr (Or.inr (Or.inr ⟨rfl, h2, h3, h4⟩))⟩
theorem c_way (ht : Tok T n m F E) (hs : CS Q T m F E j I L) {v : Nat} (hv : wayR T m F E j v) : (v ≠ 0 → f_X8_takeWay I L = some (nI v, zu I 3 4 (nI (j + 1)))) ∧ (v = 0 → f_X8_takeWay I L = some (-1, I)) := by
  have i2 := c_isWord ht hs (t := 2) (by decide)
  have i3 := c_isWord ht hs (t := 3) (by decide)
  have i4 := c_isWord ht hs (t := 4) (by decide)
  unfold f_X8_takeWay f_X8_takeWay_40 f_X8_takeWay_56
  simp only [zlt_b]
  rw [hs.2.2.1, nI_1]
  rcases hv with ⟨rfl, h⟩ | ⟨rfl, h⟩ | ⟨rfl, h⟩ | ⟨rfl, a, b, d⟩
  · rw [i2.1 h]
    simp only [zb1, Option.bind_some]
    rw [if_neg n10, if_neg (by decide)]
    exact ⟨fun _ => rfl, fun z => absurd z (by decide)⟩
  · rw [i2.2 (wd_ne h (by decide)), i3.1 h]
    simp only [zb1, Option.bind_some, if_true]
    rw [if_neg n10, if_neg (by decide)]
    exact ⟨fun _ => rfl, fun z => absurd z (by decide)⟩
  · rw [i2.2 (wd_ne h (by decide)), i3.2 (wd_ne h (by decide)), i4.1 h]
    simp only [zb1, Option.bind_some, if_true]
    rw [if_neg n10, if_neg (by decide)]
    exact ⟨fun _ => rfl, fun z => absurd z (by decide)⟩
  · rw [i2.2 a, i3.2 b, i4.2 d]
    simp only [zb1, Option.bind_some, if_true]
    exact ⟨fun z => absurd (by first | rfl | trivial) z, fun _ => by first | rfl | trivial⟩
/-- the reference's words -/
theorem e_word : f_X12_word 105 110 112 117 116 = some (z27 (kw 0)) ∧ f_X12_word 109 97 107 101 0 = some (z27 (kw 1)) ∧ f_X12_word 97 110 100 0 0 = some (z27 (kw 2)) ∧ f_X12_word 111 114 0 0 0 = some (z27 (kw 3)) ∧ f_X12_word 108 101 115 115 0 = some (z27 (kw 4)) ∧ f_X12_word 119 105 114 101 0 = some (z27 (kw 5)) ∧ f_X12_word 106 111 105 110 0 = some (z27 (kw 6)) ∧ f_X12_word 98 121 0 0 0 = some (z27 (kw 7)) ∧ f_X12_word 112 105 110 115 0 = some (z27 (kw 9)) ∧ zb1 (f_X12_word 100 101 118 105 99) (fun x => some (27 * x + 5)) = some (z27 (kw 8)) := by
  decide +kernel
/-- the name's number at hand -/
noncomputable def wNm (T : Nat → Nat) (m : Nat) (F E : Nat → Nat) (j : Nat) : Int64 := if wS T m F E j = 1 then z27 (wG T F E j) else 0
theorem wN_kw (ht : Tok T n m F E) {t : Nat} (h10 : t < 10) : wNm T m F E j = z27 (kw t) ↔ wd T m F E j t := by
  unfold wNm wd
  by_cases z : wS T m F E j = 1
  · rw [if_pos z, c27_eq (wG_good ht z) (kw_good t h10)]
    exact ⟨fun y => ⟨z, y⟩, fun y => y.2⟩
  · rw [if_neg z]
    exact ⟨fun y => absurd y.symm (c27_ne (kw_good t h10)), fun y => absurd y.1 z⟩
theorem m_takeLayer (hn : n ≤ 800) (ht : Tok T n m F E) (hr : r = 0 ∨ r = 1) (hj : j ≤ m) (hs : RS T n m F E j r J) (hm : zPM G c N J M) (hg : zPG G c N) : ∃ v J', f_X12_takeLayer J M = some (v, J') ∧ LA T m F E (c 0) (N 0) j v ∧ CF J J' ∧ ((r = 1 ∧ ¬ v = -1 ∧ RS T n m F E (j + 1) 1 J') ∨ (¬ (r = 1 ∧ ¬ v = -1) ∧ RS T n m F E j 0 J')) := by
  obtain ⟨v, v1, v2⟩ := m_lah hn ht hj hs.1 hm hg
  unfold f_X12_takeLayer f_X12_takeLayer_16
  rw [v1]
  simp only [zb1, Option.bind_some]
  by_cases z : v = -1
  · rw [if_pos z]
    obtain ⟨J', g1, g2, g3⟩ := e_take hn ht hr hs (a := 0) (fun _ y => absurd rfl y)
    rw [g1]
    refine ⟨v, J', rfl, v2, g2, ?_⟩
    rcases g3 with ⟨-, y, -⟩ | ⟨-, y⟩
    · exact absurd rfl y
    · exact Or.inr ⟨fun x => x.2 z, y⟩
  · rw [if_neg z]
    obtain ⟨J', g1, g2, g3⟩ := e_take hn ht hr hs (a := 1) (fun _ _ => (LA_lt v2 z).1)
    rw [g1]
    refine ⟨v, J', rfl, v2, g2, ?_⟩
    rcases g3 with ⟨y1, y2, y3⟩ | ⟨y1, y2⟩
    · exact Or.inl ⟨y1, z, y3⟩
    · exact Or.inr ⟨fun x => y1 ⟨x.1, n10⟩, y2⟩
theorem m_takeWire (hn : n ≤ 800) (ht : Tok T n m F E) (hr : r = 0 ∨ r = 1) (hj : j ≤ m) (hs : RS T n m F E j r J) (hm : zPM G c N J M) (hg : zPG G c N) : ∃ v u J', f_X12_takeWire J M = some (u, J') ∧ LA T m F E (c 0) (N 0) j v ∧ wrR (c 1) (G 3) v u ∧ CF J J' ∧ ((r = 1 ∧ ¬ u = -1 ∧ RS T n m F E (j + 1) 1 J') ∨ (¬ (r = 1 ∧ ¬ u = -1) ∧ RS T n m F E j 0 J')) := by
  obtain ⟨v, v1, v2⟩ := m_lah hn ht hj hs.1 hm hg
  unfold f_X12_takeWire
  rw [v1]
  simp only [zb1, Option.bind_some]
  obtain ⟨u, u1, u2⟩ := m_wireOf hm hg (v := v) (c 1) 0 zF (-1) (by omega) (zF_lt (by have := hg.1.2.1; omega)) (by
    by_cases z : v = -1
    · exact Or.inl ⟨z, rfl⟩
    · exact Or.inr ⟨z, Or.inr ⟨fun w hw => absurd hw (by omega), rfl⟩⟩)
  have u1' : zlp5 f_X12_takeWire_9 zF v (-1) 0 J M = _ := u1
  rw [u1']
  have hlt : ¬ u = -1 → j < m := fun y => by
    rcases u2 with ⟨-, x⟩ | ⟨x, -⟩
    · exact absurd x y
    · exact (LA_lt v2 x).1
  unfold f_X12_takeWire_58
  obtain ⟨J', g1, g2, g3⟩ := e_take hn ht hr hs (a := if u = -1 then 0 else 1) (fun _ y => hlt (fun z => y (if_pos z)))
  rw [g1]
  refine ⟨v, u, J', rfl, v2, u2, g2, ?_⟩
  rcases g3 with ⟨y1, y2, y3⟩ | ⟨y1, y2⟩
  · exact Or.inl ⟨y1, fun z => y2 (if_pos z), y3⟩
  · refine Or.inr ⟨fun x => y1 ⟨x.1, by rw [if_neg x.2]; exact n10⟩, y2⟩
/-- a sign -/
theorem m_sign (hn : n ≤ 800) (ht : Tok T n m F E) (hr : r = 0 ∨ r = 1) (hj : j ≤ m) (hs : RS T n m F E j r J) {ch : Nat} (hch : ch < 127) (h3 : kl ch = 3) : ∃ x J', f_X12_is (nI ch) J = some x ∧ f_X12_take x J = some J' ∧ CF J J' ∧ ((r = 1 ∧ sg T m F E j ch ∧ RS T n m F E (j + 1) 1 J') ∨ (¬ (r = 1 ∧ sg T m F E j ch) ∧ RS T n m F E j 0 J')) := by
  have hi := e_mis hn ht hj hch h3 hs.1
  by_cases z : sg T m F E j ch
  · obtain ⟨J', g1, g2, g3⟩ := e_take hn ht hr hs (a := 1) (fun _ _ => sg_lt z)
    rw [if_pos (show wS T m F E j = 3 ∧ wV T F E j = ch from z)] at hi
    refine ⟨1, J', hi, g1, g2, ?_⟩
    rcases g3 with ⟨y1, y2, y3⟩ | ⟨y1, y2⟩
    · exact Or.inl ⟨y1, z, y3⟩
    · exact Or.inr ⟨fun x => y1 ⟨x.1, n10⟩, y2⟩
  · obtain ⟨J', g1, g2, g3⟩ := e_take hn ht hr hs (a := 0) (fun _ y => absurd rfl y)
    rw [if_neg (show ¬ (wS T m F E j = 3 ∧ wV T F E j = ch) from z)] at hi
    refine ⟨0, J', hi, g1, g2, ?_⟩
    rcases g3 with ⟨y1, y2, y3⟩ | ⟨y1, y2⟩
    · exact absurd rfl y2
    · exact Or.inr ⟨fun x => z x.2, y2⟩
theorem zPM.cf {J' : zI} (h : zPM G c N J M) (hf : CF J J') : zPM G c N J' M := by
  unfold zPM
  rw [hf.1 106 (by decide), hf.1 107 (by decide), hf.1 108 (by decide), hf.1 109 (by decide), hf.1 110 (by decide), hf.1 111 (by decide), hf.1 112 (by decide), hf.1 114 (by decide), hf.1 115 (by decide), hf.1 116 (by decide)]
  exact ⟨fun i hi => by rw [hf.2 _ (by omega)]; exact h.1 i hi, h.2⟩
theorem zPM.nm {v : Int64} (h : zPM G c N J M) : zPM G c N J (zul M 105 (24 + c 0) v) := by
  refine ⟨h.1, fun l hl => ?_, h.2.2.1, h.2.2.2.1, fun k hk => ?_⟩
  · rw [zul_k _ _ (by omega)]; exact h.2.1 l hl
  · rw [zul_p _ _ (by decide)]; exact h.2.2.2.2 k hk
theorem m_takeNew (hn : n ≤ 800) (ht : Tok T n m F E) (hr : r = 0 ∨ r = 1) (hj : j ≤ m) (h24 : r = 1 → c 0 < 24) (hs : RS T n m F E j r J) (hm : zPM G c N J M) (hg : zPG G c N) : ∃ J' M', f_X12_takeNew J M = some (J', M') ∧ CF J J' ∧ ((r = 1 ∧ nwL T m F E (c 0) (N 0) j ∧ M' = zul M 105 (24 + c 0) (z27 (wG T F E j)) ∧ ((sg T m F E (j + 1) 61 ∧ RS T n m F E (j + 2) 1 J') ∨ (¬ sg T m F E (j + 1) 61 ∧ RS T n m F E (j + 1) 0 J'))) ∨ (¬ (r = 1 ∧ nwL T m F E (c 0) (N 0) j) ∧ M' = M ∧ RS T n m F E j 0 J')) := by
  obtain ⟨v, v1, v2⟩ := m_lah hn ht hj hs.1 hm hg
  have b24 := hg.1.1
  have no : ¬ nwL T m F E (c 0) (N 0) j → ∀ x : Int64, ∃ J' M', f_X12_takeNew_25 x 0 J M = some (J', M') ∧ CF J J' ∧ ((r = 1 ∧ nwL T m F E (c 0) (N 0) j ∧ M' = zul M 105 (24 + c 0) (z27 (wG T F E j)) ∧ ((sg T m F E (j + 1) 61 ∧ RS T n m F E (j + 2) 1 J') ∨ (¬ sg T m F E (j + 1) 61 ∧ RS T n m F E (j + 1) 0 J'))) ∨ (¬ (r = 1 ∧ nwL T m F E (c 0) (N 0) j) ∧ M' = M ∧ RS T n m F E j 0 J')) := by
    intro hnw x
    obtain ⟨J1, g1, g2, g3⟩ := e_take hn ht hr hs (a := 0) (fun _ y => absurd rfl y)
    have g3 : RS T n m F E j 0 J1 := by
      rcases g3 with ⟨-, y, -⟩ | ⟨-, y⟩
      · exact absurd rfl y
      · exact y
    obtain ⟨y, J2, k1, k2, k3, k4⟩ := m_sign hn ht (Or.inl rfl) hj g3 (ch := 61) (by decide) (by decide)
    have k4 : RS T n m F E j 0 J2 := by
      rcases k4 with ⟨z, -⟩ | ⟨-, z⟩
      · exact absurd z (by decide)
      · exact z
    refine ⟨J2, M, ?_, g2.trans k3, Or.inr ⟨fun z => hnw z.2, rfl, k4⟩⟩
    unfold f_X12_takeNew_25 f_X12_takeNew_48
    rw [g1]
    simp only [zb1, Option.bind_some]
    rw [g3.2, if_pos (show nI 0 = 0 from rfl)]
    have k1' : f_X12_is 61 J1 = some y := k1
    rw [k1']
    simp only [Option.bind_some]
    rw [k2]
    rfl
  unfold f_X12_takeNew f_X12_takeNew_24
  rw [e_mname hn ht hj hs.1]
  simp only [zb1, Option.bind_some]
  by_cases z : wS T m F E j = 1
  · have gg := wG_good ht z
    rw [if_pos z, if_neg (c27_pos gg), v1]
    simp only [Option.bind_some]
    rcases v2 with ⟨-, ⟨l, l1, l2, l3⟩ | ⟨l1, l2⟩⟩ | ⟨q, -⟩
    · rw [if_neg (by rw [l3]; exact nI_m1 (by omega))]
      exact no (fun y => y.2 l l1 l2) _
    · rw [if_pos l2]
      have hnw : nwL T m F E (c 0) (N 0) j := ⟨z, l1⟩
      obtain ⟨J1, g1, g2, g3⟩ := e_take hn ht hr hs (a := 1) (fun _ _ => nwL_lt hnw)
      rcases g3 with ⟨rfl, -, g3⟩ | ⟨g4, g3⟩
      · obtain ⟨y, J2, k1, k2, k3, k4⟩ := m_sign hn ht (Or.inr rfl) (nwL_lt hnw) g3 (ch := 61) (by decide) (by decide)
        refine ⟨J2, _, ?_, g2.trans k3, Or.inl ⟨rfl, hnw, rfl, ?_⟩⟩
        · unfold f_X12_takeNew_25 f_X12_takeNew_48
          rw [g1]
          simp only [zb1, Option.bind_some]
          have h50 : J1 97 50 = nI (c 0) := by rw [g2.2 50 (by omega)]; exact hm.1 0 (by decide)
          rw [g3.2, if_neg (show ¬ nI 1 = 0 by decide), zlt_b, h50, show (24 : Int32) + nI (c 0) = nI (24 + c 0) from nI_add 24 _, zck_t _ (zbd_nI (by have := h24 rfl; omega) (by decide)), zlt_b, nI_clamp (by omega)]
          have k1' : f_X12_is 61 J1 = some y := k1
          rw [k1']
          simp only [Option.bind_some]
          rw [k2]
          rfl
        · rcases k4 with ⟨-, q1, q2⟩ | ⟨q1, q2⟩
          · exact Or.inl ⟨q1, q2⟩
          · exact Or.inr ⟨fun x => q1 ⟨rfl, x⟩, q2⟩
      · obtain ⟨y, J2, k1, k2, k3, k4⟩ := m_sign hn ht (Or.inl rfl) hj g3 (ch := 61) (by decide) (by decide)
        have k4 : RS T n m F E j 0 J2 := by
          rcases k4 with ⟨z, -⟩ | ⟨-, z⟩
          · exact absurd z (by decide)
          · exact z
        refine ⟨J2, M, ?_, g2.trans k3, Or.inr ⟨fun x => g4 ⟨x.1, n10⟩, rfl, k4⟩⟩
        unfold f_X12_takeNew_25 f_X12_takeNew_48
        rw [g1]
        simp only [zb1, Option.bind_some]
        rw [g3.2, if_pos (show nI 0 = 0 from rfl)]
        have k1' : f_X12_is 61 J1 = some y := k1
        rw [k1']
        simp only [Option.bind_some]
        rw [k2]
        rfl
    · exact absurd z q
  · rw [if_neg z, if_pos (show (0 : Int64) ≤ 0 by decide)]
    exact no (fun y => z y.1) _
end Tk
