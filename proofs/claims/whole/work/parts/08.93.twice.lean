/-! twice -/
theorem zCount_le (p : Nat → Prop) {a b : Nat} (h : a ≤ b) : zCount p a ≤ zCount p b := by
  obtain ⟨c, rfl⟩ : ∃ c, b = a + c := ⟨b - a, by omega⟩
  clear h
  induction c with
  | zero => exact Nat.le_refl _
  | succ c ih => exact Nat.le_trans ih (Nat.le_add_right _ _)
theorem zCount_t {p : Nat → Prop} {n : Nat} (h : p n) : zCount p (n + 1) = zCount p n + 1 := by
  show zCount p n + _ = _; rw [if_pos h]
theorem zCount_f {p : Nat → Prop} {n : Nat} (h : ¬ p n) : zCount p (n + 1) = zCount p n := by
  show zCount p n + _ = _; rw [if_neg h, Nat.add_zero]
theorem zCount_mono {p q : Nat → Prop} : ∀ n, (∀ m, m < n → p m → q m) → zCount p n ≤ zCount q n
  | 0, _ => Nat.le_refl _
  | n + 1, h => by
    have ih := zCount_mono n (fun m hm => h m (by omega))
    by_cases hp : p n
    · rw [zCount_t hp, zCount_t (h n (by omega) hp)]; omega
    · rw [zCount_f hp]
      exact Nat.le_trans ih (zCount_le q (Nat.le_succ n))
theorem zCount_0 {p : Nat → Prop} : ∀ n, (∀ m, m < n → ¬ p m) → zCount p n = 0
  | 0, _ => rfl
  | n + 1, h => by rw [zCount_f (h n (by omega)), zCount_0 n (fun m hm => h m (by omega))]
theorem zCount_1 {p : Nat → Prop} : ∀ n, (∀ m k, m < n → k < n → p m → p k → m = k) → zCount p n ≤ 1
  | 0, _ => by simp [zCount]
  | n + 1, h => by
    by_cases hp : p n
    · rw [zCount_t hp, zCount_0 n (fun m hm hq => absurd (h m n (by omega) (by omega) hq hp) (by omega))]; exact Nat.le_refl _
    · rw [zCount_f hp]; exact zCount_1 n (fun m k hm hk => h m k (by omega) (by omega))
theorem zCount_or {p q : Nat → Prop} : ∀ n, zCount (fun m => p m ∨ q m) n ≤ zCount p n + zCount q n
  | 0 => Nat.le_refl _
  | n + 1 => by
    have ih := zCount_or (p := p) (q := q) n
    by_cases hp : p n
    · rw [zCount_t hp, zCount_t (p := fun m => p m ∨ q m) (Or.inl hp)]
      have h2 : zCount q n ≤ zCount q (n + 1) := zCount_le q (Nat.le_succ n)
      omega
    · by_cases hq : q n
      · rw [zCount_t hq, zCount_t (p := fun m => p m ∨ q m) (Or.inr hq), zCount_f hp]; omega
      · rw [zCount_f hq, zCount_f hp, zCount_f (p := fun m => p m ∨ q m) (fun z => z.elim hp hq)]; omega
/-- nets that texts name: no more than texts -/
theorem zCount_tx (f : Nat → Int32) {N : Nat} (hN : N ≤ 16384) : ∀ j, zCount (fun m => ∃ t, t < j ∧ f t = nI m) N ≤ j
  | 0 => by rw [zCount_0 N (fun m _ ⟨t, ht, _⟩ => absurd ht (by omega))]; exact Nat.le_refl _
  | j + 1 => by
    have ih := zCount_tx f hN j
    have h1 := zCount_mono (p := fun m => ∃ t, t < j + 1 ∧ f t = nI m) (q := fun m => (∃ t, t < j ∧ f t = nI m) ∨ f j = nI m) N (fun m _ ⟨t, ht, e⟩ => by
      by_cases h : t = j
      · exact Or.inr (h ▸ e)
      · exact Or.inl ⟨t, by omega, e⟩)
    have h2 := zCount_or (p := fun m => ∃ t, t < j ∧ f t = nI m) (q := fun m => f j = nI m) N
    have h3 := zCount_1 (p := fun m => f j = nI m) N (fun m k hm hk e1 e2 => (nI_eq (by omega) (by omega)).mp (e1.symm.trans e2))
    omega
def tw (I : zI) (n : Nat) (a : Int32) : Prop := ∃ s t, s < n ∧ t < n ∧ I 30 s = a ∧ I 30 t = a ∧ ¬ I 29 s = I 29 t
/-- what nmF has found among the first t texts -/
def nmR (I : zI) (a : Int32) (g : Prop) [Decidable g] (t : Nat) (v : Int32) : Prop := (v = -1 ∧ ∀ s, s < t → ¬ I 30 s = a) ∨ ∃ s, s < t ∧ I 30 s = a ∧ v = I 29 s ∧ ∀ u, u < t → I 30 u = a → if g then I 29 u ≤ I 29 s else I 29 s ≤ I 29 u
theorem nmF_R {I : zI} {a : Int32} {g : Prop} [Decidable g] {n : Nat} (hn : ∀ t, t < n → ∃ m, m < 2 ^ 31 ∧ I 29 t = nI m) : ∀ r t v, t + r = n → nmR I a g t v → nmR I a g n (nmF I a g r t v)
  | 0, t, v, ht, h => by
    have : t = n := by omega
    subst this; exact h
  | r + 1, t, v, ht, h => by
    refine nmF_R hn r (t + 1) _ (by omega) ?_
    by_cases e : I 30 t = a
    · rcases h with ⟨rfl, h2⟩ | ⟨s, h1, h2, h3, h4⟩
      · rw [if_pos ⟨e, Or.inl rfl⟩]
        refine Or.inr ⟨t, by omega, e, rfl, fun u hu hue => ?_⟩
        have : u = t := by
          by_cases z : u = t
          · exact z
          · exact absurd hue (h2 u (by omega))
        subst this
        split <;> exact Int32.le_refl _
      · obtain ⟨m, hm, em⟩ := hn s (by omega)
        have hv : ¬ v = -1 := by rw [h3, em]; exact nI_m1 hm
        by_cases hg : g
        · by_cases hlt : v < I 29 t
          · rw [if_pos ⟨e, Or.inr (by rw [if_pos hg]; exact hlt)⟩]
            refine Or.inr ⟨t, by omega, e, rfl, fun u hu hue => ?_⟩
            rw [if_pos hg]
            by_cases z : u = t
            · subst z; exact Int32.le_refl _
            · have := h4 u (by omega) hue
              rw [if_pos hg, ← h3] at this
              exact Int32.le_of_lt (Int32.lt_of_le_of_lt this hlt)
          · rw [if_neg (fun z => z.2.elim hv (fun y => hlt (by rw [if_pos hg] at y; exact y)))]
            refine Or.inr ⟨s, by omega, h2, h3, fun u hu hue => ?_⟩
            by_cases z : u = t
            · subst z; rw [if_pos hg, ← h3]; exact Int32.not_lt.mp hlt
            · exact h4 u (by omega) hue
        · by_cases hlt : I 29 t < v
          · rw [if_pos ⟨e, Or.inr (by rw [if_neg hg]; exact hlt)⟩]
            refine Or.inr ⟨t, by omega, e, rfl, fun u hu hue => ?_⟩
            rw [if_neg hg]
            by_cases z : u = t
            · subst z; exact Int32.le_refl _
            · have := h4 u (by omega) hue
              rw [if_neg hg, ← h3] at this
              exact Int32.le_of_lt (Int32.lt_of_lt_of_le hlt this)
          · rw [if_neg (fun z => z.2.elim hv (fun y => hlt (by rw [if_neg hg] at y; exact y)))]
            refine Or.inr ⟨s, by omega, h2, h3, fun u hu hue => ?_⟩
            by_cases z : u = t
            · subst z; rw [if_neg hg, ← h3]; exact Int32.not_lt.mp hlt
            · exact h4 u (by omega) hue
    · rw [if_neg (fun z => e z.1)]
      rcases h with ⟨h1, h2⟩ | ⟨s, h1, h2, h3, h4⟩
      · refine Or.inl ⟨h1, fun s hs => ?_⟩
        by_cases z : s = t
        · subst z; exact e
        · exact h2 s (by omega)
      · refine Or.inr ⟨s, by omega, h2, h3, fun u hu hue => ?_⟩
        by_cases z : u = t
        · subst z; exact absurd hue e
        · exact h4 u (by omega) hue
theorem nmF_tw {I : zI} {a : Int32} {n : Nat} (hn : ∀ t, t < n → ∃ m, m < 2 ^ 31 ∧ I 29 t = nI m) : nmF I a False n 0 (-1) = nmF I a True n 0 (-1) ↔ ¬ tw I n a := by
  have h1 := nmF_R (a := a) (g := False) hn n 0 (-1) (by omega) (Or.inl ⟨rfl, fun s hs => absurd hs (by omega)⟩)
  have h2 := nmF_R (a := a) (g := True) hn n 0 (-1) (by omega) (Or.inl ⟨rfl, fun s hs => absurd hs (by omega)⟩)
  generalize nmF I a False n 0 (-1) = x at *
  generalize nmF I a True n 0 (-1) = y at *
  rcases h1 with ⟨e1, g1⟩ | ⟨s, s1, s2, s3, s4⟩
  · have nt : ¬ tw I n a := fun ⟨s, t, q1, _, q3, _⟩ => g1 s q1 q3
    rcases h2 with ⟨e2, -⟩ | ⟨s, s1, s2, -⟩
    · simp [e1, e2, nt]
    · exact absurd s2 (g1 s s1)
  · rcases h2 with ⟨-, g2⟩ | ⟨u, u1, u2, u3, u4⟩
    · exact absurd s2 (g2 s s1)
    · constructor
      · intro e
        rw [s3, u3] at e
        rintro ⟨p, q, p1, q1, p2, q2, ne⟩
        have a1 := s4 p p1 p2; have a2 := s4 q q1 q2; have a3 := u4 p p1 p2; have a4 := u4 q q1 q2
        simp only [if_false, if_true] at a1 a2 a3 a4
        rw [← e] at a3 a4
        exact ne ((Int32.le_antisymm a3 a1).trans (Int32.le_antisymm a4 a2).symm)
      · intro nt
        rw [s3, u3]
        exact Classical.not_not.mp fun ne => nt ⟨s, u, s1, u1, s2, u2, ne⟩
/-- the class: a text whose net another text names otherwise -/
def isT (I : zI) (n t : Nat) : Prop := ∃ s, s < n ∧ I 30 s = I 30 t ∧ ¬ I 29 s = I 29 t
theorem c_isT {I : zI} {n t : Nat} (hn : n ≤ 40) (ht : t < n) (h1 : I 26 0 = nI n) : ∀ r s k, s + r = n → r < k → (∀ u, u < s → ¬ (I 30 u = I 30 t ∧ ¬ I 29 u = I 29 t)) → (isT I n t ∧ zlp3 f_X4_isTwice_2 k (nI t) (nI s) I = some 1) ∨ (¬ isT I n t ∧ zlp3 f_X4_isTwice_2 k (nI t) (nI s) I = some 0)
  | _, _, 0, _, h, _ => absurd h (by omega)
  | 0, s, k + 1, hs, _, hu => by
    have : s = n := by omega
    subst this
    refine Or.inr ⟨fun ⟨u, a, b⟩ => hu u a b, ?_⟩
    show f_X4_isTwice_2 _ (nI t) (nI s) I = _
    unfold f_X4_isTwice_2
    rw [h1, if_pos (nI_le (Nat.le_refl _) (by omega))]
  | r + 1, s, k + 1, hs, hk, hu => by
    have hb : zbd (nI s) 40 = true := zbd_nI (by omega) (by decide)
    have hcl : (nI s).toNatClampNeg = s := nI_clamp (by omega)
    have hbt : zbd (nI t) 40 = true := zbd_nI (by omega) (by decide)
    have hct : (nI t).toNatClampNeg = t := nI_clamp (by omega)
    have ih := c_isT hn ht h1 r (s + 1) k (by omega) (by omega)
    have e1 : zlp3 f_X4_isTwice_2 (k + 1) (nI t) (nI s) I = f_X4_isTwice_2 (zlp3 f_X4_isTwice_2 k) (nI t) (nI s) I := rfl
    rw [e1]
    generalize zlp3 f_X4_isTwice_2 k = k1 at ih ⊢
    unfold f_X4_isTwice_2 f_X4_isTwice_42
    rw [h1, if_neg (nI_ge (by omega) (by omega)), zck_t _ hb, zck_t _ hbt, zck_t _ hb, zck_t _ hbt, hcl, hct]
    simp only [zlt, nI_1]
    have step : ¬ (I 30 s = I 30 t ∧ ¬ I 29 s = I 29 t) → ∀ u, u < s + 1 → ¬ (I 30 u = I 30 t ∧ ¬ I 29 u = I 29 t) := fun z u hu2 => by
      by_cases q : u = s
      · subst q; exact z
      · exact hu u (by omega)
    by_cases g1 : I 30 s = I 30 t
    · rw [if_pos g1]
      by_cases g2 : I 29 s = I 29 t
      · rw [if_pos g2]; exact ih (step fun z => z.2 g2)
      · rw [if_neg g2]; exact Or.inl ⟨⟨s, by omega, g1, g2⟩, rfl⟩
    · rw [if_neg g1]; exact ih (step fun z => g1 z.1)
theorem isT_tw {I : zI} {n t : Nat} (ht : t < n) : isT I n t ↔ tw I n (I 30 t) := by
  constructor
  · rintro ⟨s, h1, h2, h3⟩; exact ⟨s, t, h1, ht, h2, rfl, h3⟩
  · rintro ⟨s, u, h1, h2, h3, h4, h5⟩
    by_cases e : I 29 s = I 29 t
    · exact ⟨u, h2, h4, fun z => h5 (e.trans z.symm)⟩
    · exact ⟨s, h1, h3, e⟩
/-- what nextTwice has found among the first t texts: the least net above a -/
def nxR (I : zI) (n : Nat) (a : Int32) (t : Nat) (v : Int32) : Prop := (v = -1 ∧ ∀ s, s < t → tw I n (I 30 s) → I 30 s ≤ a) ∨ ((∃ m, m < 2 ^ 31 ∧ v = nI m) ∧ a < v ∧ tw I n v ∧ ∀ s, s < t → tw I n (I 30 s) → a < I 30 s → v ≤ I 30 s)
theorem c_next {I : zI} {n nn : Nat} {a : Int32} (hn : n ≤ 40) (hnn : nn ≤ 16384) (h1 : I 26 0 = nI n) (ha : -1 ≤ a) (h30 : ∀ t, t < n → I 30 t = -1 ∨ ∃ m, m < nn ∧ I 30 t = nI m) : ∀ r t v k, t + r = n → r < k → nxR I n a t v → ∃ w, zlp4 f_X4_nextTwice_4 k a v (nI t) I = some w ∧ nxR I n a n w
  | _, _, _, 0, _, h, _ => absurd h (by omega)
  | 0, t, v, k + 1, ht, _, hv => by
    have : t = n := by omega
    subst this
    refine ⟨v, ?_, hv⟩
    show f_X4_nextTwice_4 _ a v (nI t) I = _
    unfold f_X4_nextTwice_4
    rw [h1, if_pos (nI_le (Nat.le_refl _) (by omega))]
  | r + 1, t, v, k + 1, ht, hk, hv => by
    have hb : zbd (nI t) 40 = true := zbd_nI (by omega) (by decide)
    have hcl : (nI t).toNatClampNeg = t := nI_clamp (by omega)
    have ih := fun v => c_next hn hnn h1 ha h30 r (t + 1) v k (by omega) (by omega)
    have e1 : zlp4 f_X4_nextTwice_4 (k + 1) a v (nI t) I = f_X4_nextTwice_4 (zlp4 f_X4_nextTwice_4 k) a v (nI t) I := rfl
    rw [e1]
    generalize zlp4 f_X4_nextTwice_4 k = k1 at ih ⊢
    unfold f_X4_nextTwice_4 f_X4_nextTwice_37 f_X4_nextTwice_48
    rw [h1, if_neg (nI_ge (by omega) (by omega)), zck_t _ hb, hcl]
    simp only [zlt, nI_1]
    have keep : (tw I n (I 30 t) → I 30 t ≤ a ∨ (¬ v = -1 ∧ v ≤ I 30 t)) → nxR I n a (t + 1) v := by
      intro hz
      rcases hv with ⟨q1, q2⟩ | ⟨q1, q2, q3, q4⟩
      · refine Or.inl ⟨q1, fun s hs htw => ?_⟩
        by_cases z : s = t
        · subst z; exact (hz htw).resolve_right fun y => y.1 q1
        · exact q2 s (by omega) htw
      · refine Or.inr ⟨q1, q2, q3, fun s hs htw hlt => ?_⟩
        by_cases z : s = t
        · subst z; exact ((hz htw).resolve_left fun y => Int32.not_lt.mpr y hlt).2
        · exact q4 s (by omega) htw hlt
    have test : a < I 30 t → (v = -1 ∨ I 30 t < v) → ∃ w, (zb1 (f_X4_isTwice (nI t) I) (fun x5 => if x5 = 0 then k1 a v (nI (t + 1)) I else k1 a (I 30 t) (nI (t + 1)) I)) = some w ∧ nxR I n a n w := by
      intro hlt hvv
      rcases c_isT hn (by omega : t < n) h1 n 0 zF (by omega) (zF_lt (by omega)) (fun u hu => absurd hu (by omega)) with ⟨g1, g2⟩ | ⟨g1, g2⟩
      · have e3 : f_X4_isTwice (nI t) I = some 1 := g2
        rw [e3]
        simp only [zb1, Option.bind_some]
        rw [if_neg n10]
        refine ih _ (Or.inr ⟨?_, hlt, (isT_tw (by omega)).mp g1, fun s hs htw hs2 => ?_⟩)
        · rcases h30 t (by omega) with e | ⟨m, m1, m2⟩
          · rw [e] at hlt; exact absurd (Int32.lt_of_le_of_lt ha hlt) (by decide)
          · exact ⟨m, by omega, m2⟩
        · by_cases z : s = t
          · subst z; exact Int32.le_refl _
          · rcases hv with ⟨q1, q2⟩ | ⟨q1, q2, q3, q4⟩
            · exact absurd (q2 s (by omega) htw) (Int32.not_le.mpr hs2)
            · rcases hvv with rfl | hvv
              · obtain ⟨m, m1, m2⟩ := q1; exact absurd m2.symm (nI_m1 m1)
              · exact Int32.le_of_lt (Int32.lt_of_lt_of_le hvv (q4 s (by omega) htw hs2))
      · have e3 : f_X4_isTwice (nI t) I = some 0 := g2
        rw [e3]
        simp only [zb1, Option.bind_some, if_true]
        exact ih _ (keep fun z => absurd ((isT_tw (by omega)).mpr z) g1)
    by_cases g1 : I 30 t ≤ a
    · rw [if_pos g1]; exact ih _ (keep fun _ => Or.inl g1)
    · rw [if_neg g1]
      by_cases g2 : v = -1
      · rw [if_pos g2]; exact test (Int32.not_le.mp g1) (Or.inl g2)
      · rw [if_neg g2]
        by_cases g3 : v ≤ I 30 t
        · rw [if_pos g3]; exact ih _ (keep fun _ => Or.inr ⟨g2, g3⟩)
        · rw [if_neg g3]; exact test (Int32.not_le.mp g1) (Or.inr (Int32.not_le.mp g3))
/-- the first net from d on that is named twice -/
def fst2 (I : zI) (n nn d : Nat) (v : Int32) : Prop := (v = -1 ∧ ∀ m, d ≤ m → m < nn → ¬ tw I n (nI m)) ∨ ∃ m, d ≤ m ∧ m < nn ∧ v = nI m ∧ tw I n (nI m) ∧ ∀ k, d ≤ k → k < m → ¬ tw I n (nI k)
theorem c_fst {I : zI} {n nn d : Nat} {a : Int32} (hn : n ≤ 40) (hnn : nn ≤ 16384) (hd : d ≤ nn) (h1 : I 26 0 = nI n) (ha : (a = -1 ∧ d = 0) ∨ ∃ c, d = c + 1 ∧ a = nI c) (h30 : ∀ t, t < n → I 30 t = -1 ∨ ∃ m, m < nn ∧ I 30 t = nI m) : ∃ w, f_X4_nextTwice a I = some w ∧ fst2 I n nn d w := by
  have ha1 : -1 ≤ a := by
    rcases ha with ⟨rfl, -⟩ | ⟨c, hc, rfl⟩
    · exact Int32.le_refl _
    · exact Int32.le_trans (by decide : (-1 : Int32) ≤ 0) (nI_pos' (by omega : c < 2 ^ 31))
  have hlt : ∀ m, m < nn → (a < nI m ↔ d ≤ m) := by
    intro m hm
    rcases ha with ⟨rfl, rfl⟩ | ⟨c, rfl, rfl⟩
    · exact ⟨fun _ => Nat.zero_le _, fun _ => Int32.lt_of_lt_of_le (by decide : (-1 : Int32) < 0) (nI_pos' (by omega))⟩
    · exact nI_ltI (by omega) (by omega)
  obtain ⟨w, w1, w2⟩ := c_next hn hnn h1 ha1 h30 n 0 (-1) zF (by omega) (zF_lt (by omega)) (Or.inl ⟨rfl, fun s hs => absurd hs (by omega)⟩)
  refine ⟨w, w1, ?_⟩
  rcases w2 with ⟨q1, q2⟩ | ⟨⟨m, m1, rfl⟩, q2, q3, q4⟩
  · refine Or.inl ⟨q1, fun m m1 m2 htw => ?_⟩
    obtain ⟨s, t, s1, s2, s3, s4, s5⟩ := htw
    have := q2 s s1 (by rw [s3]; exact ⟨s, t, s1, s2, s3, s4, s5⟩)
    rw [s3] at this
    exact Int32.not_lt.mpr this ((hlt m m2).mpr m1)
  · have mn : m < nn := by
      obtain ⟨s, t, s1, -, s3, -⟩ := q3
      rcases h30 s s1 with e | ⟨m', e1, e2⟩
      · rw [s3] at e; exact absurd e (nI_m1 m1)
      · rw [s3] at e2; have := (nI_eq m1 (by omega)).mp e2; omega
    refine Or.inr ⟨m, (hlt m mn).mp q2, mn, rfl, q3, fun k k1 k2 htw => ?_⟩
    obtain ⟨s, t, s1, s2, s3, s4, s5⟩ := htw
    have := q4 s s1 (by rw [s3]; exact ⟨s, t, s1, s2, s3, s4, s5⟩) (by rw [s3]; exact (hlt k (by omega)).mpr k1)
    rw [s3] at this
    have := (nI_leI m1 (by omega)).mp this
    omega
/-- the reference's answer, from net d on, with k to pass over -/
noncomputable def rTw (I : zI) (n : Nat) : Nat → Nat → Nat → Int32
  | 0, _, _ => -1
  | r + 1, d, k => @ite _ (tw I n (nI d)) (Classical.propDecidable _) (if k = 0 then nI d else rTw I n r (d + 1) (k - 1)) (rTw I n r (d + 1) k)
theorem rTw_first {I : zI} {n nn : Nat} (hnn : nn ≤ 16384) : ∀ r d v, d + r = nn → fst2 I n nn d v → (v = -1 → ∀ k, rTw I n r d k = -1) ∧ (∀ m, m < nn → v = nI m → m < 2 ^ 31 → (∀ k, rTw I n r d k = if k = 0 then nI m else rTw I n (nn - (m + 1)) (m + 1) (k - 1)))
  | 0, d, v, hd, h => by
    refine ⟨fun _ k => rfl, fun m h1 h2 h3 k => ?_⟩
    rcases h with ⟨e, -⟩ | ⟨m', e1, e2, -⟩
    · rw [e] at h2; exact absurd h2.symm (nI_m1 h3)
    · omega
  | r + 1, d, v, hd, h => by
    have et : tw I n (nI d) → ∀ k, rTw I n (r + 1) d k = if k = 0 then nI d else rTw I n r (d + 1) (k - 1) := fun z k => if_pos z
    have ef : ¬ tw I n (nI d) → ∀ k, rTw I n (r + 1) d k = rTw I n r (d + 1) k := fun z k => if_neg z
    by_cases htw : tw I n (nI d)
    · refine ⟨fun e => ?_, fun m h1 h2 h3 k => ?_⟩
      · rcases h with ⟨-, g⟩ | ⟨m, -, hmn, e2, g, -⟩
        · exact absurd htw (g d (Nat.le_refl _) (by omega))
        · rw [e2] at e
          exact absurd e (nI_m1 (by omega))
      · rw [et htw]
        have : m = d := by
          rcases h with ⟨e, -⟩ | ⟨m', e1, e2, e3, -, e5⟩
          · rw [e] at h2; exact absurd h2.symm (nI_m1 h3)
          · rw [e3] at h2
            have : m' = m := (nI_eq (by omega) h3).mp h2
            subst this
            exact Classical.not_not.mp fun ne => e5 d (Nat.le_refl _) (by omega) htw
        subst this
        rw [show nn - (m + 1) = r by omega]
    · have h' : fst2 I n nn (d + 1) v := by
        rcases h with ⟨e, g⟩ | ⟨m, e1, e2, e3, e4, e5⟩
        · exact Or.inl ⟨e, fun m m1 m2 => g m (by omega) m2⟩
        · have : m ≠ d := fun z => htw (z ▸ e4)
          exact Or.inr ⟨m, by omega, e2, e3, e4, fun k k1 k2 => e5 k (by omega) k2⟩
      have ih := rTw_first hnn r (d + 1) v (by omega) h'
      refine ⟨fun e k => ?_, fun m h1 h2 h3 k => ?_⟩
      · rw [ef htw]; exact ih.1 e k
      · rw [ef htw]; exact ih.2 m h1 h2 h3 k
theorem rTw_none {I : zI} {n nn : Nat} : ∀ r d k, d + r = nn → zCount (fun m => tw I n (nI m)) nn ≤ zCount (fun m => tw I n (nI m)) d + k → rTw I n r d k = -1
  | 0, _, _, _, _ => rfl
  | r + 1, d, k, hd, h => by
    by_cases htw : tw I n (nI d)
    · have e : rTw I n (r + 1) d k = if k = 0 then nI d else rTw I n r (d + 1) (k - 1) := if_pos htw
      have h1 := zCount_t (p := fun m => tw I n (nI m)) htw
      have h2 := zCount_le (fun m => tw I n (nI m)) (show d + 1 ≤ nn by omega)
      rw [e, if_neg (by omega)]
      exact rTw_none (nn := nn) r (d + 1) (k - 1) (by omega) (by omega)
    · have e : rTw I n (r + 1) d k = rTw I n r (d + 1) k := if_neg htw
      rw [e]
      exact rTw_none (nn := nn) r (d + 1) k (by omega) (by rw [zCount_f (p := fun m => tw I n (nI m)) htw]; exact h)
/-- the class's steps from one to the next -/
theorem c_steps {I : zI} {n nn : Nat} (hn : n ≤ 40) (hnn : nn ≤ 16384) (h1 : I 26 0 = nI n) (h30 : ∀ t, t < n → I 30 t = -1 ∨ ∃ m, m < nn ∧ I 30 t = nI m) : ∀ k a s v d r, s + k = a → a < 40 → r + d = nn → fst2 I n nn d v → ∀ f, k < f → zlp4 f_X4_twiceNamed_16 f (nI a) v (nI s) I = some (rTw I n r d k)
  | _, _, _, _, _, _, _, _, _, _, 0, h => absurd h (by omega)
  | 0, a, s, v, d, r, hs, ha, hr, hv, f + 1, _ => by
    have : s = a := by omega
    subst this
    show f_X4_twiceNamed_16 _ (nI s) v (nI s) I = _
    unfold f_X4_twiceNamed_16 f_X4_twiceNamed_38
    rw [if_pos (Int32.le_refl _)]
    have q := rTw_first hnn r d v (by omega) hv
    rcases hv with ⟨e, -⟩ | ⟨m, e1, e2, e3, -⟩
    · rw [q.1 e, e]
    · rw [q.2 m e2 e3 (by omega), if_pos rfl, e3]
  | k + 1, a, s, v, d, r, hs, ha, hr, hv, f + 1, hf => by
    have ih := fun v d r => c_steps hn hnn h1 h30 k a (s + 1) v d r (by omega) ha
    have e1 : zlp4 f_X4_twiceNamed_16 (f + 1) (nI a) v (nI s) I = f_X4_twiceNamed_16 (zlp4 f_X4_twiceNamed_16 f) (nI a) v (nI s) I := rfl
    rw [e1]
    have ih2 := fun v d r hr hv => ih v d r hr hv f (by omega)
    generalize zlp4 f_X4_twiceNamed_16 f = k1 at ih2 ⊢
    unfold f_X4_twiceNamed_16 f_X4_twiceNamed_38
    rw [if_neg (nI_ge (by omega) (by omega))]
    have q := rTw_first hnn r d v (by omega) hv
    rcases hv with ⟨e, -⟩ | ⟨m, m1, m2, m3, -⟩
    · rw [if_pos e, q.1 e, e]
    · obtain ⟨w, w1, w2⟩ := c_fst (d := m + 1) (a := nI m) hn hnn (by omega) h1 (Or.inr ⟨m, rfl, rfl⟩) h30
      rw [m3, if_neg (nI_m1 (by omega)), w1, q.2 m m2 m3 (by omega), if_neg (by omega)]
      simp only [zb1, Option.bind_some, zlt, nI_1]
      exact ih2 w (m + 1) (nn - (m + 1)) (by omega) w2
theorem e_twice_21 {v1 w1 : Int32} {I : zI} (h : ¬ w1 ≤ 0) (h0 : ¬ w1 = 0) : f_X12_twice_21 v1 w1 I = some (0, zu I 97 0 w1) := by
  obtain ⟨m, hm⟩ := zF_s
  unfold f_X12_twice_21
  rw [hm]
  simp only [zlt]
  show f_X12_twice_28 _ v1 0 (zu I 97 0 w1) = _
  unfold f_X12_twice_28 f_X12_twice_73 f_X12_twice_85
  rw [zu_eq, if_neg h, if_neg h0, ite_self]
theorem m_twice {I J : zI} {n nn : Nat} (hnn : nn ≤ 16384) (h1 : J 97 38 = nI nn) (h2 : J 97 0 = 0) (hl : ∀ m, m < nn → f_X12_nameOf (nI m) 0 J = some (nmF I (nI m) False n 0 (-1))) (hg : ∀ m, m < nn → f_X12_nameOf (nI m) 1 J = some (nmF I (nI m) True n 0 (-1))) (hnm : ∀ t, t < n → ∃ m, m < 2 ^ 31 ∧ I 29 t = nI m) : ∀ r d k f, d + r = nn → k < 2 ^ 31 → r < f → zlp3 f_X12_twice_28 f (nI k) (nI d) J = some (rTw I n r d k, J)
  | _, _, _, 0, _, _, h => absurd h (by omega)
  | 0, d, k, f + 1, hd, hk, _ => by
    have : d = nn := by omega
    subst this
    show f_X12_twice_28 _ (nI k) (nI d) J = _
    unfold f_X12_twice_28 f_X12_twice_73 f_X12_twice_85
    rw [h1, if_pos (Int32.le_refl _), h2, if_pos (by decide)]
    rfl
  | r + 1, d, k, f + 1, hd, hk, hf => by
    have ih := fun k (hk : k < 2 ^ 31) => m_twice hnn h1 h2 hl hg hnm r (d + 1) k f (by omega) hk (by omega)
    have e1 : zlp3 f_X12_twice_28 (f + 1) (nI k) (nI d) J = f_X12_twice_28 (zlp3 f_X12_twice_28 f) (nI k) (nI d) J := rfl
    rw [e1]
    generalize zlp3 f_X12_twice_28 f = k1 at ih ⊢
    unfold f_X12_twice_28 f_X12_twice_67
    rw [h1, if_neg (nI_ge (by omega) (by omega)), h2, if_pos rfl, hl d (by omega), hg d (by omega)]
    simp only [zb1, Option.bind_some, zlt, nI_1]
    have q := nmF_tw (I := I) (a := nI d) (n := n) hnm
    by_cases htw : tw I n (nI d)
    · have e : rTw I n (r + 1) d k = if k = 0 then nI d else rTw I n r (d + 1) (k - 1) := if_pos htw
      rw [e, if_neg (fun z => q.mp z htw)]
      by_cases hk0 : k = 0
      · subst hk0; rw [if_pos (show nI 0 = 0 from rfl), if_pos rfl]
      · rw [if_neg (nI_ne0 (by omega) hk), if_neg hk0, show nI k + -1 = nI (k - 1) from by rw [show k = (k - 1) + 1 by omega, pk_m1]; rfl]
        exact ih (k - 1) (by omega)
    · have e : rTw I n (r + 1) d k = rTw I n r (d + 1) k := if_neg htw
      rw [e, if_pos (q.mpr htw)]
      exact ih k hk
theorem sx_twice : Sx_twice zInv := by
  rintro I L x ⟨P, Q, hp, h⟩
  by_cases hx : x < 0
  · refine qx_t hp h 1 0 n10 ?_ ?_
    · simp only [w_twice, f_X11_twice, e_neg_f hx, zb1, zsm, Option.bind_some, if_true]
    · unfold f_X12_twice; rw [if_neg (Int32.not_le.mpr hx), e_twice_21 zi_01 n10]
  · obtain ⟨k, hk, rfl⟩ := nI_of hx
    rcases zf_cases h with ⟨f1, f2⟩ | ⟨f1, f2, hf⟩
    · refine qx_t hp h 2 0 n20 ?_ ?_
      · simp only [w_twice, f_X11_twice, e_neg_t hk, f1, e_true_0, zb1, zsm, Option.bind_some]
        rfl
      · unfold f_X12_twice; rw [if_pos (nI_pos' hk), if_pos f2, e_twice_21 zi_02 n20]
    · obtain ⟨n, nw, nl, nd, nn, b1, b2, b3, b4, b5, b6, b7, b8, b9, b10, b11, b12, b13, b14, b15⟩ := z_tx h hf
      have nm : ∀ (g : Prop) [Decidable g] (b : Int32) (hg : b = 0 ↔ ¬ g) m, m < nn → f_X12_nameOf (nI m) b (zu I 97 0 0) = some (nmF I (nI m) g n 0 (-1)) := fun g _ b hg m hm => m_name hg (nI_m1 (by omega)) b1 b2 b3 b4 (by rw [zu_k _ _ (by decide)]; exact b9) (by rw [zu_k _ _ (by decide)]; exact b10) (by rw [zu_pf _ _ (by decide)]; exact b11) b12 (fun w q hw hq => by rw [zNode_z]; exact b13 w q hw hq) n 0 (-1) zF (by omega) (zF_lt (by omega))
      have e2 : f_X12_twice (nI k) I = some (rTw I n nn 0 k, zu I 97 0 0) := by
        unfold f_X12_twice
        rw [if_pos (nI_pos' hk), if_neg f2]
        exact m_twice b5 (by rw [zu_k _ _ (by decide)]; exact b7) (zu_eq _ _ _ _) (nm False 0 (by simp)) (nm True 1 (by simp)) b15 nn 0 k zF (by omega) hk (zF_lt (by omega))
      have e1 : f_X4_twiceNamed (nI k) I = some (rTw I n nn 0 k) := by
        unfold f_X4_twiceNamed
        by_cases h40 : k < 40
        · rw [if_pos (show nI k < 40 from nI_lt (b := 40) h40 (by decide))]
          obtain ⟨w, w1, w2⟩ := c_fst (d := 0) (a := -1) b1 b5 (Nat.zero_le _) b8 (Or.inl ⟨rfl, rfl⟩) b14
          rw [w1]
          exact c_steps b1 b5 b8 b14 k k 0 w 0 nn (by omega) h40 (by omega) w2 zF (zF_lt (by omega))
        · rw [if_neg (show ¬ nI k < 40 from nI_nlt (b := 40) (by omega) hk)]
          rw [rTw_none (nn := nn) nn 0 k (by omega)]
          have q1 := zCount_mono (p := fun m => tw I n (nI m)) (q := fun m => ∃ t, t < n ∧ I 30 t = nI m) nn (fun m _ ⟨s, t, s1, _, s3, _⟩ => ⟨s, s1, s3⟩)
          have q2 := zCount_tx (I 30) b5 n
          omega
      refine qx_o hp h (rTw I n nn 0 k) ?_ e2
      simp only [w_twice, f_X11_twice, e_neg_t hk, f1, e_true_1, zb1, zsm, Option.bind_some, e1]
