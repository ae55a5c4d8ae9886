/-! a shape, taken from one square on -/
def inQ (Qu : Nat → Nat) (e q : Nat) : Prop := ∃ i, i < e ∧ Qu i = q
def bfs (S A : Nat → Prop) (s : Nat) (Qu : Nat → Nat) (k e : Nat) : Prop := 1 ≤ e ∧ k ≤ e ∧ Qu 0 = s ∧ (∀ i, i < e → A (Qu i) ∧ clo (bes S) s (Qu i)) ∧ (∀ i j, i < e → j < e → Qu i = Qu j → i = j) ∧ ∀ i b, i < k → A b → adjS (Qu i) b → inQ Qu e b
def qa (Qu : Nat → Nat) (e b : Nat) : Nat → Nat := fun i => if i = e then b else Qu i
theorem qa_lt {Qu : Nat → Nat} {e b i : Nat} (h : i < e) : qa Qu e b i = Qu i := if_neg (by omega)
theorem qa_e {Qu : Nat → Nat} {e b : Nat} : qa Qu e b e = b := if_pos rfl
theorem inQ_a {Qu : Nat → Nat} {e b q : Nat} : inQ (qa Qu e b) (e + 1) q ↔ inQ Qu e q ∨ q = b := by
  constructor
  · rintro ⟨i, i1, i2⟩
    by_cases z : i = e
    · subst z; rw [qa_e] at i2; exact Or.inr i2.symm
    · rw [qa_lt (by omega)] at i2; exact Or.inl ⟨i, by omega, i2⟩
  · rintro (⟨i, i1, i2⟩ | rfl)
    · exact ⟨i, by omega, by rw [qa_lt i1]; exact i2⟩
    · exact ⟨e, by omega, qa_e⟩
section Bf
variable {S A : Nat → Prop} {s : Nat} {Qu : Nat → Nat} {k e : Nat}
theorem bfs_0 (hA : A s) : bfs S A s (qa Qu 0 s) 0 1 := by
  refine ⟨Nat.le_refl _, Nat.zero_le _, qa_e, fun i hi => ?_, fun i j hi hj _ => by omega, fun i b hi => absurd hi (by omega)⟩
  have : i = 0 := by omega
  subst this
  rw [qa_e]; exact ⟨hA, clo_r _ _⟩
theorem bfs_add {b : Nat} (hAS : ∀ q, A q → S q) (h : bfs S A s Qu k e) (hk : k < e) (hb : A b) (hn : ¬ inQ Qu e b) (ha : adjS (Qu k) b) : bfs S A s (qa Qu e b) k (e + 1) := by
  obtain ⟨h1, h2, h3, h4, h5, h6⟩ := h
  refine ⟨by omega, by omega, by rw [qa_lt (by omega)]; exact h3, fun i hi => ?_, fun i j hi hj eq => ?_, fun i c hi hc had => ?_⟩
  · by_cases z : i = e
    · subst z; rw [qa_e]; exact ⟨hb, clo_t (h4 k hk).2 (clo_b ⟨hAS _ (h4 k hk).1, hAS _ hb, ha⟩)⟩
    · rw [qa_lt (by omega)]; exact h4 i (by omega)
  · by_cases z : i = e
    · by_cases y : j = e
      · omega
      · rw [z, qa_e, qa_lt (by omega)] at eq; exact absurd ⟨j, by omega, eq.symm⟩ hn
    · by_cases y : j = e
      · rw [y, qa_e, qa_lt (by omega)] at eq; exact absurd ⟨i, by omega, eq⟩ hn
      · rw [qa_lt (by omega), qa_lt (by omega)] at eq; exact h5 i j (by omega) (by omega) eq
  · rw [qa_lt (by omega)] at had
    exact inQ_a.mpr (Or.inl (h6 i c hi hc had))
theorem bfs_step (h : bfs S A s Qu k e) (hk : k < e) (hn : ∀ b, A b → adjS (Qu k) b → inQ Qu e b) : bfs S A s Qu (k + 1) e := by
  obtain ⟨h1, h2, h3, h4, h5, h6⟩ := h
  refine ⟨h1, hk, h3, h4, h5, fun i b hi hb ha => ?_⟩
  by_cases z : i = k
  · subst z; exact hn b hb ha
  · exact h6 i b (by omega) hb ha
theorem bfs_end (hAS : ∀ q, A q → S q) (hcl : ∀ x y, A x → bes S x y → A y) (h : bfs S A s Qu e e) (q : Nat) : inQ Qu e q ↔ A q ∧ clo (bes S) s q := by
  obtain ⟨h1, h2, h3, h4, h5, h6⟩ := h
  constructor
  · rintro ⟨i, i1, rfl⟩; exact h4 i i1
  · rintro ⟨-, hc⟩
    have key : ∀ x y, bes S x y → (inQ Qu e x ↔ inQ Qu e y) := by
      have one : ∀ x y, bes S x y → inQ Qu e x → inQ Qu e y := by
        rintro x y hb ⟨i, i1, rfl⟩
        exact h6 i y i1 (hcl _ y (h4 i i1).1 hb) hb.2.2
      exact fun x y hb => ⟨one x y hb, one y x ⟨hb.2.1, hb.1, adjS_s hb.2.2⟩⟩
    have := hc (fun x y => (inQ Qu e x ↔ inQ Qu e y)) (fun _ => Iff.rfl) (fun _ _ h => h.symm) (fun _ _ _ h g => h.trans g) key
    exact this.mp ⟨0, by omega, h3⟩
theorem bfs_room (hA : ∀ q, A q → q < 4096) (h : bfs S A s Qu k e) {b : Nat} (hb : A b) (hn : ¬ inQ Qu e b) : e < 4096 := by
  obtain ⟨h1, h2, h3, h4, h5, h6⟩ := h
  have := pigeon 4096 (e + 1) (qa Qu e b) (fun i hi => by
    by_cases z : i = e
    · subst z; rw [qa_e]; exact hA b hb
    · rw [qa_lt (by omega)]; exact hA _ (h4 i (by omega)).1) (fun i j hi hj eq => by
    by_cases z : i = e
    · by_cases y : j = e
      · omega
      · rw [z, qa_e, qa_lt (by omega)] at eq; exact absurd ⟨j, by omega, eq.symm⟩ hn
    · by_cases y : j = e
      · rw [y, qa_e, qa_lt (by omega)] at eq; exact absurd ⟨i, by omega, eq⟩ hn
      · rw [qa_lt (by omega), qa_lt (by omega)] at eq; exact h5 i j (by omega) (by omega) eq)
  omega
end Bf
/-- the peeler at work -/
def PL (A : Nat → Prop) (Qu : Nat → Nat) (e lo hi : Nat) (I : zI) (L : zL) : Prop := I 57 2 = nI e ∧ I 57 3 = nI lo ∧ I 57 4 = nI hi ∧ lo ≤ hi ∧ hi < 64 ∧ e ≤ 4096 ∧ (∀ i, i < e → I 59 i = nI (Qu i) ∧ Qu i < 4096 ∧ lo ≤ Qu i / 64 ∧ Qu i / 64 ≤ hi) ∧ (∀ q, q < 4096 → (bt (L 60 (q / 64)) (q % 64) = true ↔ A q ∧ ¬ inQ Qu e q)) ∧ ∀ q, q < 4096 → (bt (L 58 (q / 64)) (q % 64) = true ↔ inQ Qu e q)
/-- what the peeler leaves -/
def FP (I : zI) (L : zL) (I' : zI) (L' : zL) : Prop := (∀ p, p ≠ 57 → p ≠ 59 → I' p = I p) ∧ (∀ p, p ≠ 58 → p ≠ 60 → L' p = L p)
theorem FP.refl (I : zI) (L : zL) : FP I L I L := ⟨fun _ _ _ => rfl, fun _ _ _ => rfl⟩
theorem FP.trans {I I' I2 : zI} {L L' L2 : zL} (h : FP I L I' L') (g : FP I' L' I2 L2) : FP I L I2 L2 := ⟨fun p a b => by rw [g.1 p a b, h.1 p a b], fun p a b => by rw [g.2 p a b, h.2 p a b]⟩
section Pe
variable {A : Nat → Prop} {Qu : Nat → Nat} {e lo hi : Nat} {I : zI} {L : zL}
theorem t_out {a b : Int32} (h : a < 0 ∨ (64 : Int32) ≤ a ∨ b < 0 ∨ (64 : Int32) ≤ b) : f_X5_take a b I L = some (I, L) := by
  unfold f_X5_take f_X5_take_35
  by_cases h1 : a < 0
  · rw [if_pos h1]
  · rw [if_neg h1]
    by_cases h2 : (64 : Int32) ≤ a
    · rw [if_pos h2]
    · rw [if_neg h2]
      by_cases h3 : b < 0
      · rw [if_pos h3]
      · rw [if_neg h3]
        rcases h with h | h | h | h
        · exact absurd h h1
        · exact absurd h h2
        · exact absurd h h3
        · rw [if_pos h]
theorem t_in {X Y : Nat} (hX : X < 64) (hY : Y < 64) (hp : PL A Qu e lo hi I L) (hlo : A (64 * Y + X) → lo ≤ Y) (room : A (64 * Y + X) → ¬ inQ Qu e (64 * Y + X) → e < 4096) :
    ∃ I' L', f_X5_take (nI X) (nI Y) I L = some (I', L') ∧ FP I L I' L' ∧ ((A (64 * Y + X) ∧ ¬ inQ Qu e (64 * Y + X) ∧ PL A (qa Qu e (64 * Y + X)) (e + 1) lo (max hi Y) I' L') ∨ ((A (64 * Y + X) → inQ Qu e (64 * Y + X)) ∧ I' = I ∧ L' = L)) := by
  obtain ⟨p1, p2, p3, p4, p5, p6, p7, p8, p9⟩ := hp
  have q0 : (64 * Y + X) / 64 = Y := by omega
  have q1 : (64 * Y + X) % 64 = X := by omega
  have r := p8 (64 * Y + X) (by omega)
  rw [q0, q1] at r
  have hb : zbd (nI Y) 64 = true := zbd_nI hY (by decide)
  have hcl : (nI Y).toNatClampNeg = Y := nI_clamp (by omega)
  have hit : ((L 60 Y).toUInt64 >>> ((nI X).toInt64.toUInt64 &&& Int64.toUInt64 63)).toInt64 &&& 1 = 0 ↔ bt (L 60 Y) X = false := by
    rw [bt_low, bt_ushr hX, Nat.add_zero]
  unfold f_X5_take f_X5_take_35
  rw [if_neg (nI_pos (by omega)), if_neg (show ¬ (64 : Int32) ≤ nI X from nI_ge (b := 64) hX (by decide)), if_neg (nI_pos (by omega)), if_neg (show ¬ (64 : Int32) ≤ nI Y from nI_ge (b := 64) hY (by decide)), zck_t _ hb, hcl, zlt_b]
  by_cases z : bt (L 60 Y) X = true
  · obtain ⟨a1, a2⟩ := r.mp z
    rw [if_neg (fun y => by rw [hit] at y; rw [z] at y; exact absurd y (by decide))]
    have he := room a1 a2
    have ly := hlo a1
    have sq : f_X11_squareAt (nI X) (nI Y) = some (nI (64 * Y + X)) := by
      unfold f_X11_squareAt
      rw [zlt_b, show (64 : Int32) = nI 64 from rfl, pk_mul, nI_add, Nat.mul_comm]
    simp only [zlt_b, zck_t _ hb, hcl, sq, zb1_b]
    have l58 : ∀ v, zul L 60 Y v 58 Y = L 58 Y := fun v => zul_p _ _ (by decide) _
    have i2 : ∀ v, zu I 59 e v 57 2 = nI e := fun v => by rw [zu_p _ _ (by decide)]; exact p1
    have i4 : ∀ v w, zu (zu I 59 e v) 57 2 w 57 4 = nI hi := fun v w => by rw [zu_k _ _ (by decide), zu_p _ _ (by decide)]; exact p3
    rw [l58, p1, zck_t _ (zbd_nI he (by decide)), nI_clamp (by omega), i2, nI_1, i4, zmx_n (by omega) (by omega)]
    refine ⟨_, _, rfl, ⟨fun p x y => by rw [zu_pf _ _ x, zu_pf _ _ x, zu_pf _ _ y], fun p x y => by rw [zul_pf _ _ x, zul_pf _ _ y]⟩, Or.inl ⟨a1, a2, ?_, ?_, zu_eq _ _ _ _, by omega, by omega, by omega, fun i hi' => ?_, fun q hq => ?_, fun q hq => ?_⟩⟩
    · rw [zu_k _ _ (by decide), zu_eq]
    · rw [zu_k _ _ (by decide), zu_k _ _ (by decide), zu_p _ _ (by decide)]; exact p2
    · by_cases w : i = e
      · subst w
        rw [qa_e, zu_p _ _ (by decide), zu_p _ _ (by decide), zu_eq]
        exact ⟨rfl, by omega, by omega, by omega⟩
      · obtain ⟨c1, c2, c3, c4⟩ := p7 i (by omega)
        rw [qa_lt (by omega), zu_p _ _ (by decide), zu_p _ _ (by decide), zu_k _ _ w]
        exact ⟨c1, c2, c3, by omega⟩
    · rw [inQ_a, zul_p _ _ (by decide)]
      by_cases w : q / 64 = Y
      · rw [w, zul_eq, bt_xor, bt_one hX]
        have o := p8 q hq
        rw [w] at o
        by_cases v : q % 64 = X
        · have : q = 64 * Y + X := by omega
          rw [v, z]; simp [this]
        · have : q ≠ 64 * Y + X := by omega
          simp [v, this]; simpa using o
      · have : q ≠ 64 * Y + X := by omega
        rw [zul_k _ _ w]
        have o := p8 q hq
        simp [this]; simpa using o
    · rw [inQ_a]
      by_cases w : q / 64 = Y
      · rw [w, zul_eq, bt_or, bt_one hX]
        have o := p9 q hq
        rw [w] at o
        by_cases v : q % 64 = X
        · have : q = 64 * Y + X := by omega
          rw [v]; simp [this]
        · have : q ≠ 64 * Y + X := by omega
          simp [v, this]; exact o
      · have : q ≠ 64 * Y + X := by omega
        rw [zul_k _ _ w, zul_p _ _ (by decide)]
        have o := p9 q hq
        simp [this]; exact o
  · rw [if_pos (hit.mpr (by simpa using z))]
    exact ⟨I, L, rfl, FP.refl _ _, Or.inr ⟨fun a => Classical.not_not.mp fun n => z (r.mpr ⟨a, n⟩), rfl, rfl⟩⟩
end Pe
section Pn
variable {S A : Nat → Prop} {s lo : Nat} {I0 : zI} {L0 : zL}
/-- one neighbour, inside or outside the plane -/
theorem t_one {a b : Int32} {Qu : Nat → Nat} {k e hi : Nat} {I : zI} {L : zL} (hAS : ∀ q, A q → S q) (hA : ∀ q, A q → q < 4096) (hlo : ∀ q, A q → lo ≤ q / 64) (hB : bfs S A s Qu k e) (hk : k < e) (hp : PL A Qu e lo hi I L)
    (hc : (a < 0 ∨ (64 : Int32) ≤ a ∨ b < 0 ∨ (64 : Int32) ≤ b) ∨ ∃ X Y, X < 64 ∧ Y < 64 ∧ a = nI X ∧ b = nI Y ∧ adjS (Qu k) (64 * Y + X)) :
    ∃ I' L' Qu' e' hi', f_X5_take a b I L = some (I', L') ∧ FP I L I' L' ∧ PL A Qu' e' lo hi' I' L' ∧ bfs S A s Qu' k e' ∧ k < e' ∧ e ≤ e' ∧ (∀ i, i < e → Qu' i = Qu i) ∧ (∀ X Y, X < 64 → Y < 64 → a = nI X → b = nI Y → A (64 * Y + X) → inQ Qu' e' (64 * Y + X)) := by
  rcases hc with h | ⟨X, Y, hX, hY, rfl, rfl, ad⟩
  · refine ⟨I, L, Qu, e, hi, t_out h, FP.refl _ _, hp, hB, hk, Nat.le_refl _, fun _ _ => rfl, fun X Y hX hY ea eb => ?_⟩
    exfalso
    rw [ea, eb] at h
    rcases h with h | h | h | h
    · exact nI_pos (by omega) h
    · exact nI_ge (b := 64) hX (by decide) h
    · exact nI_pos (by omega) h
    · exact nI_ge (b := 64) hY (by decide) h
  · obtain ⟨I', L', t1, t2, t3⟩ := t_in hX hY hp (fun z => by have := hlo _ z; omega) (fun z y => bfs_room hA hB z y)
    rcases t3 with ⟨u1, u2, u3⟩ | ⟨u1, rfl, rfl⟩
    · refine ⟨I', L', _, _, _, t1, t2, u3, bfs_add hAS hB hk u1 u2 ad, by omega, by omega, fun i hi => qa_lt hi, fun X' Y' hX' hY' ea eb _ => ?_⟩
      have := (nI_eq (by omega) (by omega)).mp ea
      have := (nI_eq (by omega) (by omega)).mp eb
      subst X'; subst Y'
      exact inQ_a.mpr (Or.inr rfl)
    · refine ⟨_, _, Qu, e, hi, t1, t2, hp, hB, hk, Nat.le_refl _, fun _ _ => rfl, fun X' Y' hX' hY' ea eb hAb => ?_⟩
      have := (nI_eq (by omega) (by omega)).mp ea
      have := (nI_eq (by omega) (by omega)).mp eb
      subst X'; subst Y'
      exact u1 hAb
theorem inQ_up {Qu Qu' : Nat → Nat} {e e' q : Nat} (h : inQ Qu e q) (he : e ≤ e') (hq : ∀ i, i < e → Qu' i = Qu i) : inQ Qu' e' q := by
  obtain ⟨i, i1, i2⟩ := h; exact ⟨i, by omega, by rw [hq i i1]; exact i2⟩
theorem nI_pm {x : Nat} (hx : x < 64) : (nI x - 1 < 0 ∧ x = 0) ∨ (0 < x ∧ nI x - 1 = nI (x - 1)) := by
  by_cases z : x = 0
  · subst z; exact Or.inl ⟨by decide, rfl⟩
  · right; exact ⟨by omega, by rw [show (1 : Int32) = nI 1 from rfl, pk_sub (by omega)]⟩
theorem t_beside {Qu : Nat → Nat} {k e hi : Nat} {I : zI} {L : zL} (hAS : ∀ q, A q → S q) (hA : ∀ q, A q → q < 4096) (hlo : ∀ q, A q → lo ≤ q / 64) (hB : bfs S A s Qu k e) (hk : k < e) (hp : PL A Qu e lo hi I L) :
    ∃ I' L' Qu' e' hi', f_X5_takeBeside (nI (Qu k % 64)) (nI (Qu k / 64)) I L = some (I', L') ∧ FP I L I' L' ∧ PL A Qu' e' lo hi' I' L' ∧ bfs S A s Qu' (k + 1) e' ∧ e ≤ e' ∧ (∀ i, i < e → Qu' i = Qu i) := by
  have hq := (hp.2.2.2.2.2.2.1 k hk).2.1
  have x64 : Qu k % 64 < 64 := Nat.mod_lt _ (by decide)
  have y64 : Qu k / 64 < 64 := by omega
  have dm := Nat.div_add_mod (Qu k) 64
  generalize hx : Qu k % 64 = x at *
  generalize hy : Qu k / 64 = y at *
  have ax : nI x + 1 = nI (x + 1) := nI_1 x
  have ay : nI y + 1 = nI (y + 1) := nI_1 y
  unfold f_X5_takeBeside
  -- left
  obtain ⟨I1, L1, Q1, e1, h1, a1, b1, c1, d1, f1, g1, i1, j1⟩ := t_one (a := nI x - 1) (b := nI y) hAS hA hlo hB hk hp (by
    rcases nI_pm x64 with ⟨z, -⟩ | ⟨z1, z2⟩
    · exact Or.inl (Or.inl z)
    · exact Or.inr ⟨x - 1, y, by omega, y64, z2, rfl, Or.inl ⟨by omega, by omega⟩⟩)
  rw [a1, zb2_b]
  have k1 : Q1 k = Qu k := i1 k hk
  -- right
  obtain ⟨I2, L2, Q2, e2, h2, a2, b2, c2, d2, f2, g2, i2, j2⟩ := t_one (a := nI x + 1) (b := nI y) hAS hA hlo d1 f1 c1 (by
    rw [ax, k1]
    by_cases z : x + 1 < 64
    · exact Or.inr ⟨x + 1, y, z, y64, rfl, rfl, Or.inl ⟨by omega, by omega⟩⟩
    · exact Or.inl (Or.inr (Or.inl (nI_le (a := 64) (by omega) (by omega)))))
  rw [a2, zb2_b]
  have k2 : Q2 k = Qu k := by rw [i2 k (by omega)]; exact k1
  -- down
  obtain ⟨I3, L3, Q3, e3, h3, a3, b3, c3, d3, f3, g3, i3, j3⟩ := t_one (a := nI x) (b := nI y - 1) hAS hA hlo d2 f2 c2 (by
    rw [k2]
    rcases nI_pm y64 with ⟨z, -⟩ | ⟨z1, z2⟩
    · exact Or.inl (Or.inr (Or.inr (Or.inl z)))
    · exact Or.inr ⟨x, y - 1, x64, by omega, rfl, z2, Or.inr (Or.inr (by omega))⟩)
  rw [a3, zb2_b]
  have k3 : Q3 k = Qu k := by rw [i3 k (by omega)]; exact k2
  -- up
  obtain ⟨I4, L4, Q4, e4, h4, a4, b4, c4, d4, f4, g4, i4, j4⟩ := t_one (a := nI x) (b := nI y + 1) hAS hA hlo d3 f3 c3 (by
    rw [ay, k3]
    by_cases z : y + 1 < 64
    · exact Or.inr ⟨x, y + 1, x64, z, rfl, rfl, Or.inr (Or.inl (by omega))⟩
    · exact Or.inl (Or.inr (Or.inr (Or.inr (nI_le (a := 64) (by omega) (by omega))))))
  rw [a4, zb2_b]
  have k4 : Q4 k = Qu k := by rw [i4 k (by omega)]; exact k3
  have u12 : ∀ i, i < e → Q4 i = Qu i := fun i hi => by rw [i4 i (by omega), i3 i (by omega), i2 i (by omega), i1 i hi]
  refine ⟨I4, L4, Q4, e4, h4, rfl, ((b1.trans b2).trans b3).trans b4, c4, bfs_step d4 f4 (fun b hb had => ?_), by omega, u12⟩
  rw [k4] at had
  have hb4 := hA b hb
  rcases had with ⟨w, w2 | w2⟩ | w | w
  · -- b is right of it
    have := j2 (x + 1) y (by omega) y64 ax rfl (by rw [show 64 * y + (x + 1) = b by omega]; exact hb)
    rw [show 64 * y + (x + 1) = b by omega] at this
    exact inQ_up (inQ_up this g3 i3) g4 i4
  · rcases nI_pm x64 with ⟨-, z⟩ | ⟨z1, z2⟩
    · omega
    · have := j1 (x - 1) y (by omega) y64 z2 rfl (by rw [show 64 * y + (x - 1) = b by omega]; exact hb)
      rw [show 64 * y + (x - 1) = b by omega] at this
      exact inQ_up (inQ_up (inQ_up this g2 i2) g3 i3) g4 i4
  · have := j4 x (y + 1) x64 (by omega) rfl ay (by rw [show 64 * (y + 1) + x = b by omega]; exact hb)
    rw [show 64 * (y + 1) + x = b by omega] at this
    exact this
  · rcases nI_pm y64 with ⟨-, z⟩ | ⟨z1, z2⟩
    · omega
    · have := j3 x (y - 1) x64 (by omega) rfl z2 (by rw [show 64 * (y - 1) + x = b by omega]; exact hb)
      rw [show 64 * (y - 1) + x = b by omega] at this
      exact inQ_up this g4 i4
theorem t_81 (hAS : ∀ q, A q → S q) (hA : ∀ q, A q → q < 4096) (hlo : ∀ q, A q → lo ≤ q / 64) : ∀ r k e hi Qu I L f, k + r = 4096 → r < f → bfs S A s Qu k e → PL A Qu e lo hi I L → ∃ I' L' Qu' e' hi', zlp3 f_X5_next_81 f (nI k) I L = some (1, I', L') ∧ FP I L I' L' ∧ PL A Qu' e' lo hi' I' L' ∧ bfs S A s Qu' e' e' ∧ Qu' 0 = s
  | _, _, _, _, _, _, _, 0, _, h, _, _ => absurd h (by omega)
  | r, k, e, hi, Qu, I, L, f + 1, hk, hf, hB, hp => by
    have e1 : zlp3 f_X5_next_81 (f + 1) (nI k) I L = f_X5_next_81 (zlp3 f_X5_next_81 f) (nI k) I L := rfl
    rw [e1]
    have he := hp.2.2.2.2.2.1
    unfold f_X5_next_81 f_X5_next_124
    rw [hp.1]
    by_cases z : k = e
    · subst z
      refine ⟨I, L, Qu, k, hi, ?_, FP.refl _ _, hp, hB, hB.2.2.1⟩
      rw [if_pos (Int32.le_refl _), ite_self]
    · have hke : k < e := by have := hB.2.1; omega
      obtain ⟨r, rfl⟩ : ∃ q, r = q + 1 := ⟨r - 1, by omega⟩
      obtain ⟨c1, c2, c3, c4⟩ := hp.2.2.2.2.2.2.1 k hke
      have hb : zbd (nI k) 4096 = true := zbd_nI (by omega) (by decide)
      rw [if_neg (show ¬ (4096 : Int32) ≤ nI k from nI_ge (b := 4096) (by omega) (by decide)), if_neg (nI_ge hke (by omega)), zck_t _ hb, nI_clamp (show k < 2 ^ 31 by omega), c1]
      have col : f_X11_columnOf (nI (Qu k)) = some (nI (Qu k % 64)) := by
        unfold f_X11_columnOf; rw [zlt_b, show (64 : Int32) = nI 64 from rfl, pk_rem (by omega) (by decide) (by decide)]
      have row : f_X11_rowOf (nI (Qu k)) = some (nI (Qu k / 64)) := by
        unfold f_X11_rowOf; rw [zlt_b, show (64 : Int32) = nI 64 from rfl, pk_div (by omega) (by decide) (by decide)]
      obtain ⟨I', L', Qu', e', hi', t1, t2, t3, t4, t5, t6⟩ := t_beside hAS hA hlo hB hke hp
      rw [col, zb1_b, zck_t _ hb, row, zb1_b, t1, zb2_b, zlt_b, nI_1]
      obtain ⟨I2, L2, Q2, e2, h2, u1, u2, u3, u4, u5⟩ := t_81 hAS hA hlo r (k + 1) e' hi' Qu' I' L' f (by omega) (by omega) t4 t3
      exact ⟨I2, L2, Q2, e2, h2, u1, t2.trans u2, u3, u4, u5⟩
/-- the rows of the last shape go -/
theorem d_5 {Ix : zI} {hi : Int32} (h4 : Ix 57 4 = hi) : ∀ r y L f, y + r = 64 → r < f → ∃ L', zlp3 f_X5_dropShape_5 f (nI y) Ix L = some (zu Ix 57 2 0, L') ∧ (∀ p, p ≠ 58 → L' p = L p) ∧ (∀ x, x < 64 → L' 58 x = 0 ∨ L' 58 x = L 58 x) ∧ (∀ x, y ≤ x → x < 64 → nI x ≤ hi → L' 58 x = 0)
  | _, _, _, 0, _, h => absurd h (by omega)
  | r, y, L, f + 1, hy, hf => by
    have e1 : zlp3 f_X5_dropShape_5 (f + 1) (nI y) Ix L = f_X5_dropShape_5 (zlp3 f_X5_dropShape_5 f) (nI y) Ix L := rfl
    rw [e1]
    unfold f_X5_dropShape_5 f_X5_dropShape_32
    rw [h4, zlt_b]
    by_cases z : hi < nI y
    · rw [if_pos z]
      refine ⟨L, rfl, fun _ _ => rfl, fun x _ => Or.inr rfl, fun x x1 x2 x3 => ?_⟩
      exact absurd (Int32.lt_of_lt_of_le z (Int32.le_trans (nI_le x1 (by omega)) x3)) (fun w => Int32.lt_irrefl w)
    · rw [if_neg z]
      by_cases z2 : y = 64
      · subst z2
        rw [if_pos (by decide)]
        exact ⟨L, rfl, fun _ _ => rfl, fun x _ => Or.inr rfl, fun x x1 x2 => by omega⟩
      · obtain ⟨r, rfl⟩ : ∃ q, r = q + 1 := ⟨r - 1, by omega⟩
        rw [if_neg (show ¬ (64 : Int32) ≤ nI y from nI_ge (b := 64) (by omega) (by decide)), zck_t _ (zbd_nI (by omega) (by decide)), nI_clamp (by omega), zlt_b, zlt_b, nI_1]
        obtain ⟨L', g1, g2, g3, g4⟩ := d_5 h4 r (y + 1) (zul L 58 y 0) f (by omega) (by omega)
        refine ⟨L', g1, fun p hp => by rw [g2 p hp, zul_pf _ _ hp], fun x hx => ?_, fun x x1 x2 x3 => ?_⟩
        · rcases g3 x hx with w | w
          · exact Or.inl w
          · by_cases v : x = y
            · subst v; left; rw [w, zul_eq]
            · right; rw [w, zul_k _ _ v]
        · by_cases v : x = y
          · subst v
            rcases g3 x x2 with w | w
            · exact w
            · rw [w, zul_eq]
          · exact g4 x (by omega) x2 x3
theorem c_drop {I : zI} {L : zL} (h : RPeel I L) : ∃ L', f_X5_dropShape I L = some (zu I 57 2 0, L') ∧ (∀ p, p ≠ 58 → L' p = L p) ∧ ∀ y, y < 64 → L' 58 y = 0 := by
  obtain ⟨lo, l1, l2, l3⟩ := h
  unfold f_X5_dropShape
  rw [zlt_b, l2]
  obtain ⟨L', g1, g2, g3, g4⟩ := d_5 (Ix := I) rfl (64 - lo) lo L zF (by omega) (zF_lt (by omega))
  refine ⟨L', g1, g2, fun y hy => ?_⟩
  rcases l3 with ⟨-, l3⟩ | ⟨hi, h1, h2, h3⟩
  · rcases g3 y hy with w | w
    · exact w
    · rw [w]; exact l3 y hy
  · by_cases z : y < lo ∨ hi < y
    · rcases g3 y hy with w | w
      · exact w
      · rw [w]; exact h3 y hy z
    · exact g4 y (by omega) hy (by rw [h2]; exact nI_le (by omega) (by omega))
/-- the peeler between shapes: what is left to take -/
def PR (R : Nat → Prop) (I : zI) (L : zL) : Prop := RPeel I L ∧ (∀ q, q < 4096 → (bt (L 60 (q / 64)) (q % 64) = true ↔ R q)) ∧ ∃ lo, lo ≤ 64 ∧ I 57 3 = nI lo ∧ ∀ q, R q → q < 4096 → lo ≤ q / 64
theorem n_4 {R : Nat → Prop} (hR : ∀ q, R q → q < 4096) : ∀ r lo I L f, lo + r = 64 → r < f → I 57 3 = nI lo → (∀ y, y < 64 → L 58 y = 0) → I 57 2 = 0 → (∀ q, q < 4096 → (bt (L 60 (q / 64)) (q % 64) = true ↔ R q)) → (∀ q, R q → lo ≤ q / 64) →
    ((∀ q, ¬ R q) ∧ ∃ I', zlp2 f_X5_next_4 f I L = some (0, I', L) ∧ FP I L I' L ∧ PR R I' L) ∨
    ∃ (lo' : Nat) (I' : zI × zL) (s : Nat), zlp2 f_X5_next_4 f I L = zlp3 f_X5_next_81 zF 0 (I'.1) (I'.2) ∧ FP I L I'.1 I'.2 ∧ R s ∧ s / 64 = lo' ∧ (∀ q, R q → s ≤ q) ∧ PL R (qa (fun _ => 0) 0 s) 1 lo' lo' I'.1 I'.2
  | _, _, _, _, 0, _, h, _, _, _, _, _ => absurd h (by omega)
  | r, lo, I, L, f + 1, hl, hf, h3, h58, h2, h60, hlo => by
    have e1 : zlp2 f_X5_next_4 (f + 1) I L = f_X5_next_4 (zlp2 f_X5_next_4 f) I L := rfl
    rw [e1]
    unfold f_X5_next_4
    rw [h3]
    have q3 : ∀ v, zu I 57 4 v 57 3 = nI lo := fun v => by rw [zu_k _ _ (by decide)]; exact h3
    by_cases z : lo = 64
    · subst z
      rw [if_pos (by decide)]
      left
      have none : ∀ q, ¬ R q := fun q hq => by have := hlo q hq; have := hR q hq; omega
      refine ⟨none, zu I 57 4 (nI 64), ?_, ⟨fun p a _ => zu_pf _ _ a, fun _ _ _ => rfl⟩, ⟨⟨64, by omega, q3 _, Or.inr ⟨64, by omega, zu_eq _ _ _ _, fun y hy _ => h58 y hy⟩⟩, h60, 64, by omega, q3 _, fun q hq => absurd hq (none q)⟩⟩
      unfold f_X5_next_40
      rw [zlt_b, h3, q3, if_neg (by decide)]
    · have hl64 : lo < 64 := by omega
      rw [if_neg (show ¬ (64 : Int32) ≤ nI lo from nI_ge (b := 64) hl64 (by decide)), zlt_b, zck_t _ (zbd_nI hl64 (by decide)), nI_clamp (by omega)]
      by_cases y : L 60 lo = 0
      · rw [if_pos y, zlt_b, zlt_b, nI_1]
        obtain ⟨r, rfl⟩ : ∃ q, r = q + 1 := ⟨r - 1, by omega⟩
        have := n_4 hR r (lo + 1) (zu I 57 3 (nI (lo + 1))) L f (by omega) (by omega) (zu_eq _ _ _ _) h58 (by rw [zu_k _ _ (by decide)]; exact h2) h60 (fun q hq => by
          have a := hlo q hq
          have b := (h60 q (hR q hq)).mpr hq
          by_cases c : q / 64 = lo
          · rw [c, y, bt_0] at b; exact absurd b (by decide)
          · omega)
        have fp : FP I L (zu I 57 3 (nI (lo + 1))) L := ⟨fun p a _ => zu_pf _ _ a, fun _ _ _ => rfl⟩
        rcases this with ⟨a, I', b, c, d⟩ | ⟨lo', I', s, b, c, d⟩
        · exact Or.inl ⟨a, I', b, fp.trans c, d⟩
        · exact Or.inr ⟨lo', I', s, b, fp.trans c, d⟩
      · rw [if_neg y]
        right
        obtain ⟨t, t1, t2, t3, t4, -, -⟩ := e_leftmost y
        have hs : R (64 * lo + t) := (h60 (64 * lo + t) (by omega)).mp (by rw [show (64 * lo + t) / 64 = lo by omega, show (64 * lo + t) % 64 = t by omega]; exact t2)
        have hmin : ∀ q, R q → 64 * lo + t ≤ q := fun q hq => by
          have a := hlo q hq
          have b := (h60 q (hR q hq)).mpr hq
          by_cases c : q / 64 = lo
          · rw [c] at b
            by_cases d : q % 64 < t
            · rw [t3 _ d] at b; exact absurd b (by decide)
            · omega
          · omega
        have pl0 : PL R (fun _ => 0) 0 lo lo (zu I 57 4 (nI lo)) L := by
          refine ⟨by rw [zu_k _ _ (by decide)]; exact h2, q3 _, zu_eq _ _ _ _, Nat.le_refl _, hl64, by omega, fun i hi => absurd hi (by omega), fun q hq => ?_, fun q hq => ?_⟩
          · rw [h60 q hq]; exact ⟨fun w => ⟨w, fun ⟨i, i1, _⟩ => absurd i1 (by omega)⟩, fun w => w.1⟩
          · rw [h58 _ (by omega), bt_0]; exact ⟨fun w => absurd w (by decide), fun ⟨i, i1, _⟩ => absurd i1 (by omega)⟩
        obtain ⟨I1, L1, u1, u2, u3⟩ := t_in t1 hl64 pl0 (fun _ => Nat.le_refl _) (fun _ _ => by omega)
        rcases u3 with ⟨-, -, u3⟩ | ⟨u3, -⟩
        · refine ⟨lo, (I1, L1), 64 * lo + t, ?_, ⟨fun p a b => by show I1 p = I p; rw [u2.1 p a b, zu_pf _ _ a], u2.2⟩, hs, by omega, hmin, ?_⟩
          · unfold f_X5_next_40
            rw [zlt_b, h3, q3, if_pos (show nI lo < 64 from nI_lt (b := 64) hl64 (by decide)), zlt_b, zck_t _ (zbd_nI hl64 (by decide)), nI_clamp (by omega), t4, zb1_b, u1, zb2_b]
          · rw [Nat.max_self] at u3; exact u3
        · obtain ⟨i, i1, -⟩ := u3 hs
          exact absurd i1 (by omega)
/-- next: none is left, or the shape of the least square that is left -/
theorem c_pnext {R : Nat → Prop} {I : zI} {L : zL} (hRS : ∀ q, R q → S q) (hR : ∀ q, R q → q < 4096) (hcl : ∀ x y, R x → bes S x y → R y) (h : PR R I L) :
    ((∀ q, ¬ R q) ∧ ∃ I' L', f_X5_next I L = some (0, I', L') ∧ FP I L I' L' ∧ PR R I' L') ∨
    ∃ I' L' Qu e s lo hi, f_X5_next I L = some (1, I', L') ∧ FP I L I' L' ∧ R s ∧ (∀ q, R q → s ≤ q) ∧ lo = s / 64 ∧ PL R Qu e lo hi I' L' ∧ Qu 0 = s ∧ 1 ≤ e ∧ (∀ i j, i < e → j < e → Qu i = Qu j → i = j) ∧ (∀ q, inQ Qu e q ↔ R q ∧ clo (bes S) s q) ∧ PR (fun q => R q ∧ ¬ clo (bes S) s q) I' L' := by
  obtain ⟨h1, h2, lo, l1, l2, l3⟩ := h
  obtain ⟨L1, d1, d2, d3⟩ := c_drop h1
  unfold f_X5_next
  rw [d1, zb2_b]
  have fp : FP I L (zu I 57 2 0) L1 := ⟨fun p a _ => zu_pf _ _ a, fun p a _ => d2 p a⟩
  have := n_4 (R := R) hR (64 - lo) lo (zu I 57 2 0) L1 zF (by omega) (zF_lt (by omega)) (by rw [zu_k _ _ (by decide)]; exact l2) d3 (zu_eq _ _ _ _) (fun q hq => by rw [d2 60 (by decide)]; exact h2 q hq) (fun q hq => l3 q hq (hR q hq))
  rcases this with ⟨a, I', b, c, d⟩ | ⟨lo', ⟨I1, L2⟩, s, b, c, d, e, f, g⟩
  · exact Or.inl ⟨a, I', L1, b, fp.trans c, d⟩
  · right
    have hlo : ∀ q, R q → lo' ≤ q / 64 := fun q hq => by have := f q hq; rw [← e]; exact Nat.div_le_div_right this
    obtain ⟨I', L', Qu, e', hi', u1, u2, u3, u4, u5⟩ := t_81 (S := S) (A := R) (s := s) (lo := lo') hRS hR hlo 4096 0 1 lo' _ I1 L2 zF (by omega) (zF_lt (by omega)) (bfs_0 d) g
    have en := bfs_end hRS hcl u4
    refine ⟨I', L', Qu, e', s, lo', hi', by rw [b]; exact u1, (fp.trans c).trans u2, d, f, e.symm, u3, u5, u4.1, u4.2.2.2.2.1, en, ?_⟩
    obtain ⟨p1, p2, p3, p4, p5, p6, p7, p8, p9⟩ := u3
    refine ⟨⟨lo', by omega, p2, Or.inr ⟨hi', by omega, p3, fun y hy hz => ?_⟩⟩, fun q hq => ?_, lo', by omega, p2, fun q hq _ => hlo q hq.1⟩
    · refine bt_ext fun x hx => ?_
      rw [bt_0]
      have o := p9 (64 * y + x) (by omega)
      rw [show (64 * y + x) / 64 = y by omega, show (64 * y + x) % 64 = x by omega] at o
      rw [← Bool.not_eq_true, o]
      rintro ⟨i, i1, i2⟩
      have := p7 i i1
      rw [i2] at this
      omega
    · rw [p8 q hq, en q]
      exact ⟨fun w => ⟨w.1, fun v => w.2 ⟨w.1, v⟩⟩, fun w => ⟨w.1, fun v => w.2 v.2⟩⟩
theorem c_popen {r : Nat} {I : zI} {L : zL} (h : RPeel I L) (hr : r ≠ 58) : ∃ I' L', f_X5_open r I L = some (I', L') ∧ FP I L I' L' ∧ PR (fun q => q < 4096 ∧ bt (L r (q / 64)) (q % 64) = true) I' L' := by
  have e : ∀ y, y < 64 → zcp L 60 r 64 60 y = L r y := fun y hy => by unfold zcp; rw [if_pos ⟨rfl, hy⟩]
  have e2 : ∀ p, p ≠ 60 → zcp L 60 r 64 p = L p := fun p hp => by funext j; unfold zcp; rw [if_neg (fun z => hp z.1)]
  have h' : RPeel I (zcp L 60 r 64) := h.cg rfl rfl (e2 58 (by decide))
  obtain ⟨L1, d1, d2, d3⟩ := c_drop h'
  unfold f_X5_open
  rw [zlt_b, d1, zb2_b, zlt_b, zlt_b]
  refine ⟨_, L1, rfl, ⟨fun p a _ => by rw [zu_pf _ _ a, zu_pf _ _ a, zu_pf _ _ a], fun p a b => by rw [d2 p a, e2 p b]⟩, ⟨0, by omega, by rw [zu_k _ _ (by decide), zu_eq]; rfl, Or.inl ⟨zu_eq _ _ _ _, d3⟩⟩, fun q hq => ?_, 0, by omega, by rw [zu_k _ _ (by decide), zu_eq]; rfl, fun _ _ _ => Nat.zero_le _⟩
  rw [d2 60 (by decide), e _ (by omega)]
  exact ⟨fun w => ⟨hq, w⟩, fun w => w.2⟩
end Pn
