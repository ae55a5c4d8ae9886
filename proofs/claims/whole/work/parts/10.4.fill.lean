/-! what is drawn and told, as numbers D -/
theorem zD_ok {P : Nat} {I : zI} (hp : RPlan P I) (hd : RDraw I) : DC P (zD P I) I ∧ DM (zD P I) I ∧ DV (zD P I) := by
  obtain ⟨nl, nw, nj, nk, ⟨a1, a2, a3, a4⟩, ⟨b1, b2, b3, b4⟩, ⟨c1, c2, c3, c4⟩, ⟨d1, d2, d3, d4⟩⟩ := hp
  obtain ⟨np, p1, p2, p3, -, p4⟩ := hd
  have z00 : zD P I 0 0 = nl := by show (I P (12 + 0)).toNatClampNeg = nl; rw [show 12 + 0 = 12 from rfl, a2]; exact nI_clamp (by omega)
  have z01 : zD P I 0 1 = nw := by show (I P (12 + 1)).toNatClampNeg = nw; rw [show 12 + 1 = 13 from rfl, b2]; exact nI_clamp (by omega)
  have z02 : zD P I 0 2 = nj := by show (I P (12 + 2)).toNatClampNeg = nj; rw [show 12 + 2 = 14 from rfl, c2]; exact nI_clamp (by omega)
  have z03 : zD P I 0 3 = nk := by show (I P (12 + 3)).toNatClampNeg = nk; rw [show 12 + 3 = 15 from rfl, d2]; exact nI_clamp (by omega)
  have z04 : zD P I 0 4 = np := by show (I 20 5).toNatClampNeg = np; rw [p2]; exact nI_clamp (by omega)
  have ii : ∀ (f : Nat → Int32), (∀ i, i < 4 → f i = nI (zD P I 0 i)) ↔ (f 0 = nI nl ∧ f 1 = nI nw ∧ f 2 = nI nj ∧ f 3 = nI nk) := by
    intro f
    constructor
    · intro h; exact ⟨by rw [h 0 (by decide), z00], by rw [h 1 (by decide), z01], by rw [h 2 (by decide), z02], by rw [h 3 (by decide), z03]⟩
    · rintro ⟨h0, h1, h2, h3⟩ i hi
      match i, hi with
      | 0, _ => rw [h0, z00]
      | 1, _ => rw [h1, z01]
      | 2, _ => rw [h2, z02]
      | 3, _ => rw [h3, z03]
  have L : ∀ l, l < nl → ∃ w, w ≤ 3 ∧ zD P I 1 l = w ∧ I (P + 1 + 1) l = nI w ∧ I 106 l = nI w ∧ (∃ s, zD P I 2 l = s ∧ s < 65536 ∧ I (P + 1 + 2) l = nI s ∧ I 107 l = nI s ∧ (w ≠ 0 → s < l)) ∧ (w ≠ 0 → ∃ s, zD P I 3 l = s ∧ s < l ∧ I (P + 1 + 3) l = nI s ∧ I 108 l = nI s) := by
    intro l hl
    obtain ⟨w, w1, w2, w3, w4, w5⟩ := a4 l hl
    refine ⟨w, w1, by show (I (P + 1 + 1) l).toNatClampNeg = w; rw [w2]; exact nI_clamp (by omega), w2, w3, ?_, fun z => ?_⟩
    · by_cases z : w = 0
      · obtain ⟨i, i1, i2, i3⟩ := w4 z
        exact ⟨i, by show (I (P + 1 + 2) l).toNatClampNeg = i; rw [i2]; exact nI_clamp (by omega), i1, i2, i3, fun y => absurd z y⟩
      · obtain ⟨⟨i, i1, i2, i3⟩, -⟩ := w5 z
        exact ⟨i, by show (I (P + 1 + 2) l).toNatClampNeg = i; rw [i2]; exact nI_clamp (by omega), by omega, i2, i3, fun _ => i1⟩
    · obtain ⟨-, ⟨i, i1, i2, i3⟩⟩ := w5 z
      exact ⟨i, by show (I (P + 1 + 3) l).toNatClampNeg = i; rw [i2]; exact nI_clamp (by omega), i1, i2, i3⟩
  have W : ∀ w, w < nw → ∃ l, l < nl ∧ zD P I 4 w = l ∧ I (P + 1 + 4) w = nI l ∧ I 109 w = nI l := by
    intro w hw
    obtain ⟨l, l1, l2, l3⟩ := b4 w hw
    exact ⟨l, l1, by show (I (P + 1 + 4) w).toNatClampNeg = l; rw [l2]; exact nI_clamp (by omega), l2, l3⟩
  have Jn : ∀ j, j < nj → ∃ a b l, a < nw ∧ b < nw ∧ l < nl ∧ zD P I 5 j = a ∧ zD P I 6 j = b ∧ zD P I 7 j = l ∧ (I (P + 1 + 5) j = nI a ∧ I (P + 1 + 6) j = nI b ∧ I (P + 1 + 7) j = nI l) ∧ (I 110 j = nI a ∧ I 111 j = nI b ∧ I 112 j = nI l) := by
    intro j hj
    obtain ⟨⟨a, x1, x2, x3⟩, ⟨b, y1, y2, y3⟩, ⟨l, l1, l2, l3⟩⟩ := c4 j hj
    exact ⟨a, b, l, x1, y1, l1, by show (I (P + 1 + 5) j).toNatClampNeg = a; rw [x2]; exact nI_clamp (by omega), by show (I (P + 1 + 6) j).toNatClampNeg = b; rw [y2]; exact nI_clamp (by omega), by show (I (P + 1 + 7) j).toNatClampNeg = l; rw [l2]; exact nI_clamp (by omega), ⟨x2, y2, l2⟩, ⟨x3, y3, l3⟩⟩
  have K : ∀ k, k < nk → ∃ l c, l < nl ∧ 1 ≤ c ∧ c ≤ 4 ∧ zD P I 8 k = l ∧ zD P I 9 k = c ∧ (I (P + 1 + 9) k = nI l ∧ I (P + 1 + 10) k = nI c) ∧ (I 114 k = nI l ∧ I 115 k = nI c) ∧ ∀ i, i < c → ∃ w, w < nw ∧ zD P I 10 (4 * k + i) = w ∧ I (P + 1 + 11) (4 * k + i) = nI w ∧ I 116 (4 * k + i) = nI w := by
    intro k hk
    obtain ⟨⟨l, l1, l2, l3⟩, c, x1, x2, x3, x4, x5⟩ := d4 k hk
    refine ⟨l, c, l1, x1, x2, by show (I (P + 1 + 9) k).toNatClampNeg = l; rw [l2]; exact nI_clamp (by omega), by show (I (P + 1 + 10) k).toNatClampNeg = c; rw [x3]; exact nI_clamp (by omega), ⟨l2, x3⟩, ⟨l3, x4⟩, fun i hi => ?_⟩
    obtain ⟨w, w1, w2, w3⟩ := x5 i hi
    exact ⟨w, w1, by show (I (P + 1 + 11) (4 * k + i)).toNatClampNeg = w; rw [w2]; exact nI_clamp (by omega), w2, w3⟩
  have Y : ∀ p, p < np → ∃ i c, i < 65536 ∧ c ≤ 16 ∧ zD P I 11 p = i ∧ zD P I 12 p = c ∧ (I 21 p = nI i ∧ I 22 p = nI c) ∧ (I 98 p = nI i ∧ I 99 p = nI c) ∧ ∀ k, k < c → ∃ x y, x ≤ 64 ∧ y ≤ 64 ∧ zD P I 13 (16 * p + k) = x ∧ zD P I 14 (16 * p + k) = y ∧ (I 23 (16 * p + k) = nI x ∧ I 24 (16 * p + k) = nI y) ∧ (I 100 (16 * p + k) = nI x ∧ I 101 (16 * p + k) = nI y) := by
    intro p hp
    obtain ⟨⟨i, i1, i2, i3⟩, c, x1, x2, x3, x4⟩ := p4 p hp
    refine ⟨i, c, i1, x1, by show (I 21 p).toNatClampNeg = i; rw [i2]; exact nI_clamp (by omega), by show (I 22 p).toNatClampNeg = c; rw [x2]; exact nI_clamp (by omega), ⟨i2, x2⟩, ⟨i3, x3⟩, fun k hk => ?_⟩
    obtain ⟨⟨x, y1, y2, y3⟩, ⟨y, q1, q2, q3⟩⟩ := x4 k hk
    exact ⟨x, y, y1, q1, by show (I 23 (16 * p + k)).toNatClampNeg = x; rw [y2]; exact nI_clamp (by omega), by show (I 24 (16 * p + k)).toNatClampNeg = y; rw [q2]; exact nI_clamp (by omega), ⟨y2, q2⟩, ⟨y3, q3⟩⟩
  unfold DC DM DV
  rw [z00, z01, z02, z03, z04, ii (fun i => I P (12 + i)), ii (fun i => I 97 (12 + i))]
  refine ⟨⟨⟨a2, b2, c2, d2⟩, p2, fun l hl => ?_, fun w hw => ?_, fun j hj => ?_, fun k hk => ?_, fun p hp => ?_⟩, ⟨⟨a3, b3, c3, d3⟩, p3, fun l hl => ?_, fun w hw => ?_, fun j hj => ?_, fun k hk => ?_, fun p hp => ?_⟩, ⟨a1, b1, c1, d1, p1⟩, fun l hl => ?_, fun w hw => ?_, fun j hj => ?_, fun k hk => ?_, fun p hp => ?_⟩
  · obtain ⟨w, w1, w2, w3, w4, ⟨s, s1, s2, s3, s4, s5⟩, w5⟩ := L l hl
    rw [w2, s1]
    refine ⟨w3, s3, fun z => ?_⟩
    obtain ⟨t, t1, t2, t3, t4⟩ := w5 z; rw [t1]; exact t3
  · obtain ⟨l, l1, l2, l3, l4⟩ := W w hw; rw [l2]; exact l3
  · obtain ⟨a, b, l, q1, q2, q3, q4, q5, q6, q7, q8⟩ := Jn j hj; rw [q4, q5, q6]; exact q7
  · obtain ⟨l, c, q1, q2, q3, q4, q5, q6, q7, q8⟩ := K k hk
    rw [q4, q5]
    refine ⟨q6.1, q6.2, fun i hi => ?_⟩
    obtain ⟨w, w1, w2, w3, w4⟩ := q8 i hi; rw [w2]; exact w3
  · obtain ⟨i, c, q1, q2, q3, q4, q5, q6, q7⟩ := Y p hp
    rw [q3, q4]
    refine ⟨q5.1, q5.2, fun k hk => ?_⟩
    obtain ⟨x, y, r1, r2, r3, r4, r5, r6⟩ := q7 k hk; rw [r3, r4]; exact r5
  · obtain ⟨w, w1, w2, w3, w4, ⟨s, s1, s2, s3, s4, s5⟩, w5⟩ := L l hl
    rw [w2, s1]
    refine ⟨w4, s4, fun z => ?_⟩
    obtain ⟨t, t1, t2, t3, t4⟩ := w5 z; rw [t1]; exact t4
  · obtain ⟨l, l1, l2, l3, l4⟩ := W w hw; rw [l2]; exact l4
  · obtain ⟨a, b, l, q1, q2, q3, q4, q5, q6, q7, q8⟩ := Jn j hj; rw [q4, q5, q6]; exact q8
  · obtain ⟨l, c, q1, q2, q3, q4, q5, q6, q7, q8⟩ := K k hk
    rw [q4, q5]
    refine ⟨q7.1, q7.2, fun i hi => ?_⟩
    obtain ⟨w, w1, w2, w3, w4⟩ := q8 i hi; rw [w2]; exact w4
  · obtain ⟨i, c, q1, q2, q3, q4, q5, q6, q7⟩ := Y p hp
    rw [q3, q4]
    refine ⟨q6.1, q6.2, fun k hk => ?_⟩
    obtain ⟨x, y, r1, r2, r3, r4, r5, r6⟩ := q7 k hk; rw [r3, r4]; exact r6
  · obtain ⟨w, w1, w2, w3, w4, ⟨s, s1, s2, s3, s4, s5⟩, w5⟩ := L l hl
    rw [w2, s1]
    refine ⟨w1, s2, fun z => ⟨s5 z, ?_⟩⟩
    obtain ⟨t, t1, t2, t3, t4⟩ := w5 z; rw [t1]; exact t2
  · obtain ⟨l, l1, l2, l3, l4⟩ := W w hw; rw [l2]; exact l1
  · obtain ⟨a, b, l, q1, q2, q3, q4, q5, q6, q7, q8⟩ := Jn j hj; rw [q4, q5, q6]; exact ⟨q1, q2, q3⟩
  · obtain ⟨l, c, q1, q2, q3, q4, q5, q6, q7, q8⟩ := K k hk
    rw [q4, q5]
    refine ⟨q1, q2, q3, fun i hi => ?_⟩
    obtain ⟨w, w1, w2, w3, w4⟩ := q8 i hi; rw [w2]; exact w1
  · obtain ⟨i, c, q1, q2, q3, q4, q5, q6, q7⟩ := Y p hp
    rw [q3, q4]
    refine ⟨q1, q2, fun k hk => ?_⟩
    obtain ⟨x, y, r1, r2, r3, r4, r5, r6⟩ := q7 k hk; rw [r3, r4]; exact ⟨r1, r2⟩
/-- a side from corner a to corner b stands right of square x, y -/
def sdB (D : Nat → Nat → Nat) (p x y a b : Nat) : Bool := decide (D 13 (16 * p + a) = D 13 (16 * p + b) ∧ x < D 13 (16 * p + a) ∧ ¬ (D 14 (16 * p + a) ≤ y ↔ D 14 (16 * p + b) ≤ y))
def par (D : Nat → Nat → Nat) (p x y : Nat) : Nat → Bool
  | 0 => false
  | k + 1 => par D p x y k ^^ sdB D p x y k ((k + 1) % D 12 p)
def pcl (D : Nat → Nat → Nat) (p x y : Nat) : Nat → Bool
  | 0 => false
  | k + 1 => pcl D p x y k ^^ sdB D p x y (if k = 0 then D 12 p - 1 else k - 1) k
theorem pcl_par {D : Nat → Nat → Nat} {p x y : Nat} (h : 1 ≤ D 12 p) : pcl D p x y (D 12 p) = par D p x y (D 12 p) := by
  have key : ∀ k, k < D 12 p → pcl D p x y (k + 1) = (sdB D p x y (D 12 p - 1) 0 ^^ par D p x y k) := by
    intro k
    induction k with
    | zero => intro _; show (false ^^ sdB D p x y (if (0 : Nat) = 0 then D 12 p - 1 else 0 - 1) 0) = (_ ^^ false); rw [if_pos rfl]; simp
    | succ k ih =>
      intro hk
      show (pcl D p x y (k + 1) ^^ sdB D p x y (if k + 1 = 0 then D 12 p - 1 else k + 1 - 1) (k + 1)) = (_ ^^ (par D p x y k ^^ sdB D p x y k ((k + 1) % D 12 p)))
      rw [ih (by omega), if_neg (by omega), Nat.add_sub_cancel, Nat.mod_eq_of_lt hk, Bool.xor_assoc]
  obtain ⟨c, hc⟩ : ∃ c, D 12 p = c + 1 := ⟨D 12 p - 1, by omega⟩
  have := key c (by omega)
  rw [hc] at this ⊢
  rw [this]
  show _ = (par D p x y c ^^ sdB D p x y c ((c + 1) % D 12 p))
  rw [hc, Nat.mod_self, Nat.add_sub_cancel, Bool.xor_comm]
def clsd (D : Nat → Nat → Nat) (p : Nat) : Prop := 4 ≤ D 12 p ∧ ¬ (D 13 (16 * p) = D 13 (16 * p + (D 12 p - 1)) ↔ D 14 (16 * p) = D 14 (16 * p + (D 12 p - 1)))
def inP (D : Nat → Nat → Nat) (p x y : Nat) : Prop := clsd D p ∧ par D p x y (D 12 p) = true
/-- the layers' squares -/
def HS (D : Nat → Nat → Nat) (H : Nat → Nat → Prop) : Prop := ∀ l q, l < D 0 0 → q < 4096 → (H l q ↔ ((D 1 l = 0 ∧ ∃ p, p < D 0 4 ∧ D 11 p = D 2 l ∧ inP D p (q % 64) (q / 64)) ∨ (D 1 l = 1 ∧ H (D 2 l) q ∧ H (D 3 l) q) ∨ (D 1 l = 2 ∧ (H (D 2 l) q ∨ H (D 3 l) q)) ∨ (D 1 l = 3 ∧ H (D 2 l) q ∧ ¬ H (D 3 l) q)))
theorem HS_u {D : Nat → Nat → Nat} {H K : Nat → Nat → Prop} (hv : DV D) (h1 : HS D H) (h2 : HS D K) : ∀ l q, l < D 0 0 → q < 4096 → (H l q ↔ K l q) := by
  intro l
  induction l using Nat.strongRecOn with
  | ind l ih =>
    intro q hl hq
    rw [h1 l q hl hq, h2 l q hl hq]
    obtain ⟨-, -, v⟩ := hv.2.1 l hl
    by_cases z : D 1 l = 0
    · simp [z]
    · obtain ⟨a, b⟩ := v z
      rw [ih _ a q (by omega) hq, ih _ b q (by omega) hq]
