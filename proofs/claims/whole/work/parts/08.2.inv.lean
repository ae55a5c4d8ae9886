/-! level 2: what the class keeps and what the reference keeps, place by place -/
def zCh (c : Nat) : Prop := c = 10 ∨ (32 ≤ c ∧ c ≤ 126)
def RIn (I : zI) : Prop := ∃ n, 1 ≤ n ∧ n ≤ 65536 ∧ I 0 0 = nI n ∧ I 97 1 = nI n ∧ I 3 1 = nI n
def RTape (I : zI) : Prop := ∃ n, n ≤ 800 ∧ I 1 1 = nI n ∧ I 97 29 = nI n ∧ ∀ k, k < n → ∃ c, zCh c ∧ I 2 k = nI c ∧ I 117 k = nI c
def RDraw (I : zI) : Prop := ∃ n, n ≤ 60 ∧ I 20 5 = nI n ∧ I 97 2 = nI n ∧ (∀ p, n ≤ p → p < 60 → I 22 p = nI 0) ∧ ∀ p, p < n → (∃ i, i < 65536 ∧ I 21 p = nI i ∧ I 98 p = nI i) ∧
  ∃ c, c ≤ 16 ∧ I 22 p = nI c ∧ I 99 p = nI c ∧ ∀ k, k < c → (∃ x, x ≤ 64 ∧ I 23 (16 * p + k) = nI x ∧ I 100 (16 * p + k) = nI x) ∧ (∃ y, y ≤ 64 ∧ I 24 (16 * p + k) = nI y ∧ I 101 (16 * p + k) = nI y)
def RNotes (I : zI) : Prop := ∃ n, n ≤ 40 ∧ I 26 0 = nI n ∧ I 97 7 = nI n ∧ ∀ t, t < n → (∃ w, w < 8 ∧ I 27 t = nI w ∧ I 102 t = nI w) ∧ (∃ q, q < 4096 ∧ I 28 t = nI q ∧ I 103 t = nI q) ∧ (∃ m, m < 2 ^ 31 ∧ I 29 t = nI m ∧ I 104 t = nI m)
def RLay (P : Nat) (I : zI) (nl : Nat) : Prop := nl ≤ 24 ∧ I P 12 = nI nl ∧ I 97 12 = nI nl ∧ ∀ l, l < nl → ∃ w, w ≤ 3 ∧ I (P + 1 + 1) l = nI w ∧ I 106 l = nI w ∧ (w = 0 → ∃ i, i < 65536 ∧ I (P + 1 + 2) l = nI i ∧ I 107 l = nI i) ∧ (w ≠ 0 → (∃ a, a < l ∧ I (P + 1 + 2) l = nI a ∧ I 107 l = nI a) ∧ (∃ b, b < l ∧ I (P + 1 + 3) l = nI b ∧ I 108 l = nI b))
def RWir (P : Nat) (I : zI) (nl nw : Nat) : Prop := nw ≤ 8 ∧ I P 13 = nI nw ∧ I 97 13 = nI nw ∧ ∀ w, w < nw → ∃ l, l < nl ∧ I (P + 1 + 4) w = nI l ∧ I 109 w = nI l
def RJoi (P : Nat) (I : zI) (nl nw nj : Nat) : Prop := nj ≤ 16 ∧ I P 14 = nI nj ∧ I 97 14 = nI nj ∧ ∀ j, j < nj → (∃ a, a < nw ∧ I (P + 1 + 5) j = nI a ∧ I 110 j = nI a) ∧ (∃ a, a < nw ∧ I (P + 1 + 6) j = nI a ∧ I 111 j = nI a) ∧ (∃ l, l < nl ∧ I (P + 1 + 7) j = nI l ∧ I 112 j = nI l)
def RKin (P : Nat) (I : zI) (nl nw nk : Nat) : Prop := nk ≤ 8 ∧ I P 15 = nI nk ∧ I 97 15 = nI nk ∧ ∀ k, k < nk → (∃ l, l < nl ∧ I (P + 1 + 9) k = nI l ∧ I 114 k = nI l) ∧ ∃ c, 1 ≤ c ∧ c ≤ 4 ∧ I (P + 1 + 10) k = nI c ∧ I 115 k = nI c ∧ ∀ i, i < c → ∃ w, w < nw ∧ I (P + 1 + 11) (4 * k + i) = nI w ∧ I 116 (4 * k + i) = nI w
def RPlan (P : Nat) (I : zI) : Prop := ∃ nl nw nj nk, RLay P I nl ∧ RWir P I nl nw ∧ RJoi P I nl nw nj ∧ RKin P I nl nw nk
def RFlag (I : zI) : Prop := ((I 0 9 = 0 ∧ I 97 11 = 0) ∨ (I 0 9 = 1 ∧ I 97 11 = 1)) ∧ ((I 0 10 = 0 ∧ I 97 30 = 0) ∨ (I 0 10 = 1 ∧ I 97 30 = 1 ∧ I 0 9 = 1))
def RPeel (I : zI) (L : zL) : Prop := ∃ lo, lo ≤ 64 ∧ I 57 3 = nI lo ∧ ((I 57 4 = -1 ∧ ∀ y, y < 64 → L 58 y = 0) ∨ ∃ hi, hi ≤ 64 ∧ I 57 4 = nI hi ∧ ∀ y, y < 64 → (y < lo ∨ hi < y) → L 58 y = 0)
def zNet (I : zI) (x : Int32) : Int32 := if x = -1 then -1 else I 123 x.toNatClampNeg
def zSame (I : zI) (c d e : Nat) : Prop := ∀ k, k < c → I 82 (4 * d + k) = I 82 (4 * e + k)
def zFresh (I : zI) (c kd d : Nat) : Prop := I 77 d = nI kd ∧ I 79 d = 0 ∧ ∀ e, e < d → I 77 e = nI kd → I 79 e = 0 → ¬ zSame I c d e
noncomputable def zCount (p : Nat → Prop) : Nat → Nat
  | 0 => 0
  | n + 1 => zCount p n + @ite Nat (p n) (Classical.propDecidable _) 1 0
def zNode (I : zI) (w q : Nat) : Int32 := if I 119 (4096 * (I 109 w).toNatClampNeg + q) = -1 then -1 else I 121 w + I 119 (4096 * (I 109 w).toNatClampNeg + q)
def RDev (I : zI) (L : zL) (nk nd d : Nat) : Prop := ∃ k, k < nk ∧ I 77 d = nI k ∧ I 124 d = nI k ∧ (∃ h, h < 4096 ∧ I 78 d = nI h ∧ I 125 d = nI h) ∧ ((I 79 d = 0 ∧ I 127 d = 0) ∨ (I 79 d = 1 ∧ I 127 d = 1)) ∧ (∃ q, q < 4096 ∧ I 80 d = nI q ∧ I 126 d = nI q) ∧ (∀ w, w < 3 → ∃ m, m < 2 ^ 31 ∧ I 81 (3 * d + w) = nI m ∧ L 129 (3 * d + w) = lN m) ∧ ∀ i, i < 4 → nI i < I 115 k → I 82 (4 * d + i) = zNet I (I 128 (4 * d + i)) ∧ (I 128 (4 * d + i) = -1 ∨ ∃ m, m < nd ∧ I 128 (4 * d + i) = nI m)
def RFound (P : Nat) (I : zI) (L : zL) : Prop := ∃ D nn nd nw nk, D ≤ 300 ∧ nn ≤ 16384 ∧ nd ≤ 16384 ∧ nw ≤ 8 ∧ nk ≤ 8 ∧ I 73 7 = nI D ∧ I 97 39 = nI D ∧ I 61 1 = nI nn ∧ I 97 38 = nI nn ∧ I P 13 = nI nw ∧ I P 15 = nI nk ∧
  (∀ d, d < D → RDev I L nk nd d) ∧ (∀ kd, kd < nk → ∃ c, c ≤ 4 ∧ I 115 kd = nI c ∧ I 83 kd = nI (zCount (zFresh I c kd) D)) ∧ (∀ m, m < nd → ∃ t, t < nn ∧ I 72 m = nI t ∧ I 123 m = nI t) ∧
  (∀ w q, w < nw → q < 4096 → I (63 + w) q = zNode I w q ∧ (zNode I w q = -1 ∨ ∃ m, m < nd ∧ zNode I w q = nI m)) ∧
  (∀ t w q, nI t < I 26 0 → t < 40 → I 27 t = nI w → w < 8 → I 28 t = nI q → q < 4096 → I 30 t = if w < nw then zNet I (zNode I w q) else -1)
def DC (P : Nat) (D : Nat → Nat → Nat) (I : zI) : Prop :=
  (∀ i, i < 4 → I P (12 + i) = nI (D 0 i)) ∧ I 20 5 = nI (D 0 4) ∧ (∀ l, l < D 0 0 → I (P + 1 + 1) l = nI (D 1 l) ∧ I (P + 1 + 2) l = nI (D 2 l) ∧ (D 1 l ≠ 0 → I (P + 1 + 3) l = nI (D 3 l))) ∧ (∀ w, w < D 0 1 → I (P + 1 + 4) w = nI (D 4 w)) ∧
  (∀ j, j < D 0 2 → I (P + 1 + 5) j = nI (D 5 j) ∧ I (P + 1 + 6) j = nI (D 6 j) ∧ I (P + 1 + 7) j = nI (D 7 j)) ∧ (∀ k, k < D 0 3 → I (P + 1 + 9) k = nI (D 8 k) ∧ I (P + 1 + 10) k = nI (D 9 k) ∧ ∀ i, i < D 9 k → I (P + 1 + 11) (4 * k + i) = nI (D 10 (4 * k + i))) ∧
  ∀ p, p < D 0 4 → I 21 p = nI (D 11 p) ∧ I 22 p = nI (D 12 p) ∧ ∀ k, k < D 12 p → I 23 (16 * p + k) = nI (D 13 (16 * p + k)) ∧ I 24 (16 * p + k) = nI (D 14 (16 * p + k))
def DM (D : Nat → Nat → Nat) (J : zI) : Prop :=
  (∀ i, i < 4 → J 97 (12 + i) = nI (D 0 i)) ∧ J 97 2 = nI (D 0 4) ∧ (∀ l, l < D 0 0 → J 106 l = nI (D 1 l) ∧ J 107 l = nI (D 2 l) ∧ (D 1 l ≠ 0 → J 108 l = nI (D 3 l))) ∧ (∀ w, w < D 0 1 → J 109 w = nI (D 4 w)) ∧
  (∀ j, j < D 0 2 → J 110 j = nI (D 5 j) ∧ J 111 j = nI (D 6 j) ∧ J 112 j = nI (D 7 j)) ∧ (∀ k, k < D 0 3 → J 114 k = nI (D 8 k) ∧ J 115 k = nI (D 9 k) ∧ ∀ i, i < D 9 k → J 116 (4 * k + i) = nI (D 10 (4 * k + i))) ∧
  ∀ p, p < D 0 4 → J 98 p = nI (D 11 p) ∧ J 99 p = nI (D 12 p) ∧ ∀ k, k < D 12 p → J 100 (16 * p + k) = nI (D 13 (16 * p + k)) ∧ J 101 (16 * p + k) = nI (D 14 (16 * p + k))
def DV (D : Nat → Nat → Nat) : Prop :=
  (D 0 0 ≤ 24 ∧ D 0 1 ≤ 8 ∧ D 0 2 ≤ 16 ∧ D 0 3 ≤ 8 ∧ D 0 4 ≤ 60) ∧ (∀ l, l < D 0 0 → D 1 l ≤ 3 ∧ D 2 l < 65536 ∧ (D 1 l ≠ 0 → D 2 l < l ∧ D 3 l < l)) ∧ (∀ w, w < D 0 1 → D 4 w < D 0 0) ∧ (∀ j, j < D 0 2 → D 5 j < D 0 1 ∧ D 6 j < D 0 1 ∧ D 7 j < D 0 0) ∧ (∀ k, k < D 0 3 → D 8 k < D 0 0 ∧ 1 ≤ D 9 k ∧ D 9 k ≤ 4 ∧ ∀ i, i < D 9 k → D 10 (4 * k + i) < D 0 1) ∧
  ∀ p, p < D 0 4 → D 11 p < 65536 ∧ D 12 p ≤ 16 ∧ ∀ k, k < D 12 p → D 13 (16 * p + k) ≤ 64 ∧ D 14 (16 * p + k) ≤ 64
/-- the numbers that the class holds -/
def zD (P : Nat) (I : zI) : Nat → Nat → Nat := fun a i => (if a = 0 then (if i = 4 then I 20 5 else I P (12 + i)) else if a = 1 then I (P + 1 + 1) i else if a = 2 then I (P + 1 + 2) i else if a = 3 then I (P + 1 + 3) i else if a = 4 then I (P + 1 + 4) i else if a = 5 then I (P + 1 + 5) i else if a = 6 then I (P + 1 + 6) i else if a = 7 then I (P + 1 + 7) i else if a = 8 then I (P + 1 + 9) i else if a = 9 then I (P + 1 + 10) i else if a = 10 then I (P + 1 + 11) i else if a = 11 then I 21 i else if a = 12 then I 22 i else if a = 13 then I 23 i else I 24 i).toNatClampNeg
/-- what was found is what a search found in a like drawing -/
def Fnd (P : Nat) (I : zI) : Prop := ∃ (I0 : zI) (L0 : zL) (I1 : zI) (L1 : zL), I0 0 8 = nI (P + 1) ∧ RDraw I0 ∧ RNotes I0 ∧ RPlan P I0 ∧ RPeel I0 L0 ∧ f_X11_findAll P I0 L0 = some (1, I1, L1) ∧ (∀ p, (26 ≤ p ∧ p ≤ 30) ∨ (61 ≤ p ∧ p ≤ 83) → I p = I1 p) ∧ DV (zD P I0) ∧ DC P (zD P I0) I
def zpq (P Q : Nat) : Prop := (P = 84 ∧ Q = 7) ∨ (P = 7 ∧ Q = 84)
theorem zpq_l {P Q : Nat} (h : zpq P Q) : zpl P := by rcases h with ⟨h, -⟩ | ⟨h, -⟩ <;> simp [zpl, h]
theorem zpq_r {P Q : Nat} (h : zpq P Q) : zpl Q := by rcases h with ⟨-, h⟩ | ⟨-, h⟩ <;> simp [zpl, h]
theorem zpq_s {P Q : Nat} (h : zpq P Q) : zpq Q P := by rcases h with ⟨h, h2⟩ | ⟨h, h2⟩ <;> simp [zpq, h, h2]
def zInvP (P Q : Nat) (I : zI) (L : zL) : Prop := I 0 8 = nI (P + 1) ∧ I 3 3 = nI (Q + 1) ∧ RIn I ∧ RTape I ∧ RDraw I ∧ RNotes I ∧ RPlan P I ∧ RFlag I ∧ RPeel I L ∧ (I 0 10 = 1 → RFound P I L ∧ Fnd P I)
def zInv (I : zI) (L : zL) : Prop := ∃ P Q, zpq P Q ∧ zInvP P Q I L
