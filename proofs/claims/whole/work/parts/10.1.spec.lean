/-! run: numberings of classes by their least members -/
def adjS (a b : Nat) : Prop := (a / 64 = b / 64 ∧ (a + 1 = b ∨ b + 1 = a)) ∨ a + 64 = b ∨ b + 64 = a
theorem adjS_s {a b : Nat} (h : adjS a b) : adjS b a := by
  rcases h with ⟨h, h2⟩ | h | h
  · exact Or.inl ⟨h.symm, h2.symm⟩
  · exact Or.inr (Or.inr h)
  · exact Or.inr (Or.inl h)
/-- the least equivalence that holds B -/
def clo (B : Nat → Nat → Prop) (a b : Nat) : Prop := ∀ X : Nat → Nat → Prop, (∀ x, X x x) → (∀ x y, X x y → X y x) → (∀ x y z, X x y → X y z → X x z) → (∀ x y, B x y → X x y) → X a b
theorem clo_r (B : Nat → Nat → Prop) (a : Nat) : clo B a a := fun X h _ _ _ => h a
theorem clo_s {B : Nat → Nat → Prop} {a b : Nat} (h : clo B a b) : clo B b a := fun X h1 h2 h3 h4 => h2 _ _ (h X h1 h2 h3 h4)
theorem clo_t {B : Nat → Nat → Prop} {a b c : Nat} (h : clo B a b) (g : clo B b c) : clo B a c := fun X h1 h2 h3 h4 => h3 _ _ _ (h X h1 h2 h3 h4) (g X h1 h2 h3 h4)
theorem clo_b {B : Nat → Nat → Prop} {a b : Nat} (h : B a b) : clo B a b := fun X _ _ _ h4 => h4 _ _ h
/-- what B keeps, the closure keeps -/
theorem clo_inv {B : Nat → Nat → Prop} {f : Nat → Nat} (h : ∀ x y, B x y → f x = f y) {a b : Nat} (g : clo B a b) : f a = f b := g (fun x y => f x = f y) (fun _ => rfl) (fun _ _ h => h.symm) (fun _ _ _ h g => h.trans g) h
theorem clo_mono {B C : Nat → Nat → Prop} (h : ∀ x y, B x y → clo C x y) {a b : Nat} (g : clo B a b) : clo C a b := g (clo C) (clo_r C) (fun _ _ => clo_s) (fun _ _ _ => clo_t) h
def cls (S : Nat → Prop) (R : Nat → Nat → Prop) (f : Nat → Nat) (k : Nat) : Prop := (∀ q, S q → f q < k) ∧ (∀ a b, S a → S b → (f a = f b ↔ R a b)) ∧ (∀ n, n < k → ∃ q, S q ∧ f q = n) ∧ ∀ n b, S b → n < f b → ∃ a, S a ∧ a < b ∧ f a = n
theorem least_ex {p : Nat → Prop} : ∀ n, p n → ∃ a, p a ∧ ∀ b, p b → a ≤ b := by
  intro n
  induction n using Nat.strongRecOn with
  | ind n ih =>
    intro h
    by_cases z : ∃ m, m < n ∧ p m
    · obtain ⟨m, m1, m2⟩ := z; exact ih m m1 m2
    · exact ⟨n, h, fun b hb => Nat.le_of_not_lt fun y => z ⟨b, y, hb⟩⟩
theorem cls_u {S : Nat → Prop} {R : Nat → Nat → Prop} {f g : Nat → Nat} {k l : Nat} (h : cls S R f k) (h' : cls S R g l) : ∀ n q, S q → f q = n → g q = n := by
  intro n
  induction n using Nat.strongRecOn with
  | ind n ih =>
    intro q hq e
    obtain ⟨b, ⟨b1, b2⟩, b3⟩ := least_ex (p := fun x => S x ∧ f x = n) q ⟨hq, e⟩
    have gb : g b = g q := (h'.2.1 b q b1 hq).mpr ((h.2.1 b q b1 hq).mp (b2.trans e.symm))
    rw [← gb]
    rcases Nat.lt_trichotomy (g b) n with z | z | z
    · -- then some class below n has number g b in g
      obtain ⟨a, a1, a2, a3⟩ := h.2.2.2 (g b) b b1 (by rw [b2]; exact z)
      have ga := ih (g b) z a a1 a3
      have : R a b := (h'.2.1 a b a1 b1).mp ga
      have := (h.2.1 a b a1 b1).mpr this
      omega
    · exact z
    · obtain ⟨a, a1, a2, a3⟩ := h'.2.2.2 n b b1 z
      rcases Nat.lt_trichotomy (f a) n with y | y | y
      · have := ih (f a) y a a1 rfl; omega
      · have := b3 a ⟨a1, y⟩; omega
      · obtain ⟨d, d1, d2, d3⟩ := h.2.2.2 n a a1 y
        have := b3 d ⟨d1, d3⟩; omega
theorem cls_k {S : Nat → Prop} {R : Nat → Nat → Prop} {f g : Nat → Nat} {k l : Nat} (h : cls S R f k) (h' : cls S R g l) : k = l := by
  rcases Nat.lt_trichotomy k l with z | z | z
  · obtain ⟨q, q1, q2⟩ := h'.2.2.1 k z
    have := cls_u h h' (f q) q q1 rfl
    have := h.1 q q1; omega
  · exact z
  · obtain ⟨q, q1, q2⟩ := h.2.2.1 l z
    have := cls_u h' h (g q) q q1 rfl
    have := h'.1 q q1; omega
theorem cls_cg {S : Nat → Prop} {R R' : Nat → Nat → Prop} {f g : Nat → Nat} {k : Nat} (h : cls S R f k) (e : ∀ q, S q → g q = f q) (eR : ∀ a b, S a → S b → (R a b ↔ R' a b)) : cls S R' g k := by
  refine ⟨fun q hq => by rw [e q hq]; exact h.1 q hq, fun a b ha hb => by rw [e a ha, e b hb, h.2.1 a b ha hb, eR a b ha hb], fun n hn => ?_, fun n b hb hn => ?_⟩
  · obtain ⟨q, q1, q2⟩ := h.2.2.1 n hn; exact ⟨q, q1, by rw [e q q1]; exact q2⟩
  · rw [e b hb] at hn
    obtain ⟨a, a1, a2, a3⟩ := h.2.2.2 n b hb hn; exact ⟨a, a1, a2, by rw [e a a1]; exact a3⟩
/-- squares beside one another in S -/
def bes (S : Nat → Prop) (a b : Nat) : Prop := S a ∧ S b ∧ adjS a b
/-- numbers of shapes: no more than dominoes -/
theorem pigeon : ∀ (N k : Nat) (f : Nat → Nat), (∀ i, i < k → f i < N) → (∀ i j, i < k → j < k → f i = f j → i = j) → k ≤ N
  | 0, k, f, h, _ => by
    by_cases z : k = 0
    · omega
    · exact absurd (h 0 (by omega)) (by omega)
  | N + 1, k, f, h, hi => by
    by_cases z : ∃ i, i < k ∧ f i = N
    · obtain ⟨i, i1, i2⟩ := z
      have := pigeon N (k - 1) (fun x => if x < i then f x else f (x + 1)) (fun x hx => ?_) (fun x y hx hy e => ?_)
      · omega
      · show (if x < i then f x else f (x + 1)) < N
        split
        · rename_i q
          have := h x (by omega)
          have : f x ≠ N := fun y => by have := hi x i (by omega) i1 (by omega); omega
          omega
        · rename_i q
          have := h (x + 1) (by omega)
          have : f (x + 1) ≠ N := fun y => by have := hi (x + 1) i (by omega) i1 (by omega); omega
          omega
      · have e : (if x < i then f x else f (x + 1)) = (if y < i then f y else f (y + 1)) := e
        split at e <;> split at e
        · exact hi x y (by omega) (by omega) e
        · have := hi x (y + 1) (by omega) (by omega) e; omega
        · have := hi (x + 1) y (by omega) (by omega) e; omega
        · have := hi (x + 1) (y + 1) (by omega) (by omega) e; omega
    · have := pigeon N k f (fun i hik => by
        have := h i hik
        have : f i ≠ N := fun y => z ⟨i, hik, y⟩
        omega) hi
      omega
theorem cls_2048 {S : Nat → Prop} {f : Nat → Nat} {k : Nat} (hS : ∀ q, S q → q < 4096) (h : cls S (clo (bes S)) f k) : k ≤ 2048 := by
  have ch : ∀ n, ∃ q, n < k → (S q ∧ f q = n) := fun n => by
    by_cases z : n < k
    · obtain ⟨q, q1⟩ := h.2.2.1 n z; exact ⟨q, fun _ => q1⟩
    · exact ⟨0, fun y => absurd y z⟩
  let r := fun n => Classical.choose (ch n)
  have hr : ∀ n, n < k → S (r n) ∧ f (r n) = n := fun n => Classical.choose_spec (ch n)
  refine pigeon 2048 k (fun n => r n / 2) (fun n hn => ?_) (fun a b ha hb e => ?_)
  · have := hS _ (hr n hn).1
    show r n / 2 < 2048
    omega
  · obtain ⟨a1, a2⟩ := hr a ha
    obtain ⟨b1, b2⟩ := hr b hb
    have e : r a / 2 = r b / 2 := e
    by_cases z : r a = r b
    · rw [← a2, ← b2, z]
    · have ad : adjS (r a) (r b) := by
        refine Or.inl ⟨?_, ?_⟩ <;> omega
      have := (h.2.1 _ _ a1 b1).mpr (clo_b ⟨a1, b1, ad⟩)
      omega
