/-! words for functions that follow a method's own code, and rules for them -/
def zlt {α β : Type} (a : α) (f : α → β) : β := f a
theorem zlt_e {α β : Type} {a : α} {f : α → β} {r : β} (h : zlt a f = r) : ∃ x, x = a ∧ f x = r := ⟨a, rfl, h⟩
def zck {β : Type} (b : Bool) (x : Option β) : Option β := if b = true then x else none
theorem zck_e {β : Type} {b : Bool} {x : Option β} {r : β} (h : zck b x = some r) : b = true ∧ x = some r := by
  unfold zck at h
  split at h
  · exact ⟨by assumption, h⟩
  · cases h
def zb1 {α β : Type} (o : Option α) (f : α → Option β) : Option β := o.bind f
theorem zb1_e {α β : Type} {o : Option α} {f : α → Option β} {r : β} (h : zb1 o f = some r) : ∃ a, o = some a ∧ f a = some r := Option.bind_eq_some_iff.mp h
def zb2 {α α2 β : Type} (o : Option (α × α2)) (f : α → α2 → Option β) : Option β := o.bind (fun t => f t.1 t.2)
theorem zb2_e {α α2 β : Type} {o : Option (α × α2)} {f : α → α2 → Option β} {r : β} (h : zb2 o f = some r) : ∃ a b, o = some (a, b) ∧ f a b = some r := by
  obtain ⟨⟨a, b⟩, h1, h2⟩ := Option.bind_eq_some_iff.mp h
  exact ⟨a, b, h1, h2⟩
def zb3 {α α2 α3 β : Type} (o : Option (α × α2 × α3)) (f : α → α2 → α3 → Option β) : Option β := o.bind (fun t => f t.1 t.2.1 t.2.2)
theorem zb3_e {α α2 α3 β : Type} {o : Option (α × α2 × α3)} {f : α → α2 → α3 → Option β} {r : β} (h : zb3 o f = some r) : ∃ a b c, o = some (a, b, c) ∧ f a b c = some r := by
  obtain ⟨⟨a, b, c⟩, h1, h2⟩ := Option.bind_eq_some_iff.mp h
  exact ⟨a, b, c, h1, h2⟩
theorem zif_t {β : Type} {c : Prop} [Decidable c] {a b r : β} (hc : c) (h : (if c then a else b) = r) : a = r := by rwa [if_pos hc] at h
theorem zif_f {β : Type} {c : Prop} [Decidable c] {a b r : β} (hc : ¬ c) (h : (if c then a else b) = r) : b = r := by rwa [if_neg hc] at h
def zbd (i : Int32) (n : Nat) : Bool := decide (¬ (i < 0 ∨ n ≤ i.toNatClampNeg))
theorem zbd_in {i : Int32} {n : Nat} (h : zbd i n = true) : vp_in i n := by
  have h2 : ¬ (i < 0 ∨ n ≤ i.toNatClampNeg) := of_decide_eq_true h
  exact h2
def zbo (x : Int32) : Bool := decide (x = 0 ∨ x = 1)
theorem zbo_n {x : Int32} (h : zbo x = true) : narrow .boolean (.int x) = .int x ∧ fits .boolean (.int x) = true := by
  rcases of_decide_eq_true h with rfl | rfl <;> exact ⟨rfl, rfl⟩
/-- enough turns for every loop here -/
theorem zF_ex : ∃ n : Nat, 1000000000000 ≤ n := ⟨1000000000000, Nat.le_refl _⟩
noncomputable def zF : Nat := Classical.choose zF_ex
theorem zF_ge : 1000000000000 ≤ zF := Classical.choose_spec zF_ex
def zlp1 {A1 β : Type} (F : (A1 → Option β) → A1 → Option β) : Nat → A1 → Option β
  | 0 => fun _ => none
  | n + 1 => F (zlp1 F n)
theorem zlp1_e {A1 β : Type} {F : (A1 → Option β) → A1 → Option β} {r : β} (P : A1 → Prop) (hs : ∀ (k : A1 → Option β), (∀ (a1 : A1), k a1 = some r → P a1) → ∀ (a1 : A1), F k a1 = some r → P a1) : ∀ (n : Nat) (a1 : A1), zlp1 F n a1 = some r → P a1 := by
  intro n
  induction n with
  | zero => intro a1 h; cases h
  | succ n ih => exact hs (zlp1 F n) ih
def zlp2 {A1 A2 β : Type} (F : (A1 → A2 → Option β) → A1 → A2 → Option β) : Nat → A1 → A2 → Option β
  | 0 => fun _ _ => none
  | n + 1 => F (zlp2 F n)
theorem zlp2_e {A1 A2 β : Type} {F : (A1 → A2 → Option β) → A1 → A2 → Option β} {r : β} (P : A1 → A2 → Prop) (hs : ∀ (k : A1 → A2 → Option β), (∀ (a1 : A1) (a2 : A2), k a1 a2 = some r → P a1 a2) → ∀ (a1 : A1) (a2 : A2), F k a1 a2 = some r → P a1 a2) : ∀ (n : Nat) (a1 : A1) (a2 : A2), zlp2 F n a1 a2 = some r → P a1 a2 := by
  intro n
  induction n with
  | zero => intro a1 a2 h; cases h
  | succ n ih => exact hs (zlp2 F n) ih
def zlp3 {A1 A2 A3 β : Type} (F : (A1 → A2 → A3 → Option β) → A1 → A2 → A3 → Option β) : Nat → A1 → A2 → A3 → Option β
  | 0 => fun _ _ _ => none
  | n + 1 => F (zlp3 F n)
theorem zlp3_e {A1 A2 A3 β : Type} {F : (A1 → A2 → A3 → Option β) → A1 → A2 → A3 → Option β} {r : β} (P : A1 → A2 → A3 → Prop) (hs : ∀ (k : A1 → A2 → A3 → Option β), (∀ (a1 : A1) (a2 : A2) (a3 : A3), k a1 a2 a3 = some r → P a1 a2 a3) → ∀ (a1 : A1) (a2 : A2) (a3 : A3), F k a1 a2 a3 = some r → P a1 a2 a3) : ∀ (n : Nat) (a1 : A1) (a2 : A2) (a3 : A3), zlp3 F n a1 a2 a3 = some r → P a1 a2 a3 := by
  intro n
  induction n with
  | zero => intro a1 a2 a3 h; cases h
  | succ n ih => exact hs (zlp3 F n) ih
def zlp4 {A1 A2 A3 A4 β : Type} (F : (A1 → A2 → A3 → A4 → Option β) → A1 → A2 → A3 → A4 → Option β) : Nat → A1 → A2 → A3 → A4 → Option β
  | 0 => fun _ _ _ _ => none
  | n + 1 => F (zlp4 F n)
theorem zlp4_e {A1 A2 A3 A4 β : Type} {F : (A1 → A2 → A3 → A4 → Option β) → A1 → A2 → A3 → A4 → Option β} {r : β} (P : A1 → A2 → A3 → A4 → Prop) (hs : ∀ (k : A1 → A2 → A3 → A4 → Option β), (∀ (a1 : A1) (a2 : A2) (a3 : A3) (a4 : A4), k a1 a2 a3 a4 = some r → P a1 a2 a3 a4) → ∀ (a1 : A1) (a2 : A2) (a3 : A3) (a4 : A4), F k a1 a2 a3 a4 = some r → P a1 a2 a3 a4) : ∀ (n : Nat) (a1 : A1) (a2 : A2) (a3 : A3) (a4 : A4), zlp4 F n a1 a2 a3 a4 = some r → P a1 a2 a3 a4 := by
  intro n
  induction n with
  | zero => intro a1 a2 a3 a4 h; cases h
  | succ n ih => exact hs (zlp4 F n) ih
def zlp5 {A1 A2 A3 A4 A5 β : Type} (F : (A1 → A2 → A3 → A4 → A5 → Option β) → A1 → A2 → A3 → A4 → A5 → Option β) : Nat → A1 → A2 → A3 → A4 → A5 → Option β
  | 0 => fun _ _ _ _ _ => none
  | n + 1 => F (zlp5 F n)
theorem zlp5_e {A1 A2 A3 A4 A5 β : Type} {F : (A1 → A2 → A3 → A4 → A5 → Option β) → A1 → A2 → A3 → A4 → A5 → Option β} {r : β} (P : A1 → A2 → A3 → A4 → A5 → Prop) (hs : ∀ (k : A1 → A2 → A3 → A4 → A5 → Option β), (∀ (a1 : A1) (a2 : A2) (a3 : A3) (a4 : A4) (a5 : A5), k a1 a2 a3 a4 a5 = some r → P a1 a2 a3 a4 a5) → ∀ (a1 : A1) (a2 : A2) (a3 : A3) (a4 : A4) (a5 : A5), F k a1 a2 a3 a4 a5 = some r → P a1 a2 a3 a4 a5) : ∀ (n : Nat) (a1 : A1) (a2 : A2) (a3 : A3) (a4 : A4) (a5 : A5), zlp5 F n a1 a2 a3 a4 a5 = some r → P a1 a2 a3 a4 a5 := by
  intro n
  induction n with
  | zero => intro a1 a2 a3 a4 a5 h; cases h
  | succ n ih => exact hs (zlp5 F n) ih
def zlp6 {A1 A2 A3 A4 A5 A6 β : Type} (F : (A1 → A2 → A3 → A4 → A5 → A6 → Option β) → A1 → A2 → A3 → A4 → A5 → A6 → Option β) : Nat → A1 → A2 → A3 → A4 → A5 → A6 → Option β
  | 0 => fun _ _ _ _ _ _ => none
  | n + 1 => F (zlp6 F n)
theorem zlp6_e {A1 A2 A3 A4 A5 A6 β : Type} {F : (A1 → A2 → A3 → A4 → A5 → A6 → Option β) → A1 → A2 → A3 → A4 → A5 → A6 → Option β} {r : β} (P : A1 → A2 → A3 → A4 → A5 → A6 → Prop) (hs : ∀ (k : A1 → A2 → A3 → A4 → A5 → A6 → Option β), (∀ (a1 : A1) (a2 : A2) (a3 : A3) (a4 : A4) (a5 : A5) (a6 : A6), k a1 a2 a3 a4 a5 a6 = some r → P a1 a2 a3 a4 a5 a6) → ∀ (a1 : A1) (a2 : A2) (a3 : A3) (a4 : A4) (a5 : A5) (a6 : A6), F k a1 a2 a3 a4 a5 a6 = some r → P a1 a2 a3 a4 a5 a6) : ∀ (n : Nat) (a1 : A1) (a2 : A2) (a3 : A3) (a4 : A4) (a5 : A5) (a6 : A6), zlp6 F n a1 a2 a3 a4 a5 a6 = some r → P a1 a2 a3 a4 a5 a6 := by
  intro n
  induction n with
  | zero => intro a1 a2 a3 a4 a5 a6 h; cases h
  | succ n ih => exact hs (zlp6 F n) ih
def zlp7 {A1 A2 A3 A4 A5 A6 A7 β : Type} (F : (A1 → A2 → A3 → A4 → A5 → A6 → A7 → Option β) → A1 → A2 → A3 → A4 → A5 → A6 → A7 → Option β) : Nat → A1 → A2 → A3 → A4 → A5 → A6 → A7 → Option β
  | 0 => fun _ _ _ _ _ _ _ => none
  | n + 1 => F (zlp7 F n)
theorem zlp7_e {A1 A2 A3 A4 A5 A6 A7 β : Type} {F : (A1 → A2 → A3 → A4 → A5 → A6 → A7 → Option β) → A1 → A2 → A3 → A4 → A5 → A6 → A7 → Option β} {r : β} (P : A1 → A2 → A3 → A4 → A5 → A6 → A7 → Prop) (hs : ∀ (k : A1 → A2 → A3 → A4 → A5 → A6 → A7 → Option β), (∀ (a1 : A1) (a2 : A2) (a3 : A3) (a4 : A4) (a5 : A5) (a6 : A6) (a7 : A7), k a1 a2 a3 a4 a5 a6 a7 = some r → P a1 a2 a3 a4 a5 a6 a7) → ∀ (a1 : A1) (a2 : A2) (a3 : A3) (a4 : A4) (a5 : A5) (a6 : A6) (a7 : A7), F k a1 a2 a3 a4 a5 a6 a7 = some r → P a1 a2 a3 a4 a5 a6 a7) : ∀ (n : Nat) (a1 : A1) (a2 : A2) (a3 : A3) (a4 : A4) (a5 : A5) (a6 : A6) (a7 : A7), zlp7 F n a1 a2 a3 a4 a5 a6 a7 = some r → P a1 a2 a3 a4 a5 a6 a7 := by
  intro n
  induction n with
  | zero => intro a1 a2 a3 a4 a5 a6 a7 h; cases h
  | succ n ih => exact hs (zlp7 F n) ih
def zlp8 {A1 A2 A3 A4 A5 A6 A7 A8 β : Type} (F : (A1 → A2 → A3 → A4 → A5 → A6 → A7 → A8 → Option β) → A1 → A2 → A3 → A4 → A5 → A6 → A7 → A8 → Option β) : Nat → A1 → A2 → A3 → A4 → A5 → A6 → A7 → A8 → Option β
  | 0 => fun _ _ _ _ _ _ _ _ => none
  | n + 1 => F (zlp8 F n)
theorem zlp8_e {A1 A2 A3 A4 A5 A6 A7 A8 β : Type} {F : (A1 → A2 → A3 → A4 → A5 → A6 → A7 → A8 → Option β) → A1 → A2 → A3 → A4 → A5 → A6 → A7 → A8 → Option β} {r : β} (P : A1 → A2 → A3 → A4 → A5 → A6 → A7 → A8 → Prop) (hs : ∀ (k : A1 → A2 → A3 → A4 → A5 → A6 → A7 → A8 → Option β), (∀ (a1 : A1) (a2 : A2) (a3 : A3) (a4 : A4) (a5 : A5) (a6 : A6) (a7 : A7) (a8 : A8), k a1 a2 a3 a4 a5 a6 a7 a8 = some r → P a1 a2 a3 a4 a5 a6 a7 a8) → ∀ (a1 : A1) (a2 : A2) (a3 : A3) (a4 : A4) (a5 : A5) (a6 : A6) (a7 : A7) (a8 : A8), F k a1 a2 a3 a4 a5 a6 a7 a8 = some r → P a1 a2 a3 a4 a5 a6 a7 a8) : ∀ (n : Nat) (a1 : A1) (a2 : A2) (a3 : A3) (a4 : A4) (a5 : A5) (a6 : A6) (a7 : A7) (a8 : A8), zlp8 F n a1 a2 a3 a4 a5 a6 a7 a8 = some r → P a1 a2 a3 a4 a5 a6 a7 a8 := by
  intro n
  induction n with
  | zero => intro a1 a2 a3 a4 a5 a6 a7 a8 h; cases h
  | succ n ih => exact hs (zlp8 F n) ih
def zlp9 {A1 A2 A3 A4 A5 A6 A7 A8 A9 β : Type} (F : (A1 → A2 → A3 → A4 → A5 → A6 → A7 → A8 → A9 → Option β) → A1 → A2 → A3 → A4 → A5 → A6 → A7 → A8 → A9 → Option β) : Nat → A1 → A2 → A3 → A4 → A5 → A6 → A7 → A8 → A9 → Option β
  | 0 => fun _ _ _ _ _ _ _ _ _ => none
  | n + 1 => F (zlp9 F n)
theorem zlp9_e {A1 A2 A3 A4 A5 A6 A7 A8 A9 β : Type} {F : (A1 → A2 → A3 → A4 → A5 → A6 → A7 → A8 → A9 → Option β) → A1 → A2 → A3 → A4 → A5 → A6 → A7 → A8 → A9 → Option β} {r : β} (P : A1 → A2 → A3 → A4 → A5 → A6 → A7 → A8 → A9 → Prop) (hs : ∀ (k : A1 → A2 → A3 → A4 → A5 → A6 → A7 → A8 → A9 → Option β), (∀ (a1 : A1) (a2 : A2) (a3 : A3) (a4 : A4) (a5 : A5) (a6 : A6) (a7 : A7) (a8 : A8) (a9 : A9), k a1 a2 a3 a4 a5 a6 a7 a8 a9 = some r → P a1 a2 a3 a4 a5 a6 a7 a8 a9) → ∀ (a1 : A1) (a2 : A2) (a3 : A3) (a4 : A4) (a5 : A5) (a6 : A6) (a7 : A7) (a8 : A8) (a9 : A9), F k a1 a2 a3 a4 a5 a6 a7 a8 a9 = some r → P a1 a2 a3 a4 a5 a6 a7 a8 a9) : ∀ (n : Nat) (a1 : A1) (a2 : A2) (a3 : A3) (a4 : A4) (a5 : A5) (a6 : A6) (a7 : A7) (a8 : A8) (a9 : A9), zlp9 F n a1 a2 a3 a4 a5 a6 a7 a8 a9 = some r → P a1 a2 a3 a4 a5 a6 a7 a8 a9 := by
  intro n
  induction n with
  | zero => intro a1 a2 a3 a4 a5 a6 a7 a8 a9 h; cases h
  | succ n ih => exact hs (zlp9 F n) ih
def zlp10 {A1 A2 A3 A4 A5 A6 A7 A8 A9 A10 β : Type} (F : (A1 → A2 → A3 → A4 → A5 → A6 → A7 → A8 → A9 → A10 → Option β) → A1 → A2 → A3 → A4 → A5 → A6 → A7 → A8 → A9 → A10 → Option β) : Nat → A1 → A2 → A3 → A4 → A5 → A6 → A7 → A8 → A9 → A10 → Option β
  | 0 => fun _ _ _ _ _ _ _ _ _ _ => none
  | n + 1 => F (zlp10 F n)
theorem zlp10_e {A1 A2 A3 A4 A5 A6 A7 A8 A9 A10 β : Type} {F : (A1 → A2 → A3 → A4 → A5 → A6 → A7 → A8 → A9 → A10 → Option β) → A1 → A2 → A3 → A4 → A5 → A6 → A7 → A8 → A9 → A10 → Option β} {r : β} (P : A1 → A2 → A3 → A4 → A5 → A6 → A7 → A8 → A9 → A10 → Prop) (hs : ∀ (k : A1 → A2 → A3 → A4 → A5 → A6 → A7 → A8 → A9 → A10 → Option β), (∀ (a1 : A1) (a2 : A2) (a3 : A3) (a4 : A4) (a5 : A5) (a6 : A6) (a7 : A7) (a8 : A8) (a9 : A9) (a10 : A10), k a1 a2 a3 a4 a5 a6 a7 a8 a9 a10 = some r → P a1 a2 a3 a4 a5 a6 a7 a8 a9 a10) → ∀ (a1 : A1) (a2 : A2) (a3 : A3) (a4 : A4) (a5 : A5) (a6 : A6) (a7 : A7) (a8 : A8) (a9 : A9) (a10 : A10), F k a1 a2 a3 a4 a5 a6 a7 a8 a9 a10 = some r → P a1 a2 a3 a4 a5 a6 a7 a8 a9 a10) : ∀ (n : Nat) (a1 : A1) (a2 : A2) (a3 : A3) (a4 : A4) (a5 : A5) (a6 : A6) (a7 : A7) (a8 : A8) (a9 : A9) (a10 : A10), zlp10 F n a1 a2 a3 a4 a5 a6 a7 a8 a9 a10 = some r → P a1 a2 a3 a4 a5 a6 a7 a8 a9 a10 := by
  intro n
  induction n with
  | zero => intro a1 a2 a3 a4 a5 a6 a7 a8 a9 a10 h; cases h
  | succ n ih => exact hs (zlp10 F n) ih
def zlp11 {A1 A2 A3 A4 A5 A6 A7 A8 A9 A10 A11 β : Type} (F : (A1 → A2 → A3 → A4 → A5 → A6 → A7 → A8 → A9 → A10 → A11 → Option β) → A1 → A2 → A3 → A4 → A5 → A6 → A7 → A8 → A9 → A10 → A11 → Option β) : Nat → A1 → A2 → A3 → A4 → A5 → A6 → A7 → A8 → A9 → A10 → A11 → Option β
  | 0 => fun _ _ _ _ _ _ _ _ _ _ _ => none
  | n + 1 => F (zlp11 F n)
theorem zlp11_e {A1 A2 A3 A4 A5 A6 A7 A8 A9 A10 A11 β : Type} {F : (A1 → A2 → A3 → A4 → A5 → A6 → A7 → A8 → A9 → A10 → A11 → Option β) → A1 → A2 → A3 → A4 → A5 → A6 → A7 → A8 → A9 → A10 → A11 → Option β} {r : β} (P : A1 → A2 → A3 → A4 → A5 → A6 → A7 → A8 → A9 → A10 → A11 → Prop) (hs : ∀ (k : A1 → A2 → A3 → A4 → A5 → A6 → A7 → A8 → A9 → A10 → A11 → Option β), (∀ (a1 : A1) (a2 : A2) (a3 : A3) (a4 : A4) (a5 : A5) (a6 : A6) (a7 : A7) (a8 : A8) (a9 : A9) (a10 : A10) (a11 : A11), k a1 a2 a3 a4 a5 a6 a7 a8 a9 a10 a11 = some r → P a1 a2 a3 a4 a5 a6 a7 a8 a9 a10 a11) → ∀ (a1 : A1) (a2 : A2) (a3 : A3) (a4 : A4) (a5 : A5) (a6 : A6) (a7 : A7) (a8 : A8) (a9 : A9) (a10 : A10) (a11 : A11), F k a1 a2 a3 a4 a5 a6 a7 a8 a9 a10 a11 = some r → P a1 a2 a3 a4 a5 a6 a7 a8 a9 a10 a11) : ∀ (n : Nat) (a1 : A1) (a2 : A2) (a3 : A3) (a4 : A4) (a5 : A5) (a6 : A6) (a7 : A7) (a8 : A8) (a9 : A9) (a10 : A10) (a11 : A11), zlp11 F n a1 a2 a3 a4 a5 a6 a7 a8 a9 a10 a11 = some r → P a1 a2 a3 a4 a5 a6 a7 a8 a9 a10 a11 := by
  intro n
  induction n with
  | zero => intro a1 a2 a3 a4 a5 a6 a7 a8 a9 a10 a11 h; cases h
  | succ n ih => exact hs (zlp11 F n) ih
def zlp12 {A1 A2 A3 A4 A5 A6 A7 A8 A9 A10 A11 A12 β : Type} (F : (A1 → A2 → A3 → A4 → A5 → A6 → A7 → A8 → A9 → A10 → A11 → A12 → Option β) → A1 → A2 → A3 → A4 → A5 → A6 → A7 → A8 → A9 → A10 → A11 → A12 → Option β) : Nat → A1 → A2 → A3 → A4 → A5 → A6 → A7 → A8 → A9 → A10 → A11 → A12 → Option β
  | 0 => fun _ _ _ _ _ _ _ _ _ _ _ _ => none
  | n + 1 => F (zlp12 F n)
theorem zlp12_e {A1 A2 A3 A4 A5 A6 A7 A8 A9 A10 A11 A12 β : Type} {F : (A1 → A2 → A3 → A4 → A5 → A6 → A7 → A8 → A9 → A10 → A11 → A12 → Option β) → A1 → A2 → A3 → A4 → A5 → A6 → A7 → A8 → A9 → A10 → A11 → A12 → Option β} {r : β} (P : A1 → A2 → A3 → A4 → A5 → A6 → A7 → A8 → A9 → A10 → A11 → A12 → Prop) (hs : ∀ (k : A1 → A2 → A3 → A4 → A5 → A6 → A7 → A8 → A9 → A10 → A11 → A12 → Option β), (∀ (a1 : A1) (a2 : A2) (a3 : A3) (a4 : A4) (a5 : A5) (a6 : A6) (a7 : A7) (a8 : A8) (a9 : A9) (a10 : A10) (a11 : A11) (a12 : A12), k a1 a2 a3 a4 a5 a6 a7 a8 a9 a10 a11 a12 = some r → P a1 a2 a3 a4 a5 a6 a7 a8 a9 a10 a11 a12) → ∀ (a1 : A1) (a2 : A2) (a3 : A3) (a4 : A4) (a5 : A5) (a6 : A6) (a7 : A7) (a8 : A8) (a9 : A9) (a10 : A10) (a11 : A11) (a12 : A12), F k a1 a2 a3 a4 a5 a6 a7 a8 a9 a10 a11 a12 = some r → P a1 a2 a3 a4 a5 a6 a7 a8 a9 a10 a11 a12) : ∀ (n : Nat) (a1 : A1) (a2 : A2) (a3 : A3) (a4 : A4) (a5 : A5) (a6 : A6) (a7 : A7) (a8 : A8) (a9 : A9) (a10 : A10) (a11 : A11) (a12 : A12), zlp12 F n a1 a2 a3 a4 a5 a6 a7 a8 a9 a10 a11 a12 = some r → P a1 a2 a3 a4 a5 a6 a7 a8 a9 a10 a11 a12 := by
  intro n
  induction n with
  | zero => intro a1 a2 a3 a4 a5 a6 a7 a8 a9 a10 a11 a12 h; cases h
  | succ n ih => exact hs (zlp12 F n) ih
section Zr6
variable {p : Program} {l : Launch} {e : Env} {R : Room} {s : State} {m : MethodId} {args : Array Value} {below : List Frame} {meth : Method} {c : Code} {s0 : State} {a0 : Array Value} {d : va_G} {cy : Nat → ClassId} {B0 : Nat} {own : String} {cc : ByteArray} {nL : Nat} {ret : Option FieldType} {bc0 bs0 bcF bsF fr lo : Nat} {tb : List ExceptionTableEntry} {Q : State → Prop} {pc : Nat} {lv : List (Nat × Value)} {st : List Value} {sh : zS} {sz bc bs : Nat} {I : zI} {L : zL}
theorem z_eqi (C : zC p l e R s m args below meth c s0 a0 d cy B0 own cc nL ret bc0 bs0 bcF bsF fr lo tb) {x y : Int32} (hx : x = y) (k : zG p l e R s m args below meth c d cy B0 nL bc0 bs0 Q pc lv (.int x :: st) sh sz bc bs I L) : zG p l e R s m args below meth c d cy B0 nL bc0 bs0 Q pc lv (.int y :: st) sh sz bc bs I L := hx ▸ k
theorem z_eql (C : zC p l e R s m args below meth c s0 a0 d cy B0 own cc nL ret bc0 bs0 bcF bsF fr lo tb) {x y : Int64} (hx : x = y) (k : zG p l e R s m args below meth c d cy B0 nL bc0 bs0 Q pc lv (.long x :: st) sh sz bc bs I L) : zG p l e R s m args below meth c d cy B0 nL bc0 bs0 Q pc lv (.long y :: st) sh sz bc bs I L := hx ▸ k
theorem z_eqI (C : zC p l e R s m args below meth c s0 a0 d cy B0 own cc nL ret bc0 bs0 bcF bsF fr lo tb) {J : zI} (hx : J = I) (k : zG p l e R s m args below meth c d cy B0 nL bc0 bs0 Q pc lv st sh sz bc bs J L) : zG p l e R s m args below meth c d cy B0 nL bc0 bs0 Q pc lv st sh sz bc bs I L := hx ▸ k
theorem z_eqL (C : zC p l e R s m args below meth c s0 a0 d cy B0 own cc nL ret bc0 bs0 bcF bsF fr lo tb) {J : zL} (hx : J = L) (k : zG p l e R s m args below meth c d cy B0 nL bc0 bs0 Q pc lv st sh sz bc bs I J) : zG p l e R s m args below meth c d cy B0 nL bc0 bs0 Q pc lv st sh sz bc bs I L := hx ▸ k
theorem z_lv (ks : List Nat) {lv' : List (Nat × Value)} (hl : lv_pick lv ks = lv') (k : zG p l e R s m args below meth c d cy B0 nL bc0 bs0 Q pc lv' st sh sz bc bs I L) : zG p l e R s m args below meth c d cy B0 nL bc0 bs0 Q pc lv st sh sz bc bs I L :=
  fun ls H locs cells slots h1 h2 h3 h4 h5 h6 => k ls H locs cells slots (lv_sub h1 ks hl) h2 h3 h4 h5 h6
theorem z_geti (C : zC p l e R s m args below meth c s0 a0 d cy B0 own cc nL ret bc0 bs0 bcF bsF fr lo tb) {CC : String} {TT : u_T} {NN : Nat} {ty : Nat → FieldType} {ci : Nat} (hc : zcls ci CC TT NN ty) {idx : Nat} (hd : decode cc pc = .ok (.getfield idx, 3)) (k q : Nat) (hks : (sh q).1 = ci) (hq : q < sz) (hkN : k < NN)
    (hlk : Cond.fieldLink own idx (TT k).1 (TT k).2.1 (TT k).2.2.1 ∈ lw_tbl) (hz : zk ci k = 0) (kk : zG p l e R s m args below meth c d cy B0 nL bc0 bs0 Q (pc + 3) lv (.int (I q k) :: st) sh sz bc bs I L) : zG p l e R s m args below meth c d cy B0 nL bc0 bs0 Q pc lv (.ref (B0 + q) :: st) sh sz bc bs I L :=
  z_getfield C hc hd k q hks hq hkN hlk (by unfold zfv; rw [if_pos hz]) kk
theorem z_getr (C : zC p l e R s m args below meth c s0 a0 d cy B0 own cc nL ret bc0 bs0 bcF bsF fr lo tb) {CC : String} {TT : u_T} {NN : Nat} {ty : Nat → FieldType} {ci : Nat} (hc : zcls ci CC TT NN ty) {idx : Nat} (hd : decode cc pc = .ok (.getfield idx, 3)) (k q r : Nat) (hks : (sh q).1 = ci) (hq : q < sz) (hkN : k < NN)
    (hlk : Cond.fieldLink own idx (TT k).1 (TT k).2.1 (TT k).2.2.1 ∈ lw_tbl) (hz : zk ci k = 2) (hr : (sh q).2.2 k = some r) (kk : zG p l e R s m args below meth c d cy B0 nL bc0 bs0 Q (pc + 3) lv (.ref (B0 + r) :: st) sh sz bc bs I L) : zG p l e R s m args below meth c d cy B0 nL bc0 bs0 Q pc lv (.ref (B0 + q) :: st) sh sz bc bs I L :=
  z_getfield C hc hd k q hks hq hkN hlk (by unfold zfv; rw [if_neg (by rw [hz]; decide), if_neg (by rw [hz]; decide), if_neg (by rw [hz]; decide), hr]; rfl) kk
theorem z_getm (C : zC p l e R s m args below meth c s0 a0 d cy B0 own cc nL ret bc0 bs0 bcF bsF fr lo tb) {CC : String} {TT : u_T} {NN : Nat} {ty : Nat → FieldType} {ci : Nat} (hc : zcls ci CC TT NN ty) {idx : Nat} (hd : decode cc pc = .ok (.getfield idx, 3)) (k q r : Nat) (hks : (sh q).1 = ci) (hq : q < sz) (hkN : k < NN)
    (hlk : Cond.fieldLink own idx (TT k).1 (TT k).2.1 (TT k).2.2.1 ∈ lw_tbl) (hz : zk ci k = 3) (hr : I q k = nI (r + 1)) (hr2 : r < 1000000) (kk : zG p l e R s m args below meth c d cy B0 nL bc0 bs0 Q (pc + 3) lv (.ref (B0 + r) :: st) sh sz bc bs I L) : zG p l e R s m args below meth c d cy B0 nL bc0 bs0 Q pc lv (.ref (B0 + q) :: st) sh sz bc bs I L :=
  z_getfield C hc hd k q hks hq hkN hlk (by unfold zfv zdec; rw [if_neg (by rw [hz]; decide), if_neg (by rw [hz]; decide), if_pos hz, hr, if_neg (nI_ne0 (by omega) (by omega)), nI_clamp (by omega)]; rfl) kk
theorem z_lif_lt (C : zC p l e R s m args below meth c s0 a0 d cy B0 own cc nL ret bc0 bs0 bcF bsF fr lo tb) {x y : Int64} {off : Int} (tgt : Nat) (ht : ((pc + 1 : Nat) : Int) + off = (tgt : Int)) (hd : decode cc pc = .ok (.lcmp, 1)) (hd2 : decode cc (pc + 1) = .ok (.ifCond .lt off, 3)) (kt : x < y → zG p l e R s m args below meth c d cy B0 nL bc0 bs0 Q tgt lv st sh sz bc bs I L) (kf : ¬ x < y → zG p l e R s m args below meth c d cy B0 nL bc0 bs0 Q (pc + 4) lv st sh sz bc bs I L) : zG p l e R s m args below meth c d cy B0 nL bc0 bs0 Q pc lv (.long y :: .long x :: st) sh sz bc bs I L :=
  z_lcmp C hd (z_if_lt C tgt ht hd2 (fun h => kt ((lg_cmp_lt x y).mp h)) (fun h => kf (fun h2 => h ((lg_cmp_lt x y).mpr h2))))
theorem z_lif_ge (C : zC p l e R s m args below meth c s0 a0 d cy B0 own cc nL ret bc0 bs0 bcF bsF fr lo tb) {x y : Int64} {off : Int} (tgt : Nat) (ht : ((pc + 1 : Nat) : Int) + off = (tgt : Int)) (hd : decode cc pc = .ok (.lcmp, 1)) (hd2 : decode cc (pc + 1) = .ok (.ifCond .ge off, 3)) (kt : y ≤ x → zG p l e R s m args below meth c d cy B0 nL bc0 bs0 Q tgt lv st sh sz bc bs I L) (kf : ¬ y ≤ x → zG p l e R s m args below meth c d cy B0 nL bc0 bs0 Q (pc + 4) lv st sh sz bc bs I L) : zG p l e R s m args below meth c d cy B0 nL bc0 bs0 Q pc lv (.long y :: .long x :: st) sh sz bc bs I L :=
  z_lcmp C hd (z_if_ge C tgt ht hd2 (fun h => kt ((lg_cmp_ge x y).mp h)) (fun h => kf (fun h2 => h ((lg_cmp_ge x y).mpr h2))))
theorem z_lif_gt (C : zC p l e R s m args below meth c s0 a0 d cy B0 own cc nL ret bc0 bs0 bcF bsF fr lo tb) {x y : Int64} {off : Int} (tgt : Nat) (ht : ((pc + 1 : Nat) : Int) + off = (tgt : Int)) (hd : decode cc pc = .ok (.lcmp, 1)) (hd2 : decode cc (pc + 1) = .ok (.ifCond .gt off, 3)) (kt : y < x → zG p l e R s m args below meth c d cy B0 nL bc0 bs0 Q tgt lv st sh sz bc bs I L) (kf : ¬ y < x → zG p l e R s m args below meth c d cy B0 nL bc0 bs0 Q (pc + 4) lv st sh sz bc bs I L) : zG p l e R s m args below meth c d cy B0 nL bc0 bs0 Q pc lv (.long y :: .long x :: st) sh sz bc bs I L :=
  z_lcmp C hd (z_if_gt C tgt ht hd2 (fun h => kt ((lg_cmp_gt x y).mp h)) (fun h => kf (fun h2 => h ((lg_cmp_gt x y).mpr h2))))
theorem z_lif_le (C : zC p l e R s m args below meth c s0 a0 d cy B0 own cc nL ret bc0 bs0 bcF bsF fr lo tb) {x y : Int64} {off : Int} (tgt : Nat) (ht : ((pc + 1 : Nat) : Int) + off = (tgt : Int)) (hd : decode cc pc = .ok (.lcmp, 1)) (hd2 : decode cc (pc + 1) = .ok (.ifCond .le off, 3)) (kt : x ≤ y → zG p l e R s m args below meth c d cy B0 nL bc0 bs0 Q tgt lv st sh sz bc bs I L) (kf : ¬ x ≤ y → zG p l e R s m args below meth c d cy B0 nL bc0 bs0 Q (pc + 4) lv st sh sz bc bs I L) : zG p l e R s m args below meth c d cy B0 nL bc0 bs0 Q pc lv (.long y :: .long x :: st) sh sz bc bs I L :=
  z_lcmp C hd (z_if_le C tgt ht hd2 (fun h => kt ((lg_cmp_le x y).mp h)) (fun h => kf (fun h2 => h ((lg_cmp_le x y).mpr h2))))
theorem z_lif_eq (C : zC p l e R s m args below meth c s0 a0 d cy B0 own cc nL ret bc0 bs0 bcF bsF fr lo tb) {x y : Int64} {off : Int} (tgt : Nat) (ht : ((pc + 1 : Nat) : Int) + off = (tgt : Int)) (hd : decode cc pc = .ok (.lcmp, 1)) (hd2 : decode cc (pc + 1) = .ok (.ifCond .eq off, 3)) (kt : x = y → zG p l e R s m args below meth c d cy B0 nL bc0 bs0 Q tgt lv st sh sz bc bs I L) (kf : ¬ x = y → zG p l e R s m args below meth c d cy B0 nL bc0 bs0 Q (pc + 4) lv st sh sz bc bs I L) : zG p l e R s m args below meth c d cy B0 nL bc0 bs0 Q pc lv (.long y :: .long x :: st) sh sz bc bs I L :=
  z_lcmp C hd (z_if_eq C tgt ht hd2 (fun h => kt ((lg_cmp_eq x y).mp h)) (fun h => kf (fun h2 => h ((lg_cmp_eq x y).mpr h2))))
theorem z_lif_ne (C : zC p l e R s m args below meth c s0 a0 d cy B0 own cc nL ret bc0 bs0 bcF bsF fr lo tb) {x y : Int64} {off : Int} (tgt : Nat) (ht : ((pc + 1 : Nat) : Int) + off = (tgt : Int)) (hd : decode cc pc = .ok (.lcmp, 1)) (hd2 : decode cc (pc + 1) = .ok (.ifCond .ne off, 3)) (kt : ¬ x = y → zG p l e R s m args below meth c d cy B0 nL bc0 bs0 Q tgt lv st sh sz bc bs I L) (kf : x = y → zG p l e R s m args below meth c d cy B0 nL bc0 bs0 Q (pc + 4) lv st sh sz bc bs I L) : zG p l e R s m args below meth c d cy B0 nL bc0 bs0 Q pc lv (.long y :: .long x :: st) sh sz bc bs I L :=
  z_lcmp C hd (z_if_ne C tgt ht hd2 (fun h => kt (fun h2 => h ((lg_cmp_eq x y).mpr h2))) (fun h => kf ((lg_cmp_eq x y).mp h)))
theorem z_sw {x : Int32} {n : Nat} (hn : n < 2 ^ 31) (h : ∀ k : Nat, k < n → ¬ x = nI k) : x.toInt < 0 ∨ (n : Int) - 1 < x.toInt := by
  rcases pk_ix x hn with h1 | h1 | ⟨j, h1, h2⟩
  · rw [Int32.lt_iff_toInt_lt, Int32.toInt_zero] at h1
    exact Or.inl h1
  · rw [Int32.le_iff_toInt_le, nI_toInt hn] at h1
    exact Or.inr (by omega)
  · exact absurd h2 (h j h1)
end Zr6
/-! the places of this program, in the order in which the law's beginning makes them -/
def zKDl : List Nat := [11, 9, 13, 8, 10, 14, 15, 7, 15, 14, 14, 14, 14, 14, 14, 14, 15, 14, 14, 14, 1, 14, 14, 14, 14, 15, 4, 14, 14, 14, 14, 2, 18, 15, 15, 15, 15, 15, 15, 15, 15, 15, 15, 15, 15, 15, 15, 15, 15, 15, 15, 15, 15, 15, 15, 15, 15, 5, 15, 14, 15, 3, 17, 14, 14, 14, 14, 14, 14, 14, 14, 14, 14, 0, 6, 14, 15, 14, 14, 14, 14, 14, 14, 14, 7, 15, 14, 14, 14, 14, 14, 14, 14, 15, 14, 14, 14, 12, 14, 14, 14, 14, 14, 14, 14, 15, 14, 14, 14, 14, 14, 14, 14, 15, 14, 14, 14, 14, 16, 14, 14, 14, 14, 14, 14, 14, 14, 16, 14, 15, 14, 14, 16, 15]
def zLNl : List Nat := [11, 2, 800, 5, 4, 801, 801, 16, 24, 24, 24, 24, 8, 16, 16, 16, 8, 8, 8, 32, 6, 60, 60, 960, 960, 64, 5, 40, 40, 40, 40, 1, 24, 64, 64, 64, 64, 64, 64, 64, 64, 64, 64, 64, 64, 64, 64, 64, 64, 64, 64, 64, 64, 64, 64, 64, 64, 6, 64, 4096, 64, 7, 8, 4096, 4096, 4096, 4096, 4096, 4096, 4096, 4096, 16384, 16384, 11, 6, 4, 64, 300, 300, 300, 300, 900, 1200, 8, 16, 24, 24, 24, 24, 8, 16, 16, 16, 8, 8, 8, 32, 57, 60, 60, 960, 960, 40, 40, 40, 48, 48, 48, 48, 16, 32, 32, 32, 16, 16, 16, 64, 800, 98304, 98304, 24, 8, 32768, 32768, 300, 300, 300, 300, 1200, 900, 4096, 4096, 4096, 1]
def zRFl : List (List Nat) := [[0, 2, 4, 21, 27, 32, 62, 74, 0], [3], [], [2, 0, 5, 0], [6, 7], [], [], [9, 10, 11, 12, 13, 14, 15, 16, 17, 18, 19, 20], [], [], [], [], [], [], [], [], [], [], [], [], [22, 23, 24, 25, 26], [], [], [], [], [], [0, 28, 29, 30, 31], [], [], [], [], [33], [34, 35, 36, 37, 38, 39, 40, 41, 42, 43, 44, 45, 46, 47, 48, 49, 50, 51, 52, 53, 54, 55, 56, 57], [], [], [], [], [], [], [], [], [], [], [], [], [], [], [], [], [], [], [], [], [], [], [], [], [59, 60, 0, 0, 0, 61], [], [], [], [63, 0, 32, 58, 72, 73], [64, 65, 66, 67, 68, 69, 70, 71], [], [], [], [], [], [], [], [], [], [], [78, 79, 80, 81, 82, 83, 84, 0, 32, 58, 75], [76, 32, 62, 58, 77], [], [], [], [], [], [], [], [], [], [86, 87, 88, 89, 90, 91, 92, 93, 94, 95, 96, 97], [], [], [], [], [], [], [], [], [], [], [], [], [0, 0, 0, 99, 100, 101, 102, 0, 103, 104, 105, 0, 0, 0, 0, 0, 106, 107, 108, 109, 110, 111, 112, 113, 114, 115, 116, 117, 118, 0, 0, 119, 120, 121, 122, 0, 123, 124, 0, 0, 125, 126, 127, 128, 129, 130, 0, 0, 0, 0, 0, 0, 0, 0, 131, 132, 133], [], [], [], [], [], [], [], [], [], [], [], [], [], [], [], [], [], [], [], [], [], [], [], [], [], [], [], [], [], [], [], [], [], [], [], []]
abbrev zKn : Nat := 134
def zSH : zS := fun p => (zKDl.getD p 19, zLNl.getD p 0, fun k => match (zRFl.getD p []).getD k 0 with
  | 0 => none
  | r + 1 => some r)
/-- the two plans -/
def zpl (P : Nat) : Prop := P = 7 ∨ P = 84
theorem zpl_k {P : Nat} (h : zpl P) : (zSH P).1 = 7 := by rcases h with rfl | rfl <;> rfl
theorem zpl_lt {P : Nat} (h : zpl P) : P < zKn := by rcases h with rfl | rfl <;> decide
theorem zpl_lt2 {P : Nat} (h : zpl P) : P < 1000000 := by rcases h with rfl | rfl <;> decide
theorem zpl_r {P : Nat} (h : zpl P) (k : Nat) (hk : k < 12) : (zSH P).2.2 k = some (P + 1 + k) := by
  rcases h with rfl | rfl <;> (match k, hk with | 0, _ => rfl | 1, _ => rfl | 2, _ => rfl | 3, _ => rfl | 4, _ => rfl | 5, _ => rfl | 6, _ => rfl | 7, _ => rfl | 8, _ => rfl | 9, _ => rfl | 10, _ => rfl | 11, _ => rfl)
theorem zpl_a {P : Nat} (h : zpl P) (k : Nat) (hk : k < 12) : P + 1 + k < zKn := by rcases h with rfl | rfl <;> (show _ < 134; omega)
def zplk (k : Nat) : Nat := if k = 0 ∨ k = 8 then 15 else 14
def zpln (k : Nat) : Nat := [24, 24, 24, 24, 8, 16, 16, 16, 8, 8, 8, 32].getD k 0
theorem zpl_ak {P : Nat} (h : zpl P) (k : Nat) (hk : k < 12) : (zSH (P + 1 + k)).1 = zplk k := by
  rcases h with rfl | rfl <;> (match k, hk with | 0, _ => rfl | 1, _ => rfl | 2, _ => rfl | 3, _ => rfl | 4, _ => rfl | 5, _ => rfl | 6, _ => rfl | 7, _ => rfl | 8, _ => rfl | 9, _ => rfl | 10, _ => rfl | 11, _ => rfl)
theorem zpl_an {P : Nat} (h : zpl P) (k : Nat) (hk : k < 12) : (zSH (P + 1 + k)).2.1 = zpln k := by
  rcases h with rfl | rfl <;> (match k, hk with | 0, _ => rfl | 1, _ => rfl | 2, _ => rfl | 3, _ => rfl | 4, _ => rfl | 5, _ => rfl | 6, _ => rfl | 7, _ => rfl | 8, _ => rfl | 9, _ => rfl | 10, _ => rfl | 11, _ => rfl)
/-- an array of this kind and length -/
def zar (t n r : Nat) : Prop := (zSH r).1 = t ∧ (zSH r).2.1 = n ∧ r < zKn
theorem z_rowJ {i : Nat} (h : i < 24) : (zSH 32).2.2 i = some (33 + i) ∧ zar 15 64 (33 + i) := by
  have hd : ∀ i, i < 24 → (zSH 32).2.2 i = some (33 + i) ∧ ((zSH (33 + i)).1 = 15 ∧ (zSH (33 + i)).2.1 = 64 ∧ 33 + i < zKn) := by decide +kernel
  exact hd i h
theorem z_rowI {i : Nat} (h : i < 8) : (zSH 62).2.2 i = some (63 + i) ∧ zar 14 4096 (63 + i) := by
  have hd : ∀ i, i < 8 → (zSH 62).2.2 i = some (63 + i) ∧ ((zSH (63 + i)).1 = 14 ∧ (zSH (63 + i)).2.1 = 4096 ∧ 63 + i < zKn) := by decide +kernel
  exact hd i h
theorem zbd_lt {i : Int32} {n : Nat} (h : zbd i n = true) : i.toNatClampNeg < n := Nat.not_le.mp fun q => zbd_in h (Or.inr q)
theorem zc_0 : zcls 0 RX0 TX0 11 tyX0 := ⟨rfl, rfl, by decide +kernel, tyX0_ok, nmX0⟩
theorem zc_1 : zcls 1 RX1 TX1 6 tyX1 := ⟨rfl, rfl, by decide +kernel, tyX1_ok, nmX1⟩
theorem zc_2 : zcls 2 RX2 TX2 1 tyX2 := ⟨rfl, rfl, by decide +kernel, tyX2_ok, nmX2⟩
theorem zc_3 : zcls 3 RX3 TX3 7 tyX3 := ⟨rfl, rfl, by decide +kernel, tyX3_ok, nmX3⟩
theorem zc_4 : zcls 4 RX4 TX4 5 tyX4 := ⟨rfl, rfl, by decide +kernel, tyX4_ok, nmX4⟩
theorem zc_5 : zcls 5 RX5 TX5 6 tyX5 := ⟨rfl, rfl, by decide +kernel, tyX5_ok, nmX5⟩
theorem zc_6 : zcls 6 RX6 TX6 6 tyX6 := ⟨rfl, rfl, by decide +kernel, tyX6_ok, nmX6⟩
theorem zc_7 : zcls 7 RX7 TX7 16 tyX7 := ⟨rfl, rfl, by decide +kernel, tyX7_ok, nmX7⟩
theorem zc_8 : zcls 8 RX8 TX8 5 tyX8 := ⟨rfl, rfl, by decide +kernel, tyX8_ok, nmX8⟩
theorem zc_9 : zcls 9 RX9 TX9 2 tyX9 := ⟨rfl, rfl, by decide +kernel, tyX9_ok, nmX9⟩
theorem zc_10 : zcls 10 RX10 TX10 4 tyX10 := ⟨rfl, rfl, by decide +kernel, tyX10_ok, nmX10⟩
theorem zc_11 : zcls 11 RX11 TX11 11 tyX11 := ⟨rfl, rfl, by decide +kernel, tyX11_ok, nmX11⟩
theorem zc_12 : zcls 12 RX12 TX12 57 tyX12 := ⟨rfl, rfl, by decide +kernel, tyX12_ok, nmX12⟩
