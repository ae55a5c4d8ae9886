/-! level 2: a function of level 1 answers, and its answer keeps Q -/
def zHT {β : Type} (o : Option β) (Q : β → Prop) : Prop := ∃ r, o = some r ∧ Q r
theorem zHT_some {β : Type} {r : β} {Q : β → Prop} (h : Q r) : zHT (some r) Q := ⟨r, rfl, h⟩
theorem zHT_lt {α β : Type} {a : α} {f : α → Option β} {Q : β → Prop} (h : zHT (f a) Q) : zHT (zlt a f) Q := h
theorem zHT_ck {β : Type} {b : Bool} {x : Option β} {Q : β → Prop} (hb : b = true) (h : zHT x Q) : zHT (zck b x) Q := by unfold zck; rw [if_pos hb]; exact h
theorem zHT_b1 {α β : Type} {o : Option α} {f : α → Option β} {Q : β → Prop} (R : α → Prop) (ho : zHT o R) (h : ∀ a, R a → zHT (f a) Q) : zHT (zb1 o f) Q := by
  obtain ⟨a, rfl, ha⟩ := ho
  exact h a ha
theorem zHT_b2 {α α2 β : Type} {o : Option (α × α2)} {f : α → α2 → Option β} {Q : β → Prop} (R : α × α2 → Prop) (ho : zHT o R) (h : ∀ a b, R (a, b) → zHT (f a b) Q) : zHT (zb2 o f) Q := by
  obtain ⟨⟨a, b⟩, rfl, ha⟩ := ho
  exact h a b ha
theorem zHT_b3 {α α2 α3 β : Type} {o : Option (α × α2 × α3)} {f : α → α2 → α3 → Option β} {Q : β → Prop} (R : α × α2 × α3 → Prop) (ho : zHT o R) (h : ∀ a b c, R (a, b, c) → zHT (f a b c) Q) : zHT (zb3 o f) Q := by
  obtain ⟨⟨a, b, c⟩, rfl, ha⟩ := ho
  exact h a b c ha
theorem zHT_if {β : Type} {c : Prop} [Decidable c] {a b : Option β} {Q : β → Prop} (h1 : c → zHT a Q) (h2 : ¬ c → zHT b Q) : zHT (if c then a else b) Q := by
  by_cases h : c
  · rw [if_pos h]; exact h1 h
  · rw [if_neg h]; exact h2 h
theorem zHT_ift {β : Type} {c : Prop} [Decidable c] {a b : Option β} {Q : β → Prop} (hc : c) (h1 : zHT a Q) : zHT (if c then a else b) Q := by rw [if_pos hc]; exact h1
theorem zHT_iff {β : Type} {c : Prop} [Decidable c] {a b : Option β} {Q : β → Prop} (hc : ¬ c) (h1 : zHT b Q) : zHT (if c then a else b) Q := by rw [if_neg hc]; exact h1
theorem zHT_mono {β : Type} {o : Option β} {Q R : β → Prop} (h : zHT o Q) (hm : ∀ r, Q r → R r) : zHT o R := by
  obtain ⟨r, h1, h2⟩ := h
  exact ⟨r, h1, hm r h2⟩
theorem zHT_eq {β : Type} {o : Option β} {r : β} {Q : β → Prop} (h : o = some r) (hq : Q r) : zHT o Q := ⟨r, h, hq⟩
theorem zHT_b1e {α β : Type} {o : Option α} {a : α} {f : α → Option β} {Q : β → Prop} (ho : o = some a) (h : zHT (f a) Q) : zHT (zb1 o f) Q := by subst ho; exact h
theorem zHT_b2e {α α2 β : Type} {o : Option (α × α2)} {a : α} {b : α2} {f : α → α2 → Option β} {Q : β → Prop} (ho : o = some (a, b)) (h : zHT (f a b) Q) : zHT (zb2 o f) Q := by subst ho; exact h
theorem zHT_b3e {α α2 α3 β : Type} {o : Option (α × α2 × α3)} {a : α} {b : α2} {c : α3} {f : α → α2 → α3 → Option β} {Q : β → Prop} (ho : o = some (a, b, c)) (h : zHT (f a b c) Q) : zHT (zb3 o f) Q := by subst ho; exact h
theorem zck_t {β : Type} {b : Bool} (x : Option β) (hb : b = true) : zck b x = x := by unfold zck; rw [if_pos hb]
theorem zHT_sl {α β : Type} {v : α} {f : α → Option β} {g : Nat → Option β} {Q : β → Prop} (h : zHT (f v) Q) : zHT (zsm (.inl v) f g) Q := h
theorem zHT_sr {α β : Type} {v : Nat} {f : α → Option β} {g : Nat → Option β} {Q : β → Prop} (h : zHT (g v) Q) : zHT (zsm (.inr v) f g) Q := h
theorem zbd_nI {c N : Nat} (h : c < N) (hN : N < 2 ^ 31) : zbd (nI c) N = true := decide_eq_true (nI_in h hN)
theorem zbd_0 {N : Nat} (h : 0 < N) (hN : N < 2 ^ 31) : zbd (0 : Int32) N = true := zbd_nI h hN
theorem zF_lt {n : Nat} (h : n < 1000000000000) : n < zF := Nat.lt_of_lt_of_le h zF_ge
theorem nI_lit (n : Nat) : (OfNat.ofNat n : Int32) = nI n := rfl
theorem nI_m1 {a : Nat} (h : a < 2 ^ 31) : ¬ nI a = -1 := by
  intro e
  have := congrArg Int32.toInt e
  rw [nI_toInt h] at this
  have h2 : (-1 : Int32).toInt = -1 := by decide
  omega
theorem zHT_lp1 {A1 β : Type} {F : (A1 → Option β) → A1 → Option β} {Q : β → Prop} (P : A1 → Prop) (μ : A1 → Nat) (hs : ∀ (k : A1 → Option β) (a1 : A1), P a1 → (∀ (b1 : A1), P b1 → μ b1 < μ a1 → zHT (k b1) Q) → zHT (F k a1) Q) : ∀ (n : Nat) (a1 : A1), P a1 → μ a1 < n → zHT (zlp1 F n a1) Q := by
  intro n
  induction n with
  | zero => intro a1 h1 h2; exact absurd h2 (Nat.not_lt_zero _)
  | succ n ih =>
    intro a1 h1 h2
    exact hs (zlp1 F n) a1 h1 (fun b1 h3 h4 => ih b1 h3 (by omega))
theorem zHT_lp2 {A1 A2 β : Type} {F : (A1 → A2 → Option β) → A1 → A2 → Option β} {Q : β → Prop} (P : A1 → A2 → Prop) (μ : A1 → A2 → Nat) (hs : ∀ (k : A1 → A2 → Option β) (a1 : A1) (a2 : A2), P a1 a2 → (∀ (b1 : A1) (b2 : A2), P b1 b2 → μ b1 b2 < μ a1 a2 → zHT (k b1 b2) Q) → zHT (F k a1 a2) Q) : ∀ (n : Nat) (a1 : A1) (a2 : A2), P a1 a2 → μ a1 a2 < n → zHT (zlp2 F n a1 a2) Q := by
  intro n
  induction n with
  | zero => intro a1 a2 h1 h2; exact absurd h2 (Nat.not_lt_zero _)
  | succ n ih =>
    intro a1 a2 h1 h2
    exact hs (zlp2 F n) a1 a2 h1 (fun b1 b2 h3 h4 => ih b1 b2 h3 (by omega))
theorem zHT_lp3 {A1 A2 A3 β : Type} {F : (A1 → A2 → A3 → Option β) → A1 → A2 → A3 → Option β} {Q : β → Prop} (P : A1 → A2 → A3 → Prop) (μ : A1 → A2 → A3 → Nat) (hs : ∀ (k : A1 → A2 → A3 → Option β) (a1 : A1) (a2 : A2) (a3 : A3), P a1 a2 a3 → (∀ (b1 : A1) (b2 : A2) (b3 : A3), P b1 b2 b3 → μ b1 b2 b3 < μ a1 a2 a3 → zHT (k b1 b2 b3) Q) → zHT (F k a1 a2 a3) Q) : ∀ (n : Nat) (a1 : A1) (a2 : A2) (a3 : A3), P a1 a2 a3 → μ a1 a2 a3 < n → zHT (zlp3 F n a1 a2 a3) Q := by
  intro n
  induction n with
  | zero => intro a1 a2 a3 h1 h2; exact absurd h2 (Nat.not_lt_zero _)
  | succ n ih =>
    intro a1 a2 a3 h1 h2
    exact hs (zlp3 F n) a1 a2 a3 h1 (fun b1 b2 b3 h3 h4 => ih b1 b2 b3 h3 (by omega))
theorem zHT_lp4 {A1 A2 A3 A4 β : Type} {F : (A1 → A2 → A3 → A4 → Option β) → A1 → A2 → A3 → A4 → Option β} {Q : β → Prop} (P : A1 → A2 → A3 → A4 → Prop) (μ : A1 → A2 → A3 → A4 → Nat) (hs : ∀ (k : A1 → A2 → A3 → A4 → Option β) (a1 : A1) (a2 : A2) (a3 : A3) (a4 : A4), P a1 a2 a3 a4 → (∀ (b1 : A1) (b2 : A2) (b3 : A3) (b4 : A4), P b1 b2 b3 b4 → μ b1 b2 b3 b4 < μ a1 a2 a3 a4 → zHT (k b1 b2 b3 b4) Q) → zHT (F k a1 a2 a3 a4) Q) : ∀ (n : Nat) (a1 : A1) (a2 : A2) (a3 : A3) (a4 : A4), P a1 a2 a3 a4 → μ a1 a2 a3 a4 < n → zHT (zlp4 F n a1 a2 a3 a4) Q := by
  intro n
  induction n with
  | zero => intro a1 a2 a3 a4 h1 h2; exact absurd h2 (Nat.not_lt_zero _)
  | succ n ih =>
    intro a1 a2 a3 a4 h1 h2
    exact hs (zlp4 F n) a1 a2 a3 a4 h1 (fun b1 b2 b3 b4 h3 h4 => ih b1 b2 b3 b4 h3 (by omega))
theorem zHT_lp5 {A1 A2 A3 A4 A5 β : Type} {F : (A1 → A2 → A3 → A4 → A5 → Option β) → A1 → A2 → A3 → A4 → A5 → Option β} {Q : β → Prop} (P : A1 → A2 → A3 → A4 → A5 → Prop) (μ : A1 → A2 → A3 → A4 → A5 → Nat) (hs : ∀ (k : A1 → A2 → A3 → A4 → A5 → Option β) (a1 : A1) (a2 : A2) (a3 : A3) (a4 : A4) (a5 : A5), P a1 a2 a3 a4 a5 → (∀ (b1 : A1) (b2 : A2) (b3 : A3) (b4 : A4) (b5 : A5), P b1 b2 b3 b4 b5 → μ b1 b2 b3 b4 b5 < μ a1 a2 a3 a4 a5 → zHT (k b1 b2 b3 b4 b5) Q) → zHT (F k a1 a2 a3 a4 a5) Q) : ∀ (n : Nat) (a1 : A1) (a2 : A2) (a3 : A3) (a4 : A4) (a5 : A5), P a1 a2 a3 a4 a5 → μ a1 a2 a3 a4 a5 < n → zHT (zlp5 F n a1 a2 a3 a4 a5) Q := by
  intro n
  induction n with
  | zero => intro a1 a2 a3 a4 a5 h1 h2; exact absurd h2 (Nat.not_lt_zero _)
  | succ n ih =>
    intro a1 a2 a3 a4 a5 h1 h2
    exact hs (zlp5 F n) a1 a2 a3 a4 a5 h1 (fun b1 b2 b3 b4 b5 h3 h4 => ih b1 b2 b3 b4 b5 h3 (by omega))
theorem zHT_lp6 {A1 A2 A3 A4 A5 A6 β : Type} {F : (A1 → A2 → A3 → A4 → A5 → A6 → Option β) → A1 → A2 → A3 → A4 → A5 → A6 → Option β} {Q : β → Prop} (P : A1 → A2 → A3 → A4 → A5 → A6 → Prop) (μ : A1 → A2 → A3 → A4 → A5 → A6 → Nat) (hs : ∀ (k : A1 → A2 → A3 → A4 → A5 → A6 → Option β) (a1 : A1) (a2 : A2) (a3 : A3) (a4 : A4) (a5 : A5) (a6 : A6), P a1 a2 a3 a4 a5 a6 → (∀ (b1 : A1) (b2 : A2) (b3 : A3) (b4 : A4) (b5 : A5) (b6 : A6), P b1 b2 b3 b4 b5 b6 → μ b1 b2 b3 b4 b5 b6 < μ a1 a2 a3 a4 a5 a6 → zHT (k b1 b2 b3 b4 b5 b6) Q) → zHT (F k a1 a2 a3 a4 a5 a6) Q) : ∀ (n : Nat) (a1 : A1) (a2 : A2) (a3 : A3) (a4 : A4) (a5 : A5) (a6 : A6), P a1 a2 a3 a4 a5 a6 → μ a1 a2 a3 a4 a5 a6 < n → zHT (zlp6 F n a1 a2 a3 a4 a5 a6) Q := by
  intro n
  induction n with
  | zero => intro a1 a2 a3 a4 a5 a6 h1 h2; exact absurd h2 (Nat.not_lt_zero _)
  | succ n ih =>
    intro a1 a2 a3 a4 a5 a6 h1 h2
    exact hs (zlp6 F n) a1 a2 a3 a4 a5 a6 h1 (fun b1 b2 b3 b4 b5 b6 h3 h4 => ih b1 b2 b3 b4 b5 b6 h3 (by omega))
theorem zHT_lp7 {A1 A2 A3 A4 A5 A6 A7 β : Type} {F : (A1 → A2 → A3 → A4 → A5 → A6 → A7 → Option β) → A1 → A2 → A3 → A4 → A5 → A6 → A7 → Option β} {Q : β → Prop} (P : A1 → A2 → A3 → A4 → A5 → A6 → A7 → Prop) (μ : A1 → A2 → A3 → A4 → A5 → A6 → A7 → Nat) (hs : ∀ (k : A1 → A2 → A3 → A4 → A5 → A6 → A7 → Option β) (a1 : A1) (a2 : A2) (a3 : A3) (a4 : A4) (a5 : A5) (a6 : A6) (a7 : A7), P a1 a2 a3 a4 a5 a6 a7 → (∀ (b1 : A1) (b2 : A2) (b3 : A3) (b4 : A4) (b5 : A5) (b6 : A6) (b7 : A7), P b1 b2 b3 b4 b5 b6 b7 → μ b1 b2 b3 b4 b5 b6 b7 < μ a1 a2 a3 a4 a5 a6 a7 → zHT (k b1 b2 b3 b4 b5 b6 b7) Q) → zHT (F k a1 a2 a3 a4 a5 a6 a7) Q) : ∀ (n : Nat) (a1 : A1) (a2 : A2) (a3 : A3) (a4 : A4) (a5 : A5) (a6 : A6) (a7 : A7), P a1 a2 a3 a4 a5 a6 a7 → μ a1 a2 a3 a4 a5 a6 a7 < n → zHT (zlp7 F n a1 a2 a3 a4 a5 a6 a7) Q := by
  intro n
  induction n with
  | zero => intro a1 a2 a3 a4 a5 a6 a7 h1 h2; exact absurd h2 (Nat.not_lt_zero _)
  | succ n ih =>
    intro a1 a2 a3 a4 a5 a6 a7 h1 h2
    exact hs (zlp7 F n) a1 a2 a3 a4 a5 a6 a7 h1 (fun b1 b2 b3 b4 b5 b6 b7 h3 h4 => ih b1 b2 b3 b4 b5 b6 b7 h3 (by omega))
theorem zHT_lp8 {A1 A2 A3 A4 A5 A6 A7 A8 β : Type} {F : (A1 → A2 → A3 → A4 → A5 → A6 → A7 → A8 → Option β) → A1 → A2 → A3 → A4 → A5 → A6 → A7 → A8 → Option β} {Q : β → Prop} (P : A1 → A2 → A3 → A4 → A5 → A6 → A7 → A8 → Prop) (μ : A1 → A2 → A3 → A4 → A5 → A6 → A7 → A8 → Nat) (hs : ∀ (k : A1 → A2 → A3 → A4 → A5 → A6 → A7 → A8 → Option β) (a1 : A1) (a2 : A2) (a3 : A3) (a4 : A4) (a5 : A5) (a6 : A6) (a7 : A7) (a8 : A8), P a1 a2 a3 a4 a5 a6 a7 a8 → (∀ (b1 : A1) (b2 : A2) (b3 : A3) (b4 : A4) (b5 : A5) (b6 : A6) (b7 : A7) (b8 : A8), P b1 b2 b3 b4 b5 b6 b7 b8 → μ b1 b2 b3 b4 b5 b6 b7 b8 < μ a1 a2 a3 a4 a5 a6 a7 a8 → zHT (k b1 b2 b3 b4 b5 b6 b7 b8) Q) → zHT (F k a1 a2 a3 a4 a5 a6 a7 a8) Q) : ∀ (n : Nat) (a1 : A1) (a2 : A2) (a3 : A3) (a4 : A4) (a5 : A5) (a6 : A6) (a7 : A7) (a8 : A8), P a1 a2 a3 a4 a5 a6 a7 a8 → μ a1 a2 a3 a4 a5 a6 a7 a8 < n → zHT (zlp8 F n a1 a2 a3 a4 a5 a6 a7 a8) Q := by
  intro n
  induction n with
  | zero => intro a1 a2 a3 a4 a5 a6 a7 a8 h1 h2; exact absurd h2 (Nat.not_lt_zero _)
  | succ n ih =>
    intro a1 a2 a3 a4 a5 a6 a7 a8 h1 h2
    exact hs (zlp8 F n) a1 a2 a3 a4 a5 a6 a7 a8 h1 (fun b1 b2 b3 b4 b5 b6 b7 b8 h3 h4 => ih b1 b2 b3 b4 b5 b6 b7 b8 h3 (by omega))
theorem zHT_lp9 {A1 A2 A3 A4 A5 A6 A7 A8 A9 β : Type} {F : (A1 → A2 → A3 → A4 → A5 → A6 → A7 → A8 → A9 → Option β) → A1 → A2 → A3 → A4 → A5 → A6 → A7 → A8 → A9 → Option β} {Q : β → Prop} (P : A1 → A2 → A3 → A4 → A5 → A6 → A7 → A8 → A9 → Prop) (μ : A1 → A2 → A3 → A4 → A5 → A6 → A7 → A8 → A9 → Nat) (hs : ∀ (k : A1 → A2 → A3 → A4 → A5 → A6 → A7 → A8 → A9 → Option β) (a1 : A1) (a2 : A2) (a3 : A3) (a4 : A4) (a5 : A5) (a6 : A6) (a7 : A7) (a8 : A8) (a9 : A9), P a1 a2 a3 a4 a5 a6 a7 a8 a9 → (∀ (b1 : A1) (b2 : A2) (b3 : A3) (b4 : A4) (b5 : A5) (b6 : A6) (b7 : A7) (b8 : A8) (b9 : A9), P b1 b2 b3 b4 b5 b6 b7 b8 b9 → μ b1 b2 b3 b4 b5 b6 b7 b8 b9 < μ a1 a2 a3 a4 a5 a6 a7 a8 a9 → zHT (k b1 b2 b3 b4 b5 b6 b7 b8 b9) Q) → zHT (F k a1 a2 a3 a4 a5 a6 a7 a8 a9) Q) : ∀ (n : Nat) (a1 : A1) (a2 : A2) (a3 : A3) (a4 : A4) (a5 : A5) (a6 : A6) (a7 : A7) (a8 : A8) (a9 : A9), P a1 a2 a3 a4 a5 a6 a7 a8 a9 → μ a1 a2 a3 a4 a5 a6 a7 a8 a9 < n → zHT (zlp9 F n a1 a2 a3 a4 a5 a6 a7 a8 a9) Q := by
  intro n
  induction n with
  | zero => intro a1 a2 a3 a4 a5 a6 a7 a8 a9 h1 h2; exact absurd h2 (Nat.not_lt_zero _)
  | succ n ih =>
    intro a1 a2 a3 a4 a5 a6 a7 a8 a9 h1 h2
    exact hs (zlp9 F n) a1 a2 a3 a4 a5 a6 a7 a8 a9 h1 (fun b1 b2 b3 b4 b5 b6 b7 b8 b9 h3 h4 => ih b1 b2 b3 b4 b5 b6 b7 b8 b9 h3 (by omega))
theorem zHT_lp10 {A1 A2 A3 A4 A5 A6 A7 A8 A9 A10 β : Type} {F : (A1 → A2 → A3 → A4 → A5 → A6 → A7 → A8 → A9 → A10 → Option β) → A1 → A2 → A3 → A4 → A5 → A6 → A7 → A8 → A9 → A10 → Option β} {Q : β → Prop} (P : A1 → A2 → A3 → A4 → A5 → A6 → A7 → A8 → A9 → A10 → Prop) (μ : A1 → A2 → A3 → A4 → A5 → A6 → A7 → A8 → A9 → A10 → Nat) (hs : ∀ (k : A1 → A2 → A3 → A4 → A5 → A6 → A7 → A8 → A9 → A10 → Option β) (a1 : A1) (a2 : A2) (a3 : A3) (a4 : A4) (a5 : A5) (a6 : A6) (a7 : A7) (a8 : A8) (a9 : A9) (a10 : A10), P a1 a2 a3 a4 a5 a6 a7 a8 a9 a10 → (∀ (b1 : A1) (b2 : A2) (b3 : A3) (b4 : A4) (b5 : A5) (b6 : A6) (b7 : A7) (b8 : A8) (b9 : A9) (b10 : A10), P b1 b2 b3 b4 b5 b6 b7 b8 b9 b10 → μ b1 b2 b3 b4 b5 b6 b7 b8 b9 b10 < μ a1 a2 a3 a4 a5 a6 a7 a8 a9 a10 → zHT (k b1 b2 b3 b4 b5 b6 b7 b8 b9 b10) Q) → zHT (F k a1 a2 a3 a4 a5 a6 a7 a8 a9 a10) Q) : ∀ (n : Nat) (a1 : A1) (a2 : A2) (a3 : A3) (a4 : A4) (a5 : A5) (a6 : A6) (a7 : A7) (a8 : A8) (a9 : A9) (a10 : A10), P a1 a2 a3 a4 a5 a6 a7 a8 a9 a10 → μ a1 a2 a3 a4 a5 a6 a7 a8 a9 a10 < n → zHT (zlp10 F n a1 a2 a3 a4 a5 a6 a7 a8 a9 a10) Q := by
  intro n
  induction n with
  | zero => intro a1 a2 a3 a4 a5 a6 a7 a8 a9 a10 h1 h2; exact absurd h2 (Nat.not_lt_zero _)
  | succ n ih =>
    intro a1 a2 a3 a4 a5 a6 a7 a8 a9 a10 h1 h2
    exact hs (zlp10 F n) a1 a2 a3 a4 a5 a6 a7 a8 a9 a10 h1 (fun b1 b2 b3 b4 b5 b6 b7 b8 b9 b10 h3 h4 => ih b1 b2 b3 b4 b5 b6 b7 b8 b9 b10 h3 (by omega))
theorem zHT_lp11 {A1 A2 A3 A4 A5 A6 A7 A8 A9 A10 A11 β : Type} {F : (A1 → A2 → A3 → A4 → A5 → A6 → A7 → A8 → A9 → A10 → A11 → Option β) → A1 → A2 → A3 → A4 → A5 → A6 → A7 → A8 → A9 → A10 → A11 → Option β} {Q : β → Prop} (P : A1 → A2 → A3 → A4 → A5 → A6 → A7 → A8 → A9 → A10 → A11 → Prop) (μ : A1 → A2 → A3 → A4 → A5 → A6 → A7 → A8 → A9 → A10 → A11 → Nat) (hs : ∀ (k : A1 → A2 → A3 → A4 → A5 → A6 → A7 → A8 → A9 → A10 → A11 → Option β) (a1 : A1) (a2 : A2) (a3 : A3) (a4 : A4) (a5 : A5) (a6 : A6) (a7 : A7) (a8 : A8) (a9 : A9) (a10 : A10) (a11 : A11), P a1 a2 a3 a4 a5 a6 a7 a8 a9 a10 a11 → (∀ (b1 : A1) (b2 : A2) (b3 : A3) (b4 : A4) (b5 : A5) (b6 : A6) (b7 : A7) (b8 : A8) (b9 : A9) (b10 : A10) (b11 : A11), P b1 b2 b3 b4 b5 b6 b7 b8 b9 b10 b11 → μ b1 b2 b3 b4 b5 b6 b7 b8 b9 b10 b11 < μ a1 a2 a3 a4 a5 a6 a7 a8 a9 a10 a11 → zHT (k b1 b2 b3 b4 b5 b6 b7 b8 b9 b10 b11) Q) → zHT (F k a1 a2 a3 a4 a5 a6 a7 a8 a9 a10 a11) Q) : ∀ (n : Nat) (a1 : A1) (a2 : A2) (a3 : A3) (a4 : A4) (a5 : A5) (a6 : A6) (a7 : A7) (a8 : A8) (a9 : A9) (a10 : A10) (a11 : A11), P a1 a2 a3 a4 a5 a6 a7 a8 a9 a10 a11 → μ a1 a2 a3 a4 a5 a6 a7 a8 a9 a10 a11 < n → zHT (zlp11 F n a1 a2 a3 a4 a5 a6 a7 a8 a9 a10 a11) Q := by
  intro n
  induction n with
  | zero => intro a1 a2 a3 a4 a5 a6 a7 a8 a9 a10 a11 h1 h2; exact absurd h2 (Nat.not_lt_zero _)
  | succ n ih =>
    intro a1 a2 a3 a4 a5 a6 a7 a8 a9 a10 a11 h1 h2
    exact hs (zlp11 F n) a1 a2 a3 a4 a5 a6 a7 a8 a9 a10 a11 h1 (fun b1 b2 b3 b4 b5 b6 b7 b8 b9 b10 b11 h3 h4 => ih b1 b2 b3 b4 b5 b6 b7 b8 b9 b10 b11 h3 (by omega))
theorem zHT_lp12 {A1 A2 A3 A4 A5 A6 A7 A8 A9 A10 A11 A12 β : Type} {F : (A1 → A2 → A3 → A4 → A5 → A6 → A7 → A8 → A9 → A10 → A11 → A12 → Option β) → A1 → A2 → A3 → A4 → A5 → A6 → A7 → A8 → A9 → A10 → A11 → A12 → Option β} {Q : β → Prop} (P : A1 → A2 → A3 → A4 → A5 → A6 → A7 → A8 → A9 → A10 → A11 → A12 → Prop) (μ : A1 → A2 → A3 → A4 → A5 → A6 → A7 → A8 → A9 → A10 → A11 → A12 → Nat) (hs : ∀ (k : A1 → A2 → A3 → A4 → A5 → A6 → A7 → A8 → A9 → A10 → A11 → A12 → Option β) (a1 : A1) (a2 : A2) (a3 : A3) (a4 : A4) (a5 : A5) (a6 : A6) (a7 : A7) (a8 : A8) (a9 : A9) (a10 : A10) (a11 : A11) (a12 : A12), P a1 a2 a3 a4 a5 a6 a7 a8 a9 a10 a11 a12 → (∀ (b1 : A1) (b2 : A2) (b3 : A3) (b4 : A4) (b5 : A5) (b6 : A6) (b7 : A7) (b8 : A8) (b9 : A9) (b10 : A10) (b11 : A11) (b12 : A12), P b1 b2 b3 b4 b5 b6 b7 b8 b9 b10 b11 b12 → μ b1 b2 b3 b4 b5 b6 b7 b8 b9 b10 b11 b12 < μ a1 a2 a3 a4 a5 a6 a7 a8 a9 a10 a11 a12 → zHT (k b1 b2 b3 b4 b5 b6 b7 b8 b9 b10 b11 b12) Q) → zHT (F k a1 a2 a3 a4 a5 a6 a7 a8 a9 a10 a11 a12) Q) : ∀ (n : Nat) (a1 : A1) (a2 : A2) (a3 : A3) (a4 : A4) (a5 : A5) (a6 : A6) (a7 : A7) (a8 : A8) (a9 : A9) (a10 : A10) (a11 : A11) (a12 : A12), P a1 a2 a3 a4 a5 a6 a7 a8 a9 a10 a11 a12 → μ a1 a2 a3 a4 a5 a6 a7 a8 a9 a10 a11 a12 < n → zHT (zlp12 F n a1 a2 a3 a4 a5 a6 a7 a8 a9 a10 a11 a12) Q := by
  intro n
  induction n with
  | zero => intro a1 a2 a3 a4 a5 a6 a7 a8 a9 a10 a11 a12 h1 h2; exact absurd h2 (Nat.not_lt_zero _)
  | succ n ih =>
    intro a1 a2 a3 a4 a5 a6 a7 a8 a9 a10 a11 a12 h1 h2
    exact hs (zlp12 F n) a1 a2 a3 a4 a5 a6 a7 a8 a9 a10 a11 a12 h1 (fun b1 b2 b3 b4 b5 b6 b7 b8 b9 b10 b11 b12 h3 h4 => ih b1 b2 b3 b4 b5 b6 b7 b8 b9 b10 b11 b12 h3 (by omega))
