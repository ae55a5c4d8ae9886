/-! what is asked for: nets of notes, devices -/
noncomputable def gN (D : Nat → Nat → Nat) (x : Int32) : Int32 := if x = -1 then -1 else nI (gn D x.toNatClampNeg)
def NT (D : Nat → Nat → Nat) (I : zI) : Prop := ∀ t w q, nI t < I 26 0 → t < 40 → I 27 t = nI w → w < 8 → I 28 t = nI q → q < 4096 → I 30 t = if w < D 0 1 then gN D (nod D w q) else -1
theorem e_netOf {D : Nat → Nat → Nat} {I : zI} {x : Int32} (hv : DV D) (hN : NW D I) (h : x = -1 ∨ ∃ m, m < ndn D ∧ x = nI m) : f_X3_netOf x I = some (gN D x) := by
  unfold f_X3_netOf f_X3_netOf_15 gN
  rcases h with rfl | ⟨m, m1, rfl⟩
  · rw [if_pos rfl, if_pos rfl]
  · have := ndn_le hv
    rw [if_neg (nI_m1 (by omega)), if_neg (nI_m1 (by omega)), zck_t _ (zbd_nI (by omega) (by decide)), nI_clamp (by omega), hN.2.1 m m1]
theorem fnt_2 {P : Nat} {D : Nat → Nat → Nat} {n : Nat} {I0 : zI} (hv : DV D) (hN : NW D I0) (hP : I0 P 13 = nI (D 0 1)) (hP3 : P ≠ 30) (hn : n ≤ 40) (h0 : I0 26 0 = nI n) (hw : ∀ t, t < n → (∃ w, w < 8 ∧ I0 27 t = nI w) ∧ (∃ q, q < 4096 ∧ I0 28 t = nI q)) : ∀ r t I f, t + r = n → r < f → (∀ p, p ≠ 30 → I p = I0 p) → (∀ s w q, s < t → I0 27 s = nI w → w < 8 → I0 28 s = nI q → q < 4096 → I 30 s = if w < D 0 1 then gN D (nod D w q) else -1) → ∃ I', zlp2 (f_X4_findNets_2 P) f (nI t) I = some I' ∧ (∀ p, p ≠ 30 → I' p = I0 p) ∧ ∀ s w q, s < n → I0 27 s = nI w → w < 8 → I0 28 s = nI q → q < 4096 → I' 30 s = if w < D 0 1 then gN D (nod D w q) else -1
  | _, _, _, 0, _, h, _, _ => absurd h (by omega)
  | 0, t, I, f + 1, ht, _, h1, h2 => by
    have : t = n := by omega
    subst this
    refine ⟨I, ?_, h1, h2⟩
    show f_X4_findNets_2 P _ (nI t) I = _
    unfold f_X4_findNets_2
    rw [h1 26 (by decide), h0, if_pos (Int32.le_refl _)]
  | r + 1, t, I, f + 1, ht, hf, h1, h2 => by
    have ih := fun I => fnt_2 hv hN hP hP3 hn h0 hw r (t + 1) I f (by omega) (by omega)
    have e1 : zlp2 (f_X4_findNets_2 P) (f + 1) (nI t) I = f_X4_findNets_2 P (zlp2 (f_X4_findNets_2 P) f) (nI t) I := rfl
    rw [e1]
    generalize zlp2 (f_X4_findNets_2 P) f = k1 at ih ⊢
    obtain ⟨⟨w, w1, w2⟩, ⟨q, q1, q2⟩⟩ := hw t (by omega)
    have hb : zbd (nI t) 40 = true := zbd_nI (by omega) (by decide)
    have hcl : (nI t).toNatClampNeg = t := nI_clamp (by omega)
    have v2 := hv.1.2.1
    have fin : ∀ v : Int32, v = (if w < D 0 1 then gN D (nod D w q) else -1) → ∃ I', f_X4_findNets_60 k1 P (nI t) (nI t) v I = some I' ∧ (∀ p, p ≠ 30 → I' p = I0 p) ∧ ∀ s w q, s < n → I0 27 s = nI w → w < 8 → I0 28 s = nI q → q < 4096 → I' 30 s = if w < D 0 1 then gN D (nod D w q) else -1 := by
      intro v hvv
      unfold f_X4_findNets_60
      rw [zck_t _ hb, hcl, zlt_b, zlt_b, nI_1]
      refine ih _ (fun p hp => by rw [zu_pf _ _ hp]; exact h1 p hp) (fun s w' q' hs a1 a2 a3 a4 => ?_)
      by_cases z : s = t
      · subst z
        rw [w2] at a1; rw [q2] at a3
        have := (nI_eq (by omega) (by omega)).mp a1; subst this
        have := (nI_eq (by omega) (by omega)).mp a3; subst this
        rw [zu_eq]; exact hvv
      · rw [zu_k _ _ z]; exact h2 s w' q' (by omega) a1 a2 a3 a4
    unfold f_X4_findNets_2 f_X4_findNets_28
    rw [h1 26 (by decide), h0, if_neg (nI_ge (by omega) (by omega)), zck_t _ hb, hcl, h1 27 (by decide), w2, h1 P hP3, hP]
    by_cases z : w < D 0 1
    · rw [if_neg (nI_ge (by omega) (by omega)), if_neg n10, zck_t _ hb, zck_t _ hb, h1 28 (by decide), q2]
      have ea : f_X3_netAt (nI w) (nI q) I = some (gN D (nod D w q)) := by
        unfold f_X3_netAt
        rw [zck_t _ (zbd_nI (by omega) (by decide)), zck_t _ (zbd_nI (by omega) (by decide)), nI_clamp (by omega), nI_clamp (by omega), h1 (63 + w) (by omega), hN.1 w q z q1, e_netOf hv (show NW D I from ⟨fun w q hw hq => by rw [h1 (63 + w) (by omega)]; exact hN.1 w q hw hq, by rw [h1 72 (by decide)]; exact hN.2.1, by rw [h1 61 (by decide)]; exact hN.2.2⟩) (nod_or z q), zb1_b]
      rw [ea, zb1_b]
      exact fin _ (by rw [if_pos z])
    · rw [if_pos (nI_le (by omega) (by omega)), if_pos rfl]
      exact fin _ (by rw [if_neg z])
theorem c_fnets {P : Nat} {D : Nat → Nat → Nat} {I : zI} (hP3 : P ≠ 30) (hv : DV D) (hN : NW D I) (hd : DC P D I) (hn : RNotes I) : ∃ I', f_X4_findNets P I = some I' ∧ (∀ p, p ≠ 30 → I' p = I p) ∧ NT D I' := by
  obtain ⟨n, n1, n2, -, n4⟩ := hn
  obtain ⟨I', a1, a2, a3⟩ := fnt_2 (P := P) (D := D) (n := n) (I0 := I) hv hN (hd.1 1 (by omega)) hP3 n1 n2 (fun t ht => by
    obtain ⟨⟨w, w1, w2, -⟩, ⟨q, q1, q2, -⟩, -⟩ := n4 t ht
    exact ⟨⟨w, w1, w2⟩, q, q1, q2⟩) n 0 I zF (by omega) (zF_lt (by omega)) (fun _ _ => rfl) (fun s _ _ h => absurd h (by omega))
  refine ⟨I', a1, a2, fun t w q h1 h2 h3 h4 h5 h6 => ?_⟩
  rw [a2 26 (by decide), n2] at h1
  rw [a2 27 (by decide)] at h3
  rw [a2 28 (by decide)] at h5
  exact a3 t w q ((nI_ltI (by omega) (by omega)).mp h1) h3 h4 h5 h6
/-- squares of a place; squares that are its own or beside it -/
def PlSq (D : Nat → Nat → Nat) (l pl q : Nat) : Prop := SqS D l q ∧ shf D l q = pl
def Hal (A : Nat → Prop) (b : Nat) : Prop := A b ∨ ∃ w, w < 4 ∧ A (bsd b w)
def tch (D : Nat → Nat → Nat) (A : Nat → Prop) (w x : Nat) : Prop := x < ndn D ∧ ∃ b, b < 4096 ∧ Hal A b ∧ nod D w b = nI x
def lFr (T : Nat → Prop) (pn : Nat → Int32) (i : Nat) (v : Int32) : Prop := (v = -1 ∧ ∀ x, T x → ∃ j, j < i ∧ pn j = nI x) ∨ ∃ x, v = nI x ∧ T x ∧ (∀ j, j < i → pn j ≠ nI x) ∧ ∀ y, T y → (∀ j, j < i → pn j ≠ nI y) → x ≤ y
def PinS (D : Nat → Nat → Nat) (A : Nat → Prop) (k : Nat) (pn : Nat → Int32) : Prop := ∀ i, i < D 9 k → lFr (tch D A (D 10 (4 * k + i))) pn i (pn i)
def BadS (D : Nat → Nat → Nat) (A : Nat → Prop) (k : Nat) (pn : Nat → Int32) : Prop := ∃ i, i < D 9 k ∧ (pn i = -1 ∨ ∃ x, tch D A (D 10 (4 * k + i)) x ∧ ∀ j, j < D 9 k → pn j ≠ nI x)
theorem LF_u {T : Nat → Prop} {pn pm : Nat → Int32} {i N : Nat} {v u : Int32} (hN : N < 2 ^ 31) (hT : ∀ x, T x → x < N) (e : ∀ j, j < i → pn j = pm j) (h : lFr T pn i v) (g : lFr T pm i u) : v = u := by
  rcases h with ⟨rfl, h⟩ | ⟨x, rfl, x1, x2, x3⟩
  · rcases g with ⟨rfl, g⟩ | ⟨y, rfl, y1, y2, y3⟩
    · rfl
    · obtain ⟨j, j1, j2⟩ := h y y1
      exact absurd (by rw [← e j j1]; exact j2) (y2 j j1)
  · rcases g with ⟨rfl, g⟩ | ⟨y, rfl, y1, y2, y3⟩
    · obtain ⟨j, j1, j2⟩ := g x x1
      exact absurd (by rw [e j j1]; exact j2) (x2 j j1)
    · have a := x3 y y1 (fun j hj => by rw [e j hj]; exact y2 j hj)
      have b := y3 x x1 (fun j hj => by rw [← e j hj]; exact x2 j hj)
      have : x = y := by omega
      rw [this]
theorem PinS_u {D : Nat → Nat → Nat} {A : Nat → Prop} {k : Nat} {pn pm : Nat → Int32} (hv : DV D) (h : PinS D A k pn) (g : PinS D A k pm) : ∀ i, i < D 9 k → pn i = pm i := by
  intro i
  induction i using Nat.strongRecOn with
  | ind i ih =>
    intro hi
    exact LF_u (N := ndn D) (by have := ndn_le hv; omega) (fun x hx => hx.1) (fun j hj => ih j hj (by omega)) (h i hi) (g i hi)
theorem BadS_cg {D : Nat → Nat → Nat} {A : Nat → Prop} {k : Nat} {pn pm : Nat → Int32} (e : ∀ i, i < D 9 k → pn i = pm i) : BadS D A k pn ↔ BadS D A k pm := by
  constructor
  · rintro ⟨i, i1, h | ⟨x, x1, x2⟩⟩
    · exact ⟨i, i1, Or.inl (by rw [← e i i1]; exact h)⟩
    · exact ⟨i, i1, Or.inr ⟨x, x1, fun j hj => by rw [← e j hj]; exact x2 j hj⟩⟩
  · rintro ⟨i, i1, h | ⟨x, x1, x2⟩⟩
    · exact ⟨i, i1, Or.inl (by rw [e i i1]; exact h)⟩
    · exact ⟨i, i1, Or.inr ⟨x, x1, fun j hj => by rw [e j hj]; exact x2 j hj⟩⟩
theorem LF_or {T : Nat → Prop} {pn : Nat → Int32} {i N : Nat} {v : Int32} (hT : ∀ x, T x → x < N) (h : lFr T pn i v) : v = -1 ∨ ∃ x, x < N ∧ v = nI x := by
  rcases h with ⟨rfl, _⟩ | ⟨x, rfl, x1, _⟩
  · exact Or.inl rfl
  · exact Or.inr ⟨x, hT x x1, rfl⟩
theorem LF_cg {T T' : Nat → Prop} {pn pm : Nat → Int32} {i : Nat} {v : Int32} (h : lFr T pn i v) (e : ∀ x, T x ↔ T' x) (e2 : ∀ j, j < i → pm j = pn j) : lFr T' pm i v := by
  rcases h with ⟨rfl, h⟩ | ⟨x, rfl, x1, x2, x3⟩
  · exact Or.inl ⟨rfl, fun x hx => by
      obtain ⟨j, j1, j2⟩ := h x ((e x).mpr hx)
      exact ⟨j, j1, by rw [e2 j j1]; exact j2⟩⟩
  · exact Or.inr ⟨x, rfl, (e x).mp x1, fun j hj => by rw [e2 j hj]; exact x2 j hj, fun y hy h => x3 y ((e y).mpr hy) (fun j hj => by rw [← e2 j hj]; exact h j hj)⟩
/-- one node more -/
theorem LF_add {T : Nat → Prop} {pn : Nat → Int32} {i N n : Nat} {v : Int32} (hN : N < 2 ^ 31) (hT : ∀ x, T x → x < N) (hn : n < N) (h : lFr T pn i v) :
    ((v = -1 ∨ nI n < v) → (∀ j, j < i → pn j ≠ nI n) → lFr (fun x => T x ∨ x = n) pn i (nI n)) ∧ (((v ≠ -1 ∧ v ≤ nI n) ∨ ∃ j, j < i ∧ pn j = nI n) → lFr (fun x => T x ∨ x = n) pn i v) := by
  constructor
  · intro hv hf
    refine Or.inr ⟨n, rfl, Or.inr rfl, hf, fun y hy hy2 => ?_⟩
    rcases hy with hy | rfl
    · rcases h with ⟨rfl, h⟩ | ⟨x, rfl, x1, x2, x3⟩
      · obtain ⟨j, j1, j2⟩ := h y hy
        exact absurd j2 (hy2 j j1)
      · have a := x3 y hy hy2
        have b := hT x x1
        rcases hv with hv | hv
        · exact absurd hv (nI_m1 (by omega))
        · have := (nI_ltI (by omega) (by omega)).mp hv; omega
    · exact Nat.le_refl _
  · intro hv
    rcases h with ⟨rfl, h⟩ | ⟨x, rfl, x1, x2, x3⟩
    · rcases hv with ⟨hv, -⟩ | ⟨j, j1, j2⟩
      · exact absurd rfl hv
      · refine Or.inl ⟨rfl, fun y hy => ?_⟩
        rcases hy with hy | rfl
        · exact h y hy
        · exact ⟨j, j1, j2⟩
    · refine Or.inr ⟨x, rfl, Or.inl x1, x2, fun y hy hy2 => ?_⟩
      rcases hy with hy | rfl
      · exact x3 y hy hy2
      · have b := hT x x1
        rcases hv with ⟨-, hv⟩ | ⟨j, j1, j2⟩
        · exact (nI_leI (by omega) (by omega)).mp hv
        · exact absurd j2 (hy2 j j1)
/-- sums -/
def smm (f : Nat → Nat) : Nat → Nat
  | 0 => 0
  | n + 1 => smm f n + f n
noncomputable def ivp (p : Prop) : Nat := @ite _ p (Classical.propDecidable _) 1 0
theorem iv_t {p : Prop} (h : p) : ivp p = 1 := if_pos h
theorem iv_f {p : Prop} (h : ¬ p) : ivp p = 0 := if_neg h
theorem iv_le (p : Prop) : ivp p ≤ 1 := by
  by_cases h : p
  · rw [iv_t h]; exact Nat.le_refl _
  · rw [iv_f h]; omega
theorem iv_cg {p q : Prop} (h : p ↔ q) : ivp p = ivp q := by rw [propext h]
theorem iv_or {p q : Prop} (h : ¬ (p ∧ q)) : ivp (p ∨ q) = ivp p + ivp q := by
  by_cases a : p <;> by_cases b : q
  · exact absurd ⟨a, b⟩ h
  · rw [iv_t (Or.inl a), iv_t a, iv_f b]
  · rw [iv_t (Or.inr b), iv_f a, iv_t b]
  · rw [iv_f (fun w => w.elim a b), iv_f a, iv_f b]
theorem sm_cg {f g : Nat → Nat} : ∀ n, (∀ i, i < n → f i = g i) → smm f n = smm g n
  | 0, _ => rfl
  | n + 1, h => by
    show smm f n + f n = smm g n + g n
    rw [sm_cg n (fun i hi => h i (by omega)), h n (by omega)]
theorem sm_0 {f : Nat → Nat} : ∀ n, (∀ i, i < n → f i = 0) → smm f n = 0
  | 0, _ => rfl
  | n + 1, h => by
    show smm f n + f n = 0
    rw [sm_0 n (fun i hi => h i (by omega)), h n (by omega)]
theorem sm_le {f : Nat → Nat} {c : Nat} (h : ∀ i, f i ≤ c) : ∀ n, smm f n ≤ c * n
  | 0 => Nat.le_refl _
  | n + 1 => by
    have := sm_le h n
    have := h n
    show smm f n + f n ≤ _
    rw [Nat.mul_succ]; omega
theorem sm_app (f : Nat → Nat) (a : Nat) : ∀ b, smm f (a + b) = smm f a + smm (fun x => f (a + x)) b
  | 0 => rfl
  | b + 1 => by
    have := sm_app f a b
    show smm f (a + b) + f (a + b) = smm f a + (smm (fun x => f (a + x)) b + f (a + b))
    omega
theorem sm_add (f g : Nat → Nat) : ∀ n, smm (fun x => f x + g x) n = smm f n + smm g n
  | 0 => rfl
  | n + 1 => by
    have := sm_add f g n
    show smm (fun x => f x + g x) n + (f n + g n) = smm f n + f n + (smm g n + g n)
    omega
theorem sm_one {a : Nat} {p : Prop} : ∀ n, smm (fun x => ivp (x = a ∧ p)) n = if a < n then ivp p else 0
  | 0 => by rw [if_neg (by omega)]; rfl
  | n + 1 => by
    show smm _ n + ivp (n = a ∧ p) = _
    rw [sm_one n]
    by_cases h : n = a
    · subst h
      rw [if_neg (by omega), if_pos (by omega), Nat.zero_add]
      exact iv_cg ⟨fun w => w.2, fun w => ⟨rfl, w⟩⟩
    · rw [iv_f (p := n = a ∧ p) (fun w => h w.1)]
      by_cases g : a < n
      · rw [if_pos g, if_pos (by omega)]; rfl
      · rw [if_neg g, if_neg (by omega)]
/-- a sum that is moved by d -/
theorem sm_mv {f g : Nat → Nat} {d : Nat} (h0 : ∀ i, i < d → g i = 0) (h : ∀ i, g (i + d) = f i) (N : Nat) (hz : ∀ i, N ≤ i → g i = 0) : smm f N = smm g N := by
  have a : ∀ n, smm g (d + n) = smm f n := by
    intro n
    rw [sm_app, sm_0 d h0, Nat.zero_add]
    exact sm_cg n (fun i _ => by rw [Nat.add_comm]; exact h i)
  have b : smm g (N + d) = smm g N := by
    rw [sm_app, sm_0 d (fun i _ => hz _ (by omega))]; rfl
  rw [← b, Nat.add_comm, a]
noncomputable def wy4 (p : Nat → Prop) : Nat := ivp (p 0) + ivp (p 1) + ivp (p 2) + ivp (p 3)
theorem w4_le (p : Nat → Prop) : wy4 p ≤ 4 := by have := iv_le (p 0); have := iv_le (p 1); have := iv_le (p 2); have := iv_le (p 3); unfold wy4; omega
theorem w4_cg {p q : Nat → Prop} (h : ∀ w, w < 4 → (p w ↔ q w)) : wy4 p = wy4 q := by
  unfold wy4; rw [iv_cg (h 0 (by omega)), iv_cg (h 1 (by omega)), iv_cg (h 2 (by omega)), iv_cg (h 3 (by omega))]
noncomputable def sz0 (A : Nat → Prop) : Nat := smm (fun s => ivp (A s)) 4096
noncomputable def sz1 (A : Nat → Prop) : Nat := smm (fun s => wy4 (fun w => A s ∧ ¬ A (bsd s w))) 4096
noncomputable def sz2 (A Q : Nat → Prop) : Nat := smm (fun s => wy4 (fun w => A s ∧ Q (bsd s w))) 4096
theorem sz2_s {A Q : Nat → Prop} (hA : ∀ q, A q → q < 4096) (hQ : ∀ q, Q q → q < 4096) : sz2 A Q = sz2 Q A := by
  have h4 : ∀ {B : Nat → Prop}, (∀ q, B q → q < 4096) → ¬ B 4096 := fun h w => absurd (h _ w) (by omega)
  have e1 : ∀ {A Q : Nat → Prop}, (∀ q, A q → q < 4096) → (∀ q, Q q → q < 4096) → smm (fun s => ivp (A s ∧ Q (bsd s 0))) 4096 = smm (fun s => ivp (Q s ∧ A (bsd s 1))) 4096 := by
    intro A Q hA hQ
    refine sm_mv (d := 1) (fun i hi => iv_f ?_) (fun i => iv_cg ?_) 4096 (fun i hi => iv_f ?_)
    · have : i = 0 := by omega
      subst this
      rw [bsd_1, if_pos (by omega)]; exact fun w => h4 hA w.2
    · rw [bsd_1, bsd_0]
      by_cases z : i % 64 = 63
      · rw [if_pos (by omega), if_pos z]; exact ⟨fun w => absurd w.2 (h4 hA), fun w => absurd w.2 (h4 hQ)⟩
      · rw [if_neg (by omega), if_neg z]; exact ⟨fun w => ⟨w.2, w.1⟩, fun w => ⟨w.2, w.1⟩⟩
    · exact fun w => absurd (hQ _ w.1) (by omega)
  have e2 : ∀ {A Q : Nat → Prop}, (∀ q, A q → q < 4096) → (∀ q, Q q → q < 4096) → smm (fun s => ivp (A s ∧ Q (bsd s 2))) 4096 = smm (fun s => ivp (Q s ∧ A (bsd s 3))) 4096 := by
    intro A Q hA hQ
    refine sm_mv (d := 64) (fun i hi => iv_f ?_) (fun i => iv_cg ?_) 4096 (fun i hi => iv_f ?_)
    · rw [bsd_3, if_pos (by omega)]; exact fun w => h4 hA w.2
    · rw [bsd_3, bsd_2]
      rw [if_neg (by omega), Nat.add_sub_cancel]
      by_cases z : i / 64 = 63
      · rw [if_pos z]
        exact ⟨fun w => absurd (hQ _ w.1) (by omega), fun w => absurd w.2 (h4 hQ)⟩
      · rw [if_neg z]; exact ⟨fun w => ⟨w.2, w.1⟩, fun w => ⟨w.2, w.1⟩⟩
    · exact fun w => absurd (hQ _ w.1) (by omega)
  have sp : ∀ A Q : Nat → Prop, sz2 A Q = smm (fun s => ivp (A s ∧ Q (bsd s 0))) 4096 + smm (fun s => ivp (A s ∧ Q (bsd s 1))) 4096 + smm (fun s => ivp (A s ∧ Q (bsd s 2))) 4096 + smm (fun s => ivp (A s ∧ Q (bsd s 3))) 4096 := by
    intro A Q
    rw [← sm_add, ← sm_add, ← sm_add]; rfl
  rw [sp A Q, sp Q A, e1 hA hQ, ← e1 hQ hA, e2 hA hQ, ← e2 hQ hA]; omega
