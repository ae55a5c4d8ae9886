/-! what is asked for, out of the numbers D -/
noncomputable def cfn (S : Nat → Prop) (R : Nat → Nat → Prop) (q : Nat) : Nat := Classical.epsilon (fun v => ∃ f k, cls S R f k ∧ v = f q)
noncomputable def ck (S : Nat → Prop) (R : Nat → Nat → Prop) : Nat := Classical.epsilon (fun v => ∃ f, cls S R f v)
theorem cf_eq {S : Nat → Prop} {R : Nat → Nat → Prop} {f : Nat → Nat} {k q : Nat} (h : cls S R f k) (hq : S q) : cfn S R q = f q := by
  have := Classical.epsilon_spec (p := fun v => ∃ f k, cls S R f k ∧ v = f q) ⟨f q, f, k, h, rfl⟩
  obtain ⟨f', k', h1, h2⟩ := this
  have e := cls_u h1 h (f' q) q hq rfl
  unfold cfn; rw [h2, e]
theorem ck_eq {S : Nat → Prop} {R : Nat → Nat → Prop} {f : Nat → Nat} {k : Nat} (h : cls S R f k) : ck S R = k := by
  obtain ⟨f', h1⟩ := Classical.epsilon_spec (p := fun v => ∃ f, cls S R f v) ⟨k, f, h⟩
  exact cls_k h1 h
theorem cf_cls {S : Nat → Prop} {R : Nat → Nat → Prop} {f : Nat → Nat} {k : Nat} (h : cls S R f k) : cls S R (cfn S R) (ck S R) := by
  rw [ck_eq h]; exact cls_cg h (fun q hq => cf_eq h hq) (fun _ _ _ _ => Iff.rfl)
theorem cls_ex {S : Nat → Prop} {R : Nat → Nat → Prop} (hr : ∀ a, R a a) (hs : ∀ a b, R a b → R b a) (ht : ∀ a b c, R a b → R b c → R a c) : ∀ N, ∃ f k, cls (fun q => S q ∧ q < N) R f k
  | 0 => ⟨fun _ => 0, 0, cls_0 (fun q h => absurd h.2 (by omega))⟩
  | N + 1 => by
    obtain ⟨f, k, h⟩ := cls_ex (S := S) hr hs ht N
    by_cases z : S N
    · by_cases y : ∃ a, S a ∧ a < N ∧ R a N
      · obtain ⟨a, a1, a2, a3⟩ := y
        have gv : ∀ i, i ≠ N → fadd (fun q => q = N) (f a) f i = f i := fun i hi => fadd_f hi
        have gvv : fadd (fun q => q = N) (f a) f N = f a := fadd_t rfl
        have key : ∀ x, S x ∧ x < N + 1 → ∃ w, (S w ∧ w < N) ∧ R w x ∧ fadd (fun q => q = N) (f a) f x = f w := fun x hx => by
          by_cases w : x = N
          · subst w; exact ⟨a, ⟨a1, a2⟩, a3, gvv⟩
          · exact ⟨x, ⟨hx.1, by omega⟩, hr _, gv x w⟩
        refine ⟨fadd (fun q => q = N) (f a) f, k, fun q hq => ?_, fun x y hx hy => ?_, fun n hn => ?_, fun n b hb hlt => ?_⟩
        · obtain ⟨w, w1, w2, w3⟩ := key q hq
          rw [w3]; exact h.1 w w1
        · obtain ⟨w, w1, w2, w3⟩ := key x hx
          obtain ⟨u, u1, u2, u3⟩ := key y hy
          rw [w3, u3, h.2.1 w u w1 u1]
          exact ⟨fun q => ht _ _ _ (hs _ _ w2) (ht _ _ _ q u2), fun q => ht _ _ _ w2 (ht _ _ _ q (hs _ _ u2))⟩
        · obtain ⟨q, q1, q2⟩ := h.2.2.1 n hn
          exact ⟨q, ⟨q1.1, by omega⟩, by rw [gv q (by omega)]; exact q2⟩
        · by_cases w : b = N
          · rw [w, gvv] at hlt
            obtain ⟨c, c1, c2, c3⟩ := h.2.2.2 n a ⟨a1, a2⟩ hlt
            exact ⟨c, ⟨c1.1, by omega⟩, by omega, by rw [gv c (by omega)]; exact c3⟩
          · rw [gv b w] at hlt
            obtain ⟨c, c1, c2, c3⟩ := h.2.2.2 n b ⟨hb.1, by have := hb.2; omega⟩ hlt
            exact ⟨c, ⟨c1.1, by have := hb.2; omega⟩, c2, by rw [gv c (by have := hb.2; omega)]; exact c3⟩
      · refine ⟨_, k + 1, cls_cS (cls_add (C := fun q => q = N) (s := N) h rfl (fun a b ha hb => by rw [ha, hb]; exact hr _) (fun a b ha hb => by rw [hb]; exact ⟨fun w => y ⟨a, ha.1, ha.2, w⟩, fun w => y ⟨a, ha.1, ha.2, hs _ _ w⟩⟩) (fun x hx => ?_)) (fun q => ⟨fun w => ?_, fun w => ?_⟩)⟩
        · obtain ⟨q, q1, q2⟩ := h.2.2.1 x hx
          exact ⟨q, q1, q2, fun b hb => by rw [hb]; exact q1.2⟩
        · rcases w with w | w
          · exact ⟨w.1, by omega⟩
          · subst w; exact ⟨z, by omega⟩
        · by_cases u : q = N
          · exact Or.inr u
          · exact Or.inl ⟨w.1, by omega⟩
    · exact ⟨f, k, cls_cS h (fun q => ⟨fun w => ⟨w.1, by omega⟩, fun w => ⟨w.1, by
        by_cases u : q = N
        · subst u; exact absurd w.1 z
        · omega⟩⟩)⟩
theorem cls_clo {S : Nat → Prop} {B : Nat → Nat → Prop} {N : Nat} (h : ∀ q, S q → q < N) : cls S (clo B) (cfn S (clo B)) (ck S (clo B)) := by
  obtain ⟨f, k, hc⟩ := cls_ex (S := S) (clo_r B) (fun _ _ => clo_s) (fun _ _ _ => clo_t) N
  exact cf_cls (cls_cS hc (fun q => ⟨fun w => w.1, fun w => ⟨w, h q w⟩⟩))
/-- squares of a layer -/
def SqS (D : Nat → Nat → Nat) (l q : Nat) : Prop := q < 4096 ∧ ∃ H, HS D H ∧ H l q
noncomputable def shf (D : Nat → Nat → Nat) (l : Nat) : Nat → Nat := cfn (SqS D l) (clo (bes (SqS D l)))
noncomputable def shk (D : Nat → Nat → Nat) (l : Nat) : Nat := ck (SqS D l) (clo (bes (SqS D l)))
/-- the first node of a wire -/
noncomputable def fw (D : Nat → Nat → Nat) : Nat → Nat
  | 0 => 0
  | w + 1 => fw D w + shk D (D 4 w)
noncomputable def nod (D : Nat → Nat → Nat) (w q : Nat) : Int32 := @ite _ (SqS D (D 4 w) q) (Classical.propDecidable _) (nI (fw D w + shf D (D 4 w) q)) (-1)
noncomputable def ndn (D : Nat → Nat → Nat) : Nat := fw D (D 0 1)
def TT (D : Nat → Nat → Nat) (J a b : Nat) : Prop := ∃ j, j < J ∧ TB (SqS D (D 7 j)) (SqS D (D 7 j)) (nod D (D 5 j)) (nod D (D 6 j)) (ndn D) a b
noncomputable def gn (D : Nat → Nat → Nat) : Nat → Nat := cfn (fun q => q < ndn D) (clo (TT D (D 0 2)))
noncomputable def nns (D : Nat → Nat → Nat) : Nat := ck (fun q => q < ndn D) (clo (TT D (D 0 2)))
theorem SS_4 {D : Nat → Nat → Nat} {l q : Nat} (h : SqS D l q) : q < 4096 := h.1
theorem SS_eq {D : Nat → Nat → Nat} {H : Nat → Nat → Prop} {l : Nat} (hv : DV D) (h : HS D H) (hl : l < D 0 0) : SqS D l = fun q => q < 4096 ∧ H l q := by
  funext q
  exact propext ⟨fun ⟨h1, K, h2, h3⟩ => ⟨h1, (HS_u hv h2 h l q hl h1).mp h3⟩, fun ⟨h1, h2⟩ => ⟨h1, H, h, h2⟩⟩
theorem sh_cls (D : Nat → Nat → Nat) (l : Nat) : cls (SqS D l) (clo (bes (SqS D l))) (shf D l) (shk D l) := cls_clo (N := 4096) (fun q h => h.1)
theorem shk_le (D : Nat → Nat → Nat) (l : Nat) : shk D l ≤ 2048 := cls_2048 (fun q h => h.1) (sh_cls D l)
theorem gn_cls (D : Nat → Nat → Nat) : cls (fun q => q < ndn D) (clo (TT D (D 0 2))) (gn D) (nns D) := cls_clo (N := ndn D) (fun q h => h)
theorem fw_le (D : Nat → Nat → Nat) : ∀ w, fw D w ≤ 2048 * w
  | 0 => Nat.le_refl _
  | w + 1 => by have := fw_le D w; have := shk_le D (D 4 w); show fw D w + shk D (D 4 w) ≤ _; omega
theorem fw_mono (D : Nat → Nat → Nat) {a : Nat} : ∀ b, a ≤ b → fw D a ≤ fw D b
  | 0, h => by have : a = 0 := by omega
               subst this; exact Nat.le_refl _
  | b + 1, h => by
    by_cases z : a = b + 1
    · subst z; exact Nat.le_refl _
    · have := fw_mono D b (show a ≤ b by omega); show _ ≤ fw D b + shk D (D 4 b); omega
theorem nod_t {D : Nat → Nat → Nat} {w q : Nat} (h : SqS D (D 4 w) q) : nod D w q = nI (fw D w + shf D (D 4 w) q) := if_pos h
theorem nod_f {D : Nat → Nat → Nat} {w q : Nat} (h : ¬ SqS D (D 4 w) q) : nod D w q = -1 := if_neg h
theorem nod_lt {D : Nat → Nat → Nat} {w q : Nat} (hw : w < D 0 1) (h : SqS D (D 4 w) q) : fw D w + shf D (D 4 w) q < ndn D := by
  have h1 := (sh_cls D (D 4 w)).1 q h
  have h2 := fw_mono D (a := w + 1) (D 0 1) (by omega)
  have h3 : fw D (w + 1) = fw D w + shk D (D 4 w) := rfl
  unfold ndn; omega
theorem nod_or {D : Nat → Nat → Nat} {w : Nat} (hw : w < D 0 1) (q : Nat) : nod D w q = -1 ∨ ∃ x, x < ndn D ∧ nod D w q = nI x := by
  by_cases h : SqS D (D 4 w) q
  · exact Or.inr ⟨_, nod_lt hw h, nod_t h⟩
  · exact Or.inl (nod_f h)
theorem ndn_le {D : Nat → Nat → Nat} (hv : DV D) : ndn D ≤ 16384 := by
  have := fw_le D (D 0 1); have := hv.1.2.1; unfold ndn; omega
theorem nns_le (D : Nat → Nat → Nat) : nns D ≤ ndn D := by
  have h := gn_cls D
  have ch : ∀ n, ∃ q, n < nns D → (q < ndn D ∧ gn D q = n) := fun n => by
    by_cases z : n < nns D
    · obtain ⟨q, q1⟩ := h.2.2.1 n z; exact ⟨q, fun _ => q1⟩
    · exact ⟨0, fun y => absurd y z⟩
  have hr : ∀ n, n < nns D → Classical.choose (ch n) < ndn D ∧ gn D (Classical.choose (ch n)) = n := fun n => Classical.choose_spec (ch n)
  exact pigeon (ndn D) (nns D) (fun n => Classical.choose (ch n)) (fun i hi => (hr i hi).1) (fun i j hi hj e => by
    have e : Classical.choose (ch i) = Classical.choose (ch j) := e
    rw [← (hr i hi).2, ← (hr j hj).2, e])
theorem gn_lt {D : Nat → Nat → Nat} {m : Nat} (h : m < ndn D) : gn D m < nns D := (gn_cls D).1 m h
theorem DC.cg {P : Nat} {D : Nat → Nat → Nat} {I I' : zI} (hP : zpl P) (h : DC P D I) (e1 : ∀ p, 7 ≤ p → p ≤ 24 → I' p = I p) (e2 : ∀ p, 84 ≤ p → p ≤ 96 → I' p = I p) : DC P D I' := by
  have e : ∀ k, k ≤ 12 → I' (P + k) = I (P + k) := fun k hk => by
    rcases hP with rfl | rfl
    · exact e1 _ (by omega) (by omega)
    · exact e2 _ (by omega) (by omega)
  have q : ∀ k, k ≤ 11 → I' (P + 1 + k) = I (P + 1 + k) := fun k hk => by
    have := e (1 + k) (by omega)
    rw [show P + 1 + k = P + (1 + k) by omega]; exact this
  have q0 : I' P = I P := e 0 (by omega)
  unfold DC at *
  rw [q0, q 1 (by omega), q 2 (by omega), q 3 (by omega), q 4 (by omega), q 5 (by omega), q 6 (by omega), q 7 (by omega), q 9 (by omega), q 10 (by omega), q 11 (by omega), e1 20 (by omega) (by omega), e1 21 (by omega) (by omega), e1 22 (by omega) (by omega), e1 23 (by omega) (by omega), e1 24 (by omega) (by omega)]
  exact h
