/-! the class ties nodes: each node's least -/
def rt (f : Nat → Nat) : Nat → Nat → Nat
  | 0, i => i
  | n + 1, i => rt f n (f i)
theorem rt_fix {f : Nat → Nat} {i : Nat} (h : f i = i) : ∀ n, rt f n i = i
  | 0 => rfl
  | n + 1 => by show rt f n (f i) = i; rw [h]; exact rt_fix h n
theorem rt_root {f : Nat → Nat} (hf : ∀ i, f i ≤ i) : ∀ n i, i ≤ n → f (rt f n i) = rt f n i
  | 0, i, h => by show f i = i; have := hf i; omega
  | n + 1, i, h => by
    show f (rt f n (f i)) = rt f n (f i)
    by_cases z : f i = i
    · rw [z, rt_fix z, z]
    · exact rt_root hf n (f i) (by have := hf i; omega)
theorem rt_f {f : Nat → Nat} (hf : ∀ i, f i ≤ i) : ∀ n i, i ≤ n → rt f n (f i) = rt f n i
  | 0, i, h => by show f i = i; have := hf i; omega
  | n + 1, i, h => by
    show rt f n (f (f i)) = rt f n (f i)
    by_cases z : f i ≤ n
    · exact rt_f hf n (f i) z
    · have : f i = i := by have := hf i; omega
      rw [this, this]
theorem rt_le {f : Nat → Nat} (hf : ∀ i, f i ≤ i) : ∀ n i, rt f n i ≤ i
  | 0, i => Nat.le_refl _
  | n + 1, i => Nat.le_trans (rt_le hf n (f i)) (hf i)
/-- what leads to a root, leads to it -/
theorem rt_u {f : Nat → Nat} {R : Nat → Nat} {N : Nat} (hf : ∀ i, f i ≤ i) (h1 : ∀ x, x ≤ N → R (f x) = R x) (h2 : ∀ r, r ≤ N → f r = r → R r = r) : ∀ x, x ≤ N → rt f N x = R x := by
  have key : ∀ n x, x ≤ N → R (rt f n x) = R x := by
    intro n
    induction n with
    | zero => intro x _; rfl
    | succ n ih => intro x hx; show R (rt f n (f x)) = R x; rw [ih (f x) (Nat.le_trans (hf x) hx), h1 x hx]
  intro x hx
  rw [← key N x hx]
  exact (h2 _ (Nat.le_trans (rt_le hf N x) hx) (rt_root hf N x hx)).symm
/-- the class holds roots R of nd nodes -/
def UFR (nd : Nat) (R : Nat → Nat) (I : zI) : Prop := nd ≤ 16384 ∧ I 61 6 = nI nd ∧ ∃ f, (∀ i, f i ≤ i) ∧ (∀ i, i < nd → I 71 i = nI (f i)) ∧ ∀ x, x < nd → rt f nd x = R x
section Uf
variable {nd : Nat} {R : Nat → Nat}
theorem UFR.root {I : zI} (h : UFR nd R I) {a : Nat} (ha : a < nd) : R a ≤ a ∧ R (R a) = R a := by
  obtain ⟨-, -, f, f1, f2, f3⟩ := h
  have l := rt_le f1 nd a
  rw [f3 a ha] at l
  refine ⟨l, ?_⟩
  have r := rt_root f1 nd a (by omega)
  rw [f3 a ha] at r
  rw [← f3 (R a) (by omega)]
  exact rt_fix r nd
theorem u_4 (hn : nd ≤ 16384) {I0 : zI} : ∀ r s a I f, s + r = nd → r < f → a + s < nd → I 61 6 = nI nd → (∀ p, p ≠ 71 → I p = I0 p) → UFR nd R I → ∃ I', zlp3 f_X3_leastOf_4 f (nI a) (nI s) I = some (nI (R a), I') ∧ (∀ p, p ≠ 71 → I' p = I0 p) ∧ UFR nd R I'
  | _, _, _, _, 0, _, h, _, _, _, _ => absurd h (by omega)
  | r, s, a, I, f + 1, hs, hf, ha, h6, h0, hU => by
    have e1 : zlp3 f_X3_leastOf_4 (f + 1) (nI a) (nI s) I = f_X3_leastOf_4 (zlp3 f_X3_leastOf_4 f) (nI a) (nI s) I := rfl
    rw [e1]
    have ih := fun r s a I => u_4 hn (I0 := I0) r s a I f
    generalize zlp3 f_X3_leastOf_4 f = k1 at ih ⊢
    have hU' := hU
    obtain ⟨-, -, g, g1, g2, g3⟩ := hU
    have hb : zbd (nI a) 16384 = true := zbd_nI (by omega) (by decide)
    have hcl : (nI a).toNatClampNeg = a := nI_clamp (by omega)
    have ga := g1 a
    unfold f_X3_leastOf_4 f_X3_leastOf_52
    rw [h6, if_neg (nI_ge (by omega) (by omega)), zck_t _ hb, hcl, g2 a (by omega)]
    by_cases z : g a = a
    · rw [if_pos (by rw [z])]
      refine ⟨I, ?_, h0, hU'⟩
      rw [← g3 a (by omega), rt_fix z]
    · rw [if_neg (fun y => z ((nI_eq (by omega) (by omega)).mp y)), zck_t _ hb, zlt_b, zck_t _ (zbd_nI (show g a < 16384 by omega) (by decide)), zck_t _ hb, nI_clamp (show g a < 2 ^ 31 by omega), g2 (g a) (by omega), zlt_b, zck_t _ hb, zu_eq, zlt_b, zlt_b, nI_1]
      have gga := g1 (g a)
      obtain ⟨I', u1, u2, u3⟩ := ih (r - 1) (s + 1) (g (g a)) (zu I 71 a (nI (g (g a)))) (by omega) (by omega) (by omega) (by rw [zu_p _ _ (by decide)]; exact h6) (fun p hp => by rw [zu_pf _ _ hp]; exact h0 p hp) (by
        refine ⟨hn, by rw [zu_p _ _ (by decide)]; exact h6, fun i => if i = a then g (g a) else g i, fun i => ?_, fun i hi => ?_, fun x hx => ?_⟩
        · show (if i = a then g (g a) else g i) ≤ i
          split
          · rename_i q; omega
          · exact g1 i
        · show zu I 71 a (nI (g (g a))) 71 i = nI (if i = a then g (g a) else g i)
          by_cases y : i = a
          · subst y; rw [zu_eq, if_pos rfl]
          · rw [zu_k _ _ y, if_neg y]; exact g2 i hi
        · rw [← g3 x hx]
          refine rt_u (R := rt g nd) (fun i => ?_) (fun y hy => ?_) (fun y hy e => ?_) x (by omega)
          · show (if i = a then g (g a) else g i) ≤ i
            split
            · rename_i q; omega
            · exact g1 i
          · show rt g nd (if y = a then g (g a) else g y) = rt g nd y
            by_cases w : y = a
            · rw [if_pos w, rt_f g1 nd (g a) (by omega), rt_f g1 nd a (by omega), w]
            · rw [if_neg w]; exact rt_f g1 nd y hy
          · have e : (if y = a then g (g a) else g y) = y := e
            by_cases w : y = a
            · rw [if_pos w] at e
              exact absurd (show g a = a by omega) z
            · rw [if_neg w] at e
              exact rt_fix e nd)
      have er : R (g (g a)) = R a := by rw [← g3 (g (g a)) (by omega), rt_f g1 nd (g a) (by omega), rt_f g1 nd a (by omega), g3 a (by omega)]
      rw [er] at u1
      exact ⟨I', u1, u2, u3⟩
theorem c_least' {I : zI} {a : Nat} (ha : a < nd) (h : UFR nd R I) : ∃ I', f_X3_leastOf (nI a) I = some (nI (R a), I') ∧ (∀ p, p ≠ 71 → I' p = I p) ∧ UFR nd R I' := by
  have hn := h.1
  exact u_4 hn (I0 := I) nd 0 a I zF (by omega) (zF_lt (by omega)) (by omega) h.2.1 (fun _ _ => rfl) h
/-- two classes become one -/
def mrg (R : Nat → Nat) (a b : Nat) : Nat → Nat := fun x => if R x = max (R a) (R b) then min (R a) (R b) else R x
theorem c_tieN {I : zI} {a b : Nat} (ha : a < nd) (hb : b < nd) (h : UFR nd R I) : ∃ I', f_X3_tieNodes (nI a) (nI b) I = some (nI a, I') ∧ (∀ p, p ≠ 71 → I' p = I p) ∧ ∃ R', UFR nd R' I' ∧ ((a = b ∧ R' = R) ∨ (a ≠ b ∧ ∀ x, x < nd → R' x = mrg R a b x)) := by
  have hn := h.1
  unfold f_X3_tieNodes f_X3_tieNodes_15 f_X3_tieNodes_25
  rw [if_neg (nI_m1 (by omega)), if_neg (nI_m1 (by omega))]
  by_cases z : a = b
  · rw [if_pos (by rw [z]), if_neg (nI_m1 (by omega))]
    exact ⟨I, rfl, fun _ _ => rfl, R, h, Or.inl ⟨z, rfl⟩⟩
  · rw [if_neg (fun y => z ((nI_eq (by omega) (by omega)).mp y))]
    obtain ⟨I1, a1, a2, a3⟩ := c_least' ha h
    obtain ⟨I2, b1, b2, b3⟩ := c_least' hb a3
    obtain ⟨r1, r2⟩ := h.root ha
    obtain ⟨s1, s2⟩ := h.root hb
    rw [a1, zb2_b, b1, zb2_b, zmx_n (by omega) (by omega), zmn_n (by omega) (by omega), zck_t _ (zbd_nI (by omega) (by decide)), nI_clamp (by omega), zlt_b]
    refine ⟨_, rfl, fun p hp => by rw [zu_pf _ _ hp, b2 p hp, a2 p hp], mrg R a b, ?_, Or.inr ⟨z, fun _ _ => rfl⟩⟩
    obtain ⟨-, h6, f, f1, f2, f3⟩ := b3
    refine ⟨hn, by rw [zu_p _ _ (by decide)]; exact h6, fun i => if i = max (R a) (R b) then min (R a) (R b) else f i, fun i => ?_, fun i hi => ?_, fun x hx => ?_⟩
    · show (if i = max (R a) (R b) then min (R a) (R b) else f i) ≤ i
      split
      · omega
      · exact f1 i
    · show zu I2 71 (max (R a) (R b)) (nI (min (R a) (R b))) 71 i = nI (if i = max (R a) (R b) then min (R a) (R b) else f i)
      by_cases y : i = max (R a) (R b)
      · rw [y, zu_eq, if_pos rfl]
      · rw [zu_k _ _ y, if_neg y]; exact f2 i hi
    · have fix : ∀ y, y < nd → f y = y → R y = y := fun y hy e => by rw [← f3 y hy]; exact rt_fix e nd
      by_cases same : R a = R b
      · -- nothing changes
        have e1 : mrg R a b x = R x := by
          unfold mrg; rw [← same]; split
          · rename_i q; omega
          · rfl
        rw [e1, ← f3 x hx]
        congr 1
        funext i
        split
        · rename_i q
          have ra : f (R a) = R a := by have := rt_root f1 nd a (by omega); rw [f3 a ha] at this; exact this
          rw [q, show max (R a) (R b) = R a by omega, show min (R a) (R b) = R a by omega, ra]
        · rfl
      · have e0 : mrg R a b x = mrg (rt f nd) a b x := by unfold mrg; rw [f3 x hx, f3 a ha, f3 b hb]
        rw [e0]
        refine rt_u (R := mrg (rt f nd) a b) (fun i => ?_) (fun y hy => ?_) (fun y hy e => ?_) x (by omega)
        · show (if i = max (R a) (R b) then min (R a) (R b) else f i) ≤ i
          split
          · omega
          · exact f1 i
        · show mrg (rt f nd) a b (if y = max (R a) (R b) then min (R a) (R b) else f y) = mrg (rt f nd) a b y
          by_cases w : y = max (R a) (R b)
          · rw [if_pos w]
            unfold mrg
            rw [f3 a ha, f3 b hb, w]
            have t1 : rt f nd (min (R a) (R b)) = min (R a) (R b) := by
              rw [f3 _ (by omega)]
              rcases Nat.le_total (R a) (R b) with q | q
              · rw [show min (R a) (R b) = R a by omega]; exact r2
              · rw [show min (R a) (R b) = R b by omega]; exact s2
            have t2 : rt f nd (max (R a) (R b)) = max (R a) (R b) := by
              rw [f3 _ (by omega)]
              rcases Nat.le_total (R a) (R b) with q | q
              · rw [show max (R a) (R b) = R b by omega]; exact s2
              · rw [show max (R a) (R b) = R a by omega]; exact r2
            rw [t1, t2, if_neg (by omega), if_pos rfl]
          · rw [if_neg w]
            unfold mrg
            rw [rt_f f1 nd y hy]
        · have e : (if y = max (R a) (R b) then min (R a) (R b) else f y) = y := e
          by_cases w : y = max (R a) (R b)
          · rw [if_pos w] at e; omega
          · rw [if_neg w] at e
            unfold mrg
            rw [rt_fix e, f3 a ha, f3 b hb, if_neg w]
/-- the classes of R are those of B -/
def RCl (nd : Nat) (R : Nat → Nat) (B : Nat → Nat → Prop) : Prop := ∀ a b, a < nd → b < nd → (R a = R b ↔ clo B a b)
theorem RCl_add {B : Nat → Nat → Prop} {R' : Nat → Nat} {u v : Nat} (hB : ∀ a b, B a b → a < nd ∧ b < nd) (hu : u < nd) (hv : v < nd) (h : RCl nd R B) (hR : (u = v ∧ R' = R) ∨ (u ≠ v ∧ ∀ x, x < nd → R' x = mrg R u v x)) : RCl nd R' (fun a b => B a b ∨ (a = u ∧ b = v)) := by
  have sub : ∀ {a b}, clo B a b → clo (fun a b => B a b ∨ (a = u ∧ b = v)) a b := fun w => clo_mono (fun x y hxy => clo_b (Or.inl hxy)) w
  have uv : clo (fun a b => B a b ∨ (a = u ∧ b = v)) u v := clo_b (Or.inr ⟨rfl, rfl⟩)
  intro a b ha hb
  rcases hR with ⟨rfl, rfl⟩ | ⟨hne, hR⟩
  · rw [h a b ha hb]
    refine ⟨sub, fun w => clo_mono (fun x y hxy => ?_) w⟩
    rcases hxy with q | ⟨rfl, rfl⟩
    · exact clo_b q
    · exact clo_r _ _
  · constructor
    · intro w
      rw [hR a ha, hR b hb] at w
      unfold mrg at w
      have eq : ∀ {x y}, x < nd → y < nd → R x = R y → clo (fun a b => B a b ∨ (a = u ∧ b = v)) x y := fun hx hy e => sub ((h _ _ hx hy).mp e)
      rcases Nat.le_total (R u) (R v) with q | q
      · rw [show max (R u) (R v) = R v by omega, show min (R u) (R v) = R u by omega] at w
        by_cases z1 : R a = R v <;> by_cases z2 : R b = R v
        · exact eq ha hb (by omega)
        · rw [if_pos z1, if_neg z2] at w
          exact clo_t (eq ha hv z1) (clo_t (clo_s uv) (eq hu hb w))
        · rw [if_neg z1, if_pos z2] at w
          exact clo_t (eq ha hu w) (clo_t uv (eq hv hb z2.symm))
        · rw [if_neg z1, if_neg z2] at w; exact eq ha hb w
      · rw [show max (R u) (R v) = R u by omega, show min (R u) (R v) = R v by omega] at w
        by_cases z1 : R a = R u <;> by_cases z2 : R b = R u
        · exact eq ha hb (by omega)
        · rw [if_pos z1, if_neg z2] at w
          exact clo_t (eq ha hu z1) (clo_t uv (eq hv hb w))
        · rw [if_neg z1, if_pos z2] at w
          exact clo_t (eq ha hv w) (clo_t (clo_s uv) (eq hu hb z2.symm))
        · rw [if_neg z1, if_neg z2] at w; exact eq ha hb w
    · intro w
      rw [hR a ha, hR b hb]
      -- mrg R is kept by every pair
      refine clo_inv (f := fun x => mrg R u v x) (fun x y hxy => ?_) w
      rcases hxy with q | ⟨rfl, rfl⟩
      · obtain ⟨hx, hy⟩ := hB x y q
        have := (h x y hx hy).mpr (clo_b q)
        show mrg R u v x = mrg R u v y
        unfold mrg; rw [this]
      · show mrg R x y x = mrg R x y y
        unfold mrg
        rcases Nat.le_total (R x) (R y) with q | q
        · rw [show max (R x) (R y) = R y by omega, show min (R x) (R y) = R x by omega, if_pos rfl]
          split <;> omega
        · rw [show max (R x) (R y) = R x by omega, show min (R x) (R y) = R y by omega, if_pos rfl]
          split <;> omega
end Uf
