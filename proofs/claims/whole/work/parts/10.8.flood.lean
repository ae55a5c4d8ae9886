/-! the reference's shapes -/
/-- one more class, behind all that were numbered -/
noncomputable def fadd (C : Nat → Prop) (k : Nat) (f : Nat → Nat) : Nat → Nat := fun q => @ite _ (C q) (Classical.propDecidable _) k (f q)
theorem fadd_t {C : Nat → Prop} {k : Nat} {f : Nat → Nat} {q : Nat} (h : C q) : fadd C k f q = k := if_pos h
theorem fadd_f {C : Nat → Prop} {k : Nat} {f : Nat → Nat} {q : Nat} (h : ¬ C q) : fadd C k f q = f q := if_neg h
theorem cls_add {As C : Nat → Prop} {R : Nat → Nat → Prop} {f : Nat → Nat} {k s : Nat} (h : cls As R f k) (hs : C s) (hC : ∀ a b, C a → C b → R a b) (hd : ∀ a b, As a → C b → ¬ R a b ∧ ¬ R b a) (hn : ∀ n, n < k → ∃ a, As a ∧ f a = n ∧ ∀ b, C b → a < b) : cls (fun q => As q ∨ C q) R (fadd C k f) (k + 1) := by
  have dis : ∀ a, As a → C a → False := fun a h1 h2 => (hd a a h1 h2).1 (hC a a h2 h2)
  obtain ⟨h1, h2, h3, h4⟩ := h
  refine ⟨fun q hq => ?_, fun a b ha hb => ?_, fun n hn' => ?_, fun n b hb hlt => ?_⟩
  · by_cases z : C q
    · rw [fadd_t z]; omega
    · rw [fadd_f z]; have := h1 q (hq.resolve_right z); omega
  · by_cases za : C a <;> by_cases zb : C b
    · rw [fadd_t za, fadd_t zb]; exact ⟨fun _ => hC a b za zb, fun _ => rfl⟩
    · have hb' := hb.resolve_right zb
      rw [fadd_t za, fadd_f zb]
      exact ⟨fun w => by have := h1 b hb'; omega, fun w => absurd w (hd b a hb' za).2⟩
    · have ha' := ha.resolve_right za
      rw [fadd_f za, fadd_t zb]
      exact ⟨fun w => by have := h1 a ha'; omega, fun w => absurd w (hd a b ha' zb).1⟩
    · rw [fadd_f za, fadd_f zb]; exact h2 a b (ha.resolve_right za) (hb.resolve_right zb)
  · by_cases z : n = k
    · exact ⟨s, Or.inr hs, by rw [fadd_t hs, z]⟩
    · obtain ⟨q, q1, q2⟩ := h3 n (by omega)
      exact ⟨q, Or.inl q1, by rw [fadd_f (fun w => dis q q1 w)]; exact q2⟩
  · by_cases z : C b
    · rw [fadd_t z] at hlt
      obtain ⟨a, a1, a2, a3⟩ := hn n hlt
      exact ⟨a, Or.inl a1, a3 b z, by rw [fadd_f (fun w => dis a a1 w)]; exact a2⟩
    · rw [fadd_f z] at hlt
      obtain ⟨a, a1, a2, a3⟩ := h4 n b (hb.resolve_right z) hlt
      exact ⟨a, Or.inl a1, a2, by rw [fadd_f (fun w => dis a a1 w)]; exact a3⟩
theorem cls_cS {S S' : Nat → Prop} {R : Nat → Nat → Prop} {f : Nat → Nat} {k : Nat} (h : cls S R f k) (e : ∀ q, S q ↔ S' q) : cls S' R f k := by
  have : S = S' := funext fun q => propext (e q)
  rw [← this]; exact h
theorem cls_0 {S : Nat → Prop} {R : Nat → Nat → Prop} {f : Nat → Nat} (h : ∀ q, ¬ S q) : cls S R f 0 := ⟨fun q hq => absurd hq (h q), fun a _ ha => absurd ha (h a), fun n hn => absurd hn (by omega), fun n b hb => absurd hb (h b)⟩
/-- the square beside, 4096: none -/
def bsd (s w : Nat) : Nat := if w = 0 then (if s % 64 = 63 then 4096 else s + 1) else if w = 1 then (if s % 64 = 0 then 4096 else s - 1) else if w = 2 then (if s / 64 = 63 then 4096 else s + 64) else (if s / 64 = 0 then 4096 else s - 64)
theorem bsd_0 (s : Nat) : bsd s 0 = if s % 64 = 63 then 4096 else s + 1 := rfl
theorem bsd_1 (s : Nat) : bsd s 1 = if s % 64 = 0 then 4096 else s - 1 := rfl
theorem bsd_2 (s : Nat) : bsd s 2 = if s / 64 = 63 then 4096 else s + 64 := rfl
theorem bsd_3 (s : Nat) : bsd s 3 = if s / 64 = 0 then 4096 else s - 64 := rfl
theorem bsd_adj {s w : Nat} (hs : s < 4096) (hw : w < 4) (h : bsd s w ≠ 4096) : bsd s w < 4096 ∧ adjS s (bsd s w) := by
  have : w = 0 ∨ w = 1 ∨ w = 2 ∨ w = 3 := by omega
  rcases this with rfl | rfl | rfl | rfl
  · rw [bsd_0] at h ⊢
    by_cases z : s % 64 = 63
    · rw [if_pos z] at h; exact absurd rfl h
    · rw [if_neg z]; exact ⟨by omega, Or.inl ⟨by omega, by omega⟩⟩
  · rw [bsd_1] at h ⊢
    by_cases z : s % 64 = 0
    · rw [if_pos z] at h; exact absurd rfl h
    · rw [if_neg z]; exact ⟨by omega, Or.inl ⟨by omega, by omega⟩⟩
  · rw [bsd_2] at h ⊢
    by_cases z : s / 64 = 63
    · rw [if_pos z] at h; exact absurd rfl h
    · rw [if_neg z]; exact ⟨by omega, Or.inr (Or.inl (by omega))⟩
  · rw [bsd_3] at h ⊢
    by_cases z : s / 64 = 0
    · rw [if_pos z] at h; exact absurd rfl h
    · rw [if_neg z]; exact ⟨by omega, Or.inr (Or.inr (by omega))⟩
theorem bsd_all {s b : Nat} (hs : s < 4096) (hb : b < 4096) (h : adjS s b) : ∃ w, w < 4 ∧ bsd s w = b := by
  rcases h with ⟨h, h2 | h2⟩ | h | h
  · exact ⟨0, by decide, by unfold bsd; rw [if_pos rfl, if_neg (by omega)]; exact h2⟩
  · exact ⟨1, by decide, by unfold bsd; rw [if_neg (by decide), if_pos rfl, if_neg (by omega)]; omega⟩
  · exact ⟨2, by decide, by unfold bsd; rw [if_neg (by decide), if_neg (by decide), if_pos rfl, if_neg (by omega)]; exact h⟩
  · exact ⟨3, by decide, by unfold bsd; rw [if_neg (by decide), if_neg (by decide), if_neg (by decide), if_neg (by omega)]; omega⟩
theorem isq_in {X Y : Nat} (hX : X < 64) (hY : Y < 64) : f_X12_isSquare (nI X).toInt64 (nI Y).toInt64 = some 1 := by
  rw [nI_l (by omega), nI_l (by omega)]
  have z : ∀ n, n < 64 → ¬ lN n < 0 ∧ ¬ 64 ≤ lN n ∧ lN n < 64 := fun n hn => by
    rw [show (0 : Int64) = lN 0 from rfl, show (64 : Int64) = lN 64 from rfl, lN_lt (by omega) (by decide), lN_le (by decide) (by omega), lN_lt (by omega) (by decide)]
    omega
  exact e_isq_t ⟨(z X hX).1, (z X hX).2.1, (z Y hY).1, (z Y hY).2.2⟩
theorem isq_out {a b : Int32} (h : a = -1 ∨ a = nI 64 ∨ b = -1 ∨ b = nI 64) : f_X12_isSquare a.toInt64 b.toInt64 = some 0 := by
  refine e_isq_f fun z => ?_
  rcases h with rfl | rfl | rfl | rfl
  · exact z.1 (by decide)
  · exact z.2.1 (by decide)
  · exact z.2.2.1 (by decide)
  · exact absurd z.2.2.2 (by decide)
theorem e_beside {s w : Nat} (hs : s < 4096) (hw : w < 4) : f_X12_beside (nI s) (nI w) = some (if bsd s w = 4096 then -1 else nI (bsd s w)) := by
  have x64 : s % 64 < 64 := Nat.mod_lt _ (by decide)
  have y64 : s / 64 < 64 := by omega
  have dm := Nat.div_add_mod s 64
  have e47 : ∀ (X Y : Nat), X < 64 → Y < 64 → ∀ u v : Int32, u + v = nI Y → f_X12_beside_47 (nI X) u v = some (nI (64 * Y + X)) := fun X Y hX hY u v e => by
    unfold f_X12_beside_47 f_X12_beside_69
    rw [zlt_b, e, isq_in hX hY, zb1_b, if_neg n10, zlt_b, show (64 : Int32) = nI 64 from rfl, pk_mul, nI_add]
  have o47 : ∀ (a b u v : Int32), u + v = b → (a = -1 ∨ a = nI 64 ∨ b = -1 ∨ b = nI 64) → f_X12_beside_47 a u v = some (-1) := fun a b u v e h => by
    unfold f_X12_beside_47 f_X12_beside_69
    rw [zlt_b, e, isq_out h, zb1_b, if_pos rfl]
  have m1 : ∀ n, 0 < n → nI n + (-1) = nI (n - 1) := fun n hn => by rw [show n = (n - 1) + 1 by omega, pk_m1]; congr 1
  unfold f_X12_beside f_X12_beside_22
  rw [zlt_b, show (64 : Int32) = nI 64 from rfl, pk_rem (by omega) (by decide) (by decide), pk_div (by omega) (by decide) (by decide)]
  generalize s % 64 = x at *
  generalize hy : s / 64 = y at *
  have : w = 0 ∨ w = 1 ∨ w = 2 ∨ w = 3 := by omega
  rcases this with rfl | rfl | rfl | rfl
  · rw [if_pos (show nI 0 = 0 from rfl), zlt_b, zlt_b, if_neg (by decide), if_neg (by decide)]
    rw [bsd_0, show s % 64 = x by omega, nI_1]
    by_cases z : x = 63
    · rw [if_pos z, if_pos rfl]
      exact o47 _ (nI y) _ _ (Int32.add_zero _) (Or.inr (Or.inl (by rw [z])))
    · rw [if_neg z, if_neg (by omega), e47 (x + 1) y (by omega) y64 _ _ (Int32.add_zero _)]
      congr 2; omega
  · rw [if_neg (by decide), if_pos (show nI 1 = 1 from rfl), zlt_b, zlt_b, if_neg (by decide), if_neg (by decide)]
    rw [bsd_1, show s % 64 = x by omega]
    by_cases z : x = 0
    · rw [if_pos z, if_pos rfl]
      exact o47 _ (nI y) _ _ (Int32.add_zero _) (Or.inl (by rw [z]; decide))
    · rw [if_neg z, if_neg (by omega), m1 x (by omega), e47 (x - 1) y (by omega) y64 _ _ (Int32.add_zero _)]
      congr 2; omega
  · rw [if_neg (by decide), if_neg (by decide), zlt_b, zlt_b, if_pos (show nI 2 = 2 from rfl), Int32.add_zero]
    rw [bsd_2, show s / 64 = y by omega]
    by_cases z : y = 63
    · rw [if_pos z, if_pos rfl]
      exact o47 _ (nI 64) _ _ (by rw [z]; decide) (Or.inr (Or.inr (Or.inr rfl)))
    · rw [if_neg z, if_neg (by omega), e47 x (y + 1) x64 (by omega) _ _ (nI_1 y)]
      congr 2; omega
  · rw [if_neg (by decide), if_neg (by decide), zlt_b, zlt_b, if_neg (by decide), if_pos (show nI 3 = 3 from rfl), Int32.add_zero]
    rw [bsd_3, show s / 64 = y by omega]
    by_cases z : y = 0
    · rw [if_pos z, if_pos rfl]
      exact o47 _ (-1) _ _ (by rw [z]; decide) (Or.inr (Or.inr (Or.inl rfl)))
    · rw [if_neg z, if_neg (by omega), e47 x (y - 1) x64 (by omega) _ _ (m1 y (by omega))]
      congr 2; omega
/-- the flood: what is in the row has the number n -/
def FL (l n : Nat) (S A : Nat → Prop) (Qu : Nat → Nat) (e : Nat) (J0 J : zI) : Prop := e ≤ 4096 ∧ (∀ i, i < e → J 130 i = nI (Qu i) ∧ Qu i < 4096) ∧ (∀ q, q < 4096 → inQ Qu e q → J 119 (4096 * l + q) = nI n) ∧ (∀ i, (∀ q, q < 4096 → inQ Qu e q → i ≠ 4096 * l + q) → J 119 i = J0 119 i) ∧ ∀ p, p ≠ 119 → p ≠ 130 → J p = J0 p
section Fl
variable {S A : Nat → Prop} {l n s : Nat} {J0 : zI}
theorem f_40 {k30 : Int32 → Int32 → Int32 → Int32 → zI → Option zI} (hl : l < 24) (hn : n < 4096) (hS : ∀ q, q < 4096 → (J0 118 (4096 * l + q) = 0 ↔ ¬ S q)) (hAd : ∀ q, q < 4096 → (A q ↔ S q ∧ J0 119 (4096 * l + q) = -1)) (hA : ∀ q, A q → q < 4096) (hAS : ∀ q, A q → S q) {k : Nat} :
    ∀ r w e Qu J f, w + r = 4 → r < f → bfs S A s Qu k e → k < e → FL l n S A Qu e J0 J → (∀ v, v < w → A (bsd (Qu k) v) → inQ Qu e (bsd (Qu k) v)) → ∃ Qu' e' J', zlp6 (f_X12_flood_40 k30) f (nI n) (nI (4096 * l)) (nI e) (nI k) (nI w) J = k30 (nI n) (nI (4096 * l)) (nI e') (nI (k + 1)) J' ∧ bfs S A s Qu' (k + 1) e' ∧ FL l n S A Qu' e' J0 J' ∧ e ≤ e'
  | _, _, _, _, _, 0, _, h, _, _, _, _ => absurd h (by omega)
  | 0, w, e, Qu, J, f + 1, hw, _, hB, hk, hF, hv => by
    have : w = 4 := by omega
    subst this
    refine ⟨Qu, e, J, ?_, bfs_step hB hk (fun b hb ha => ?_), hF, Nat.le_refl _⟩
    · show f_X12_flood_40 k30 _ (nI n) (nI (4096 * l)) (nI e) (nI k) (nI 4) J = _
      unfold f_X12_flood_40
      rw [if_pos (by decide), zlt_b, nI_1]
    · obtain ⟨v, v1, v2⟩ := bsd_all (hF.2.1 k hk).2 (hA b hb) ha
      rw [← v2]; exact hv v v1 (by rw [v2]; exact hb)
  | r + 1, w, e, Qu, J, f + 1, hw, hf, hB, hk, hF, hv => by
    have ih := fun e Qu J => f_40 (k30 := k30) hl hn hS hAd hA hAS (k := k) r (w + 1) e Qu J f (by omega) (by omega)
    have e1 : zlp6 (f_X12_flood_40 k30) (f + 1) (nI n) (nI (4096 * l)) (nI e) (nI k) (nI w) J = f_X12_flood_40 k30 (zlp6 (f_X12_flood_40 k30) f) (nI n) (nI (4096 * l)) (nI e) (nI k) (nI w) J := rfl
    rw [e1]
    generalize zlp6 (f_X12_flood_40 k30) f = k1 at ih ⊢
    obtain ⟨F1, F2, F3, F4, F5⟩ := hF
    obtain ⟨c1, c2⟩ := F2 k hk
    unfold f_X12_flood_40 f_X12_flood_116
    rw [if_neg (show ¬ (4 : Int32) ≤ nI w from nI_ge (b := 4) (by omega) (by decide)), zck_t _ (zbd_nI (by omega) (by decide)), nI_clamp (by omega), c1, e_beside c2 (by omega), zb1_b]
    simp only [zlt_b, nI_1]
    have skip : (A (bsd (Qu k) w) → inQ Qu e (bsd (Qu k) w)) → ∃ Qu' e' J', k1 (nI n) (nI (4096 * l)) (nI e) (nI k) (nI (w + 1)) J = k30 (nI n) (nI (4096 * l)) (nI e') (nI (k + 1)) J' ∧ bfs S A s Qu' (k + 1) e' ∧ FL l n S A Qu' e' J0 J' ∧ e ≤ e' := fun z =>
      ih e Qu J hB hk ⟨F1, F2, F3, F4, F5⟩ (fun v hv2 hAv => by
        by_cases y : v = w
        · subst y; exact z hAv
        · exact hv v (by omega) hAv)
    by_cases z : bsd (Qu k) w = 4096
    · rw [if_pos z, if_pos rfl]
      exact skip fun y => absurd (hA _ y) (by omega)
    · obtain ⟨b1, b2⟩ := bsd_adj c2 (show w < 4 by omega) z
      generalize hbe : bsd (Qu k) w = b at *
      rw [if_neg z, if_neg (nI_m1 (by omega)), nI_add]
      have hb : zbd (nI (4096 * l + b)) 98304 = true := zbd_nI (by omega) (by decide)
      have hcl : (nI (4096 * l + b)).toNatClampNeg = 4096 * l + b := nI_clamp (by omega)
      rw [zck_t _ hb, zck_t _ hb, zck_t _ hb, hcl, F5 118 (by decide) (by decide)]
      by_cases zs : S b
      · rw [if_neg (fun y => (hS b b1).mp y zs)]
        by_cases zi : inQ Qu e b
        · rw [F3 b b1 zi, if_neg (nI_m1 (by omega))]
          exact skip fun _ => zi
        · have e119 : J 119 (4096 * l + b) = J0 119 (4096 * l + b) := F4 _ (fun q hq hi y => zi ((show q = b by omega) ▸ hi))
          rw [e119]
          by_cases za : A b
          · rw [if_pos ((hAd b b1).mp za).2]
            have he := bfs_room hA hB za zi
            rw [zck_t _ (zbd_nI he (by decide)), nI_clamp (by omega)]
            obtain ⟨Q2, e2, J2, u1, u2, u3, u4⟩ := ih (e + 1) (qa Qu e b) (zu (zu J 119 (4096 * l + b) (nI n)) 130 e (nI b)) (bfs_add hAS hB hk za zi b2) (by omega) (by
              refine ⟨by omega, fun i hi => ?_, fun q hq hi => ?_, fun i hi => ?_, fun p a b => by rw [zu_pf _ _ b, zu_pf _ _ a]; exact F5 p a b⟩
              · by_cases y : i = e
                · subst y; rw [qa_e, zu_eq]; exact ⟨rfl, b1⟩
                · rw [qa_lt (by omega), zu_k _ _ y, zu_p _ _ (by decide)]; exact F2 i (by omega)
              · rw [zu_p _ _ (by decide)]
                by_cases y : q = b
                · subst y; rw [zu_eq]
                · rw [zu_k _ _ (by omega)]; exact F3 q hq ((inQ_a.mp hi).resolve_right y)
              · rw [zu_p _ _ (by decide), zu_k _ _ (hi b b1 (inQ_a.mpr (Or.inr rfl)))]
                exact F4 i (fun q hq hq2 => hi q hq (inQ_a.mpr (Or.inl hq2)))) (fun v hv2 hAv => by
              rw [qa_lt hk] at hAv ⊢
              by_cases y : v = w
              · subst y
                rw [hbe]
                exact inQ_a.mpr (Or.inr rfl)
              · exact inQ_a.mpr (Or.inl (hv v (by omega) hAv)))
            exact ⟨Q2, e2, J2, u1, u2, u3, by omega⟩
          · rw [if_neg (fun y => za ((hAd b b1).mpr ⟨zs, y⟩))]
            exact skip fun y => absurd y za
      · rw [if_pos ((hS b b1).mpr zs)]
        exact skip fun y => absurd (hAS b y) zs
theorem f_30 (hl : l < 24) (hn : n < 4096) (hS : ∀ q, q < 4096 → (J0 118 (4096 * l + q) = 0 ↔ ¬ S q)) (hAd : ∀ q, q < 4096 → (A q ↔ S q ∧ J0 119 (4096 * l + q) = -1)) (hA : ∀ q, A q → q < 4096) (hAS : ∀ q, A q → S q) :
    ∀ r k e Qu J f, k + r = 4096 → r < f → bfs S A s Qu k e → FL l n S A Qu e J0 J → ∃ Qu' e' J', zlp5 f_X12_flood_30 f (nI n) (nI (4096 * l)) (nI e) (nI k) J = some J' ∧ bfs S A s Qu' e' e' ∧ FL l n S A Qu' e' J0 J'
  | _, _, _, _, _, 0, _, h, _, _ => absurd h (by omega)
  | r, k, e, Qu, J, f + 1, hk, hf, hB, hF => by
    have e1 : zlp5 f_X12_flood_30 (f + 1) (nI n) (nI (4096 * l)) (nI e) (nI k) J = f_X12_flood_30 (zlp5 f_X12_flood_30 f) (nI n) (nI (4096 * l)) (nI e) (nI k) J := rfl
    rw [e1]
    have he := hF.1
    generalize hk1 : zlp5 f_X12_flood_30 f = k1
    unfold f_X12_flood_30
    by_cases z : k = e
    · subst z
      rw [if_pos (Int32.le_refl _)]
      exact ⟨Qu, k, J, rfl, hB, hF⟩
    · have hke : k < e := by have := hB.2.1; omega
      rw [if_neg (nI_ge hke (by omega))]
      obtain ⟨r, rfl⟩ : ∃ q, r = q + 1 := ⟨r - 1, by omega⟩
      obtain ⟨Q2, e2, J2, u1, u2, u3, u4⟩ := f_40 (k30 := k1) hl hn hS hAd hA hAS (k := k) 4 0 e Qu J zF (by omega) (zF_lt (by omega)) hB hke hF (fun v hv => absurd hv (by omega))
      have u1' : zlp6 (f_X12_flood_40 k1) zF (nI n) (nI (4096 * l)) (nI e) (nI k) 0 J = _ := u1
      rw [u1', ← hk1]
      exact f_30 hl hn hS hAd hA hAS r (k + 1) e2 Q2 J2 f (by omega) (by omega) u2 u3
theorem m_flood (hl : l < 24) (hn : n < 4096) (hS : ∀ q, q < 4096 → (J0 118 (4096 * l + q) = 0 ↔ ¬ S q)) (hAd : ∀ q, q < 4096 → (A q ↔ S q ∧ J0 119 (4096 * l + q) = -1)) (hA : ∀ q, A q → q < 4096) (hAS : ∀ q, A q → S q) (hcl : ∀ x y, A x → bes S x y → A y) (hs : A s) :
    ∃ J', f_X12_flood (nI l) (nI s) (nI n) J0 = some J' ∧ (∀ p, p ≠ 119 → p ≠ 130 → J' p = J0 p) ∧ (∀ q, q < 4096 → A q → clo (bes S) s q → J' 119 (4096 * l + q) = nI n) ∧ (∀ i, (∀ q, q < 4096 → A q → clo (bes S) s q → i ≠ 4096 * l + q) → J' 119 i = J0 119 i) := by
  have s4 := hA s hs
  have e40 : (4096 : Int32) * nI l = nI (4096 * l) := by rw [show (4096 : Int32) = nI 4096 from rfl, pk_mul]
  have f0 : FL l n S A (qa (fun _ => 0) 0 s) 1 J0 (zu (zu J0 130 0 (nI s)) 119 (4096 * l + s) (nI n)) := by
    refine ⟨by omega, fun i hi => ?_, fun q hq hi => ?_, fun i hi => ?_, fun p a b => by rw [zu_pf _ _ a, zu_pf _ _ b]⟩
    · have : i = 0 := by omega
      subst this
      rw [qa_e, zu_p _ _ (by decide), zu_eq]; exact ⟨rfl, s4⟩
    · obtain ⟨i, i1, i2⟩ := hi
      have : i = 0 := by omega
      subst this
      rw [qa_e] at i2
      rw [← i2, zu_eq]
    · rw [zu_k _ _ (hi s s4 ⟨0, by omega, qa_e⟩), zu_p _ _ (by decide)]
  obtain ⟨Qu, e, J', u1, u2, u3⟩ := f_30 (S := S) (A := A) (s := s) hl hn hS hAd hA hAS 4096 0 1 _ _ zF (by omega) (zF_lt (by omega)) (bfs_0 hs) f0
  have en := bfs_end hAS hcl u2
  refine ⟨J', ?_, u3.2.2.2.2, fun q hq a c => u3.2.2.1 q hq ((en q).mpr ⟨a, c⟩), fun i hi => u3.2.2.2.1 i (fun q hq hi2 => hi q hq ((en q).mp hi2).1 ((en q).mp hi2).2)⟩
  unfold f_X12_flood
  have c0 : (0 : Int32).toNatClampNeg = 0 := rfl
  rw [zlt_b, e40, zck_t _ (zbd_0 (by decide) (by decide)), zlt_b, c0, nI_add, zck_t _ (zbd_nI (by omega) (by decide)), nI_clamp (by omega), zlt_b]
  exact u1
/-- squares whose shape begins before s -/
def asg (S : Nat → Prop) (s q : Nat) : Prop := S q ∧ ∃ a, a < s ∧ S a ∧ clo (bes S) a q
theorem cls_2048' {T : Nat → Prop} {f : Nat → Nat} {k : Nat} (hT : ∀ q, T q → S q ∧ q < 4096) (h : cls T (clo (bes S)) f k) : k ≤ 2048 := by
  have ch : ∀ n, ∃ q, n < k → (T q ∧ f q = n) := fun n => by
    by_cases z : n < k
    · obtain ⟨q, q1⟩ := h.2.2.1 n z; exact ⟨q, fun _ => q1⟩
    · exact ⟨0, fun y => absurd y z⟩
  let r := fun n => Classical.choose (ch n)
  have hr : ∀ n, n < k → T (r n) ∧ f (r n) = n := fun n => Classical.choose_spec (ch n)
  refine pigeon 2048 k (fun n => r n / 2) (fun n hn => ?_) (fun a b ha hb e => ?_)
  · have := (hT _ (hr n hn).1).2
    show r n / 2 < 2048
    omega
  · obtain ⟨a1, a2⟩ := hr a ha
    obtain ⟨b1, b2⟩ := hr b hb
    have e : r a / 2 = r b / 2 := e
    by_cases z : r a = r b
    · rw [← a2, ← b2, z]
    · have ad : adjS (r a) (r b) := by
        refine Or.inl ⟨?_, ?_⟩ <;> omega
      have := (h.2.1 _ _ a1 b1).mpr (clo_b ⟨(hT _ a1).1, (hT _ b1).1, ad⟩)
      omega
theorem m_shapes (hl : l < 24) (hS4 : ∀ q, S q → q < 4096) (hS : ∀ q, q < 4096 → (J0 118 (4096 * l + q) = 0 ↔ ¬ S q)) : ∀ r s k g J f, s + r = 4096 → r < f → cls (asg S s) (clo (bes S)) g k → J 120 l = nI k → (∀ q, q < 4096 → (asg S s q → J 119 (4096 * l + q) = nI (g q)) ∧ (¬ asg S s q → J 119 (4096 * l + q) = -1)) → (∀ p, p ≠ 119 → p ≠ 120 → p ≠ 130 → J p = J0 p) → (∀ i, ¬ (4096 * l ≤ i ∧ i < 4096 * l + 4096) → J 119 i = J0 119 i) → (∀ i, i ≠ l → J 120 i = J0 120 i) →
    ∃ k' g' J', zlp3 f_X12_findShapes_9 f (nI l) (nI s) J = some J' ∧ cls S (clo (bes S)) g' k' ∧ k' ≤ 2048 ∧ J' 120 l = nI k' ∧ (∀ q, q < 4096 → (S q → J' 119 (4096 * l + q) = nI (g' q)) ∧ (¬ S q → J' 119 (4096 * l + q) = -1)) ∧ (∀ p, p ≠ 119 → p ≠ 120 → p ≠ 130 → J' p = J0 p) ∧ (∀ i, ¬ (4096 * l ≤ i ∧ i < 4096 * l + 4096) → J' 119 i = J0 119 i) ∧ (∀ i, i ≠ l → J' 120 i = J0 120 i)
  | _, _, _, _, _, 0, _, h, _, _, _, _, _, _ => absurd h (by omega)
  | 0, s, k, g, J, f + 1, hs, _, h1, h2, h3, h4, h5, h6 => by
    have : s = 4096 := by omega
    subst this
    have eq : ∀ q, asg S 4096 q ↔ S q := fun q => ⟨fun w => w.1, fun w => ⟨w, q, hS4 q w, w, clo_r _ _⟩⟩
    have c := cls_cS h1 eq
    refine ⟨k, g, J, ?_, c, cls_2048' (fun q hq => ⟨hq, hS4 q hq⟩) c, h2, fun q hq => ⟨fun w => (h3 q hq).1 ((eq q).mpr w), fun w => (h3 q hq).2 (fun v => w v.1)⟩, h4, h5, h6⟩
    show f_X12_findShapes_9 _ (nI l) (nI 4096) J = _
    unfold f_X12_findShapes_9
    rw [if_pos (by decide)]
  | r + 1, s, k, g, J, f + 1, hs, hf, h1, h2, h3, h4, h5, h6 => by
    have ih := fun k g J => m_shapes hl hS4 hS r (s + 1) k g J f (by omega) (by omega)
    have e1 : zlp3 f_X12_findShapes_9 (f + 1) (nI l) (nI s) J = f_X12_findShapes_9 (zlp3 f_X12_findShapes_9 f) (nI l) (nI s) J := rfl
    rw [e1]
    generalize zlp3 f_X12_findShapes_9 f = k1 at ih ⊢
    have e40 : (4096 : Int32) * nI l + nI s = nI (4096 * l + s) := by rw [show (4096 : Int32) = nI 4096 from rfl, pk_mul, nI_add]
    have hb : zbd (nI (4096 * l + s)) 98304 = true := zbd_nI (by omega) (by decide)
    have hcl : (nI (4096 * l + s)).toNatClampNeg = 4096 * l + s := nI_clamp (by omega)
    have hb24 : zbd (nI l) 24 = true := zbd_nI hl (by decide)
    have hc24 : (nI l).toNatClampNeg = l := nI_clamp (by omega)
    have k2048 := cls_2048' (S := S) (fun q hq => ⟨hq.1, hS4 q hq.1⟩) h1
    unfold f_X12_findShapes_9 f_X12_findShapes_69
    rw [if_neg (show ¬ (4096 : Int32) ≤ nI s from nI_ge (b := 4096) (by omega) (by decide))]
    simp only [zlt_b, e40, zck_t _ hb, hcl, nI_1]
    rw [h4 118 (by decide) (by decide) (by decide)]
    have same : (∀ q, asg S (s + 1) q ↔ asg S s q) → ∃ k' g' J', k1 (nI l) (nI (s + 1)) J = some J' ∧ cls S (clo (bes S)) g' k' ∧ k' ≤ 2048 ∧ J' 120 l = nI k' ∧ (∀ q, q < 4096 → (S q → J' 119 (4096 * l + q) = nI (g' q)) ∧ (¬ S q → J' 119 (4096 * l + q) = -1)) ∧ (∀ p, p ≠ 119 → p ≠ 120 → p ≠ 130 → J' p = J0 p) ∧ (∀ i, ¬ (4096 * l ≤ i ∧ i < 4096 * l + 4096) → J' 119 i = J0 119 i) ∧ (∀ i, i ≠ l → J' 120 i = J0 120 i) := fun eq =>
      ih k g J (cls_cS h1 (fun q => (eq q).symm)) h2 (fun q hq => by rw [eq q]; exact h3 q hq) h4 h5 h6
    by_cases zs : S s
    · rw [if_neg (fun y => (hS s (by omega)).mp y zs)]
      by_cases za : asg S s s
      · rw [(h3 s (by omega)).1 za, if_neg (nI_m1 (by have := h1.1 s za; omega))]
        refine same fun q => ⟨fun ⟨w1, a, w2, w3, w4⟩ => ?_, fun ⟨w1, a, w2, w3, w4⟩ => ⟨w1, a, by omega, w3, w4⟩⟩
        by_cases y : a = s
        · subst y
          obtain ⟨-, b, b1, b2, b3⟩ := za
          exact ⟨w1, b, b1, b2, clo_t b3 w4⟩
        · exact ⟨w1, a, by omega, w3, w4⟩
      · rw [if_pos ((h3 s (by omega)).2 za), zck_t _ hb24, hc24, h2]
        obtain ⟨J1, u1, u2, u3, u4⟩ := m_flood (S := S) (A := fun q => S q ∧ ¬ asg S s q) (l := l) (n := k) (s := s) (J0 := J) hl (by omega) (fun q hq => by rw [h4 118 (by decide) (by decide) (by decide)]; exact hS q hq) (fun q hq => ⟨fun w => ⟨w.1, (h3 q hq).2 w.2⟩, fun w => ⟨w.1, fun v => by
            rw [(h3 q hq).1 v] at w
            exact nI_m1 (by have := h1.1 q v; omega) w.2⟩⟩) (fun q hq => hS4 q hq.1) (fun q hq => hq.1) (fun x y hx hb => ⟨hb.2.1, fun ⟨_, a, a1, a2, a3⟩ => hx.2 ⟨hx.1, a, a1, a2, clo_t a3 (clo_s (clo_b hb))⟩⟩) ⟨zs, za⟩
        rw [u1, zb1_b, zck_t _ hb24, u2 120 (by decide) (by decide), h2, nI_1, zck_t _ hb24]
        have cst : ∀ q, S q → clo (bes S) s q → ¬ asg S s q := fun q hq hc ⟨_, a, a1, a2, a3⟩ => za ⟨zs, a, a1, a2, clo_t a3 (clo_s hc)⟩
        have eqa : ∀ q, (asg S s q ∨ (S q ∧ clo (bes S) s q)) ↔ asg S (s + 1) q := fun q => by
          constructor
          · rintro (⟨w1, a, w2, w3, w4⟩ | ⟨w1, w2⟩)
            · exact ⟨w1, a, by omega, w3, w4⟩
            · exact ⟨w1, s, by omega, zs, w2⟩
          · rintro ⟨w1, a, w2, w3, w4⟩
            by_cases y : a = s
            · subst y; exact Or.inr ⟨w1, w4⟩
            · exact Or.inl ⟨w1, a, by omega, w3, w4⟩
        have big : ∀ b, S b → clo (bes S) s b → s ≤ b := fun b hb hc => Nat.le_of_not_lt fun y => za ⟨zs, b, y, hb, clo_s hc⟩
        have cl2 := cls_cS (cls_add (C := fun q => S q ∧ clo (bes S) s q) (s := s) h1 ⟨zs, clo_r _ _⟩ (fun a b ha hb => clo_t (clo_s ha.2) hb.2) (fun a b ha hb => ⟨fun w => cst a ha.1 (clo_t hb.2 (clo_s w)) ha, fun w => cst a ha.1 (clo_t hb.2 w) ha⟩) (fun x hx => by
          obtain ⟨q, q1, q2⟩ := h1.2.2.1 x hx
          obtain ⟨q3, a, a1, a2, a3⟩ := q1
          refine ⟨a, ⟨a2, a, a1, a2, clo_r _ _⟩, ?_, fun b hb => by have := big b hb.1 hb.2; omega⟩
          rw [← q2]
          exact (h1.2.1 a q ⟨a2, a, a1, a2, clo_r _ _⟩ ⟨q3, a, a1, a2, a3⟩).mpr a3)) eqa
        refine ih (k + 1) _ (zu J1 120 l (nI (k + 1))) cl2 (zu_eq _ _ _ _) (fun q hq => ?_) (fun p a b c => by rw [zu_pf _ _ b, u2 p a c, h4 p a b c]) (fun i hi => ?_) (fun i hi => by rw [zu_k _ _ hi, u2 120 (by decide) (by decide), h6 i hi])
        · rw [zu_p _ _ (by decide), ← eqa q]
          by_cases w : S q ∧ clo (bes S) s q
          · rw [fadd_t w]
            exact ⟨fun _ => u3 q hq ⟨w.1, cst q w.1 w.2⟩ w.2, fun v => absurd (Or.inr w) v⟩
          · rw [fadd_f w, u4 (4096 * l + q) (fun q' hq' ha hc => by
              intro e
              have : q = q' := by omega
              subst this
              exact w ⟨ha.1, hc⟩)]
            exact ⟨fun v => (h3 q hq).1 (v.resolve_right w), fun v => (h3 q hq).2 (fun u => v (Or.inl u))⟩
        · rw [zu_p _ _ (by decide), u4 i (fun q' hq' _ _ => by omega)]; exact h5 i hi
    · rw [if_pos ((hS s (by omega)).mpr zs)]
      refine same fun q => ⟨fun ⟨w1, a, w2, w3, w4⟩ => ?_, fun ⟨w1, a, w2, w3, w4⟩ => ⟨w1, a, by omega, w3, w4⟩⟩
      have : a ≠ s := fun y => zs (y ▸ w3)
      exact ⟨w1, a, by omega, w3, w4⟩
end Fl
