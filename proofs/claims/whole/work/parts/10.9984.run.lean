/-! run -/
theorem dm_of {P : Nat} {D : Nat → Nat → Nat} {I : zI} (hp : RPlan P I) (hd : RDraw I) (dc : DC P D I) (dv : DV D) : DM D I := by
  obtain ⟨ec, em, ev⟩ := zD_ok hp hd
  generalize zD P I = E at ec em ev
  obtain ⟨c1, c2, c3, c4, c5, c6, c7⟩ := dc
  obtain ⟨e1, e2, e3, e4, e5, e6, e7⟩ := ec
  obtain ⟨m1, m2, m3, m4, m5, m6, m7⟩ := em
  have b := dv.1
  have b' := ev.1
  have k0 : E 0 0 = D 0 0 := (nI_eq (by omega) (by omega)).mp ((e1 0 (by omega)).symm.trans (c1 0 (by omega)))
  have k1 : E 0 1 = D 0 1 := (nI_eq (by omega) (by omega)).mp ((e1 1 (by omega)).symm.trans (c1 1 (by omega)))
  have k2 : E 0 2 = D 0 2 := (nI_eq (by omega) (by omega)).mp ((e1 2 (by omega)).symm.trans (c1 2 (by omega)))
  have k3 : E 0 3 = D 0 3 := (nI_eq (by omega) (by omega)).mp ((e1 3 (by omega)).symm.trans (c1 3 (by omega)))
  have k4 : E 0 4 = D 0 4 := (nI_eq (by omega) (by omega)).mp (e2.symm.trans c2)
  refine ⟨fun i hi => by rw [m1 i hi, ← e1 i hi, c1 i hi], by rw [m2, k4], fun l hl => ?_, fun w hw => ?_, fun j hj => ?_, fun k hk => ?_, fun p hp => ?_⟩
  · obtain ⟨x1, x2, x3⟩ := c3 l hl
    obtain ⟨y1, y2, y3⟩ := e3 l (by omega)
    obtain ⟨z1, z2, z3⟩ := m3 l (by omega)
    have a := (dv.2.1 l hl).1
    have a' := (ev.2.1 l (by omega)).1
    have ew : E 1 l = D 1 l := (nI_eq (by omega) (by omega)).mp (y1.symm.trans x1)
    exact ⟨by rw [z1, ew], by rw [z2, ← y2, x2], fun h => by rw [z3 (by omega), ← y3 (by omega), x3 h]⟩
  · rw [m4 w (by omega), ← e4 w (by omega), c4 w hw]
  · obtain ⟨x1, x2, x3⟩ := c5 j hj
    obtain ⟨y1, y2, y3⟩ := e5 j (by omega)
    obtain ⟨z1, z2, z3⟩ := m5 j (by omega)
    exact ⟨by rw [z1, ← y1, x1], by rw [z2, ← y2, x2], by rw [z3, ← y3, x3]⟩
  · obtain ⟨x1, x2, x3⟩ := c6 k hk
    obtain ⟨y1, y2, y3⟩ := e6 k (by omega)
    obtain ⟨z1, z2, z3⟩ := m6 k (by omega)
    have a := (dv.2.2.2.2.1 k hk).2.2.1
    have a' := (ev.2.2.2.2.1 k (by omega)).2.2.1
    have ew : E 9 k = D 9 k := (nI_eq (by omega) (by omega)).mp (y2.symm.trans x2)
    exact ⟨by rw [z1, ← y1, x1], by rw [z2, ew], fun i hi => by rw [z3 i (by omega), ← y3 i (by omega), x3 i hi]⟩
  · obtain ⟨x1, x2, x3⟩ := c7 p hp
    obtain ⟨y1, y2, y3⟩ := e7 p (by omega)
    obtain ⟨z1, z2, z3⟩ := m7 p (by omega)
    have a := (dv.2.2.2.2.2 p hp).2.1
    have a' := (ev.2.2.2.2.2 p (by omega)).2.1
    have ew : E 12 p = D 12 p := (nI_eq (by omega) (by omega)).mp (y2.symm.trans x2)
    refine ⟨by rw [z1, ← y1, x1], by rw [z2, ew], fun k hk => ?_⟩
    obtain ⟨u1, u2⟩ := x3 k hk
    obtain ⟨v1, v2⟩ := y3 k (by omega)
    obtain ⟨w1, w2⟩ := z3 k (by omega)
    exact ⟨by rw [w1, ← v1, u1], by rw [w2, ← v2, u2]⟩
theorem zNode_eq {D : Nat → Nat → Nat} {J : zI} {w q : Nat} (hv : DV D) (h : RNo D J) (hw : w < D 0 1) (hq : q < 4096) : zNode J w q = nod D w q := by
  have v1 := hv.1.1
  have w3 := hv.2.2.1 w hw
  unfold zNode
  rw [h.1.2.2.2.1 w hw, nI_clamp (by omega), (h.2.1 _ w3).2 q hq, h.2.2 w hw]
  by_cases z : SqS D (D 4 w) q
  · rw [shi_t z, if_neg (nI_m1 (by have := shf_lt z; omega)), nI_add, nod_t z]
  · rw [shi_f z, if_pos rfl, nod_f z]
theorem zNet_eq {D : Nat → Nat → Nat} {J : zI} {x : Int32} (hv : DV D) (h : RNt D J) (hx : x = -1 ∨ ∃ m, m < ndn D ∧ x = nI m) : zNet J x = gN D x := by
  have := ndn_le hv
  unfold zNet gN
  rcases hx with rfl | ⟨m, m1, rfl⟩
  · rw [if_pos rfl, if_pos rfl]
  · rw [if_neg (nI_m1 (by omega)), if_neg (nI_m1 (by omega)), nI_clamp (by omega), h.1 m m1]
theorem rfound {P : Nat} {D : Nat → Nat → Nat} {I : zI} {L : zL} (hv : DV D) (dc : DC P D I) (hc : SpecC D I) (hm : SpecM D I L) : RFound P I L := by
  obtain ⟨c1, c2, c3, c4, c5, c6⟩ := hc
  obtain ⟨m1, m2, m3, m4, m5⟩ := hm
  have hnd := ndn_le hv
  have hnn := nns_le D
  have v := hv.1
  refine ⟨dof D (D 0 3), nns D, ndn D, D 0 1, D 0 3, c1, by omega, hnd, v.2.1, v.2.2.2.1, c2, m2, c5.2.2, m5.2, dc.1 1 (by omega), dc.1 3 (by omega), fun d hd => ?_, fun kd hkd => ?_, fun m hm => ⟨gn D m, gn_lt hm, c5.2.1 m hm, m5.1 m hm⟩, fun w q hw hq => ?_, fun t w q t1 t2 t3 t4 t5 t6 => ?_⟩
  · obtain ⟨k, pl, k1, k2, rfl⟩ := dof_dec _ d hd
    obtain ⟨x1, x2, pn, x3, x4, ⟨q, x5, x6, x7⟩, x8, x9, x10, x11⟩ := c3.1 k pl k1 k2
    obtain ⟨y1, y2, pm, y3, y4, ⟨q', y5, y6, y7⟩, y8, y9, y10, y11⟩ := m3.1 k pl k1 k2
    obtain ⟨z1, z2, z3, z4⟩ := hv.2.2.2.2.1 k k1
    have e := PinS_u hv x3 y3
    have sk := shk_le D (D 8 k)
    have e0 : pn 0 = pm 0 := e 0 (by omega)
    have eq : q' = q := by have := x7 q' y6; have := y7 q x6; omega
    have hs0 : sz0 (PlSq D (D 8 k) pl) ≤ 1 * 4096 := sm_le (fun i => iv_le _) 4096
    have hs1 : sz1 (PlSq D (D 8 k) pl) ≤ 4 * 4096 := sm_le (fun i => w4_le _) 4096
    have hs2 : sz2 (PlSq D (D 8 k) pl) (PinQ D (PlSq D (D 8 k) pl) k (pn 0)) ≤ 4 * 4096 := sm_le (fun i => w4_le _) 4096
    refine ⟨k, k1, x1, y1, ⟨pl, by omega, x2, y2⟩, ?_, ⟨q, x6.1.1, x5, by rw [y5, eq]⟩, fun w hw => ?_, fun i hi hlt => ?_⟩
    · rcases x4 with ⟨a, b⟩ | ⟨a, b⟩ <;> rcases y4 with ⟨a', b'⟩ | ⟨a', b'⟩
      · exact Or.inr ⟨a, a'⟩
      · exact absurd ((BadS_cg e).mp b) b'
      · exact absurd ((BadS_cg e).mpr b') b
      · exact Or.inl ⟨a, a'⟩
    · have : w = 0 ∨ w = 1 ∨ w = 2 := by omega
      rcases this with rfl | rfl | rfl
      · exact ⟨_, by omega, x8, y8⟩
      · exact ⟨_, by omega, x9, y9⟩
      · exact ⟨_, by omega, x10, by rw [y10, e0]⟩
    · rw [(m4.1.2.2.2.2.2.1 k k1).2.1] at hlt
      have hi' : i < D 9 k := (nI_ltI (by omega) (by omega)).mp hlt
      have hor : pm i = -1 ∨ ∃ m, m < ndn D ∧ pm i = nI m := LF_or (fun x (hx : tch D (PlSq D (D 8 k) pl) (D 10 (4 * k + i)) x) => hx.1) (y3 i hi')
      rw [x11 i hi', y11 i hi', e i hi', zNet_eq hv m5 hor]
      exact ⟨rfl, hor⟩
  · obtain ⟨z1, z2, z3, z4⟩ := hv.2.2.2.2.1 kd hkd
    exact ⟨D 9 kd, z3, (m4.1.2.2.2.2.2.1 kd hkd).2.1, c4 kd hkd⟩
  · rw [zNode_eq hv m4 hw hq]
    exact ⟨c5.1 w q hw hq, nod_or hw q⟩
  · rw [c6 t w q t1 t2 t3 t4 t5 t6]
    by_cases z : w < D 0 1
    · rw [if_pos z, if_pos z, zNode_eq hv m4 z t6, zNet_eq hv m5 (nod_or z q)]
    · rw [if_neg z, if_neg z]
theorem inv_run {P Q : Nat} {I J : zI} {L M : zL} (hp : zpq P Q) (h : zInvP P Q I L) (f1 : ∀ p, p ≠ 0 → p < 57 → p ≠ 30 → J p = I p) (f0 : ∀ k, k ≠ 10 → J 0 k = I 0 k) (f2 : ∀ p, (84 ≤ p ∧ p ≤ 96) ∨ (98 ≤ p ∧ p ≤ 117) → J p = I p) (f97 : ∀ i, i ≠ 0 → i ≠ 30 → i ≠ 35 → i ≠ 38 → i ≠ 39 → J 97 i = I 97 i) (fl : RFlag J) (pe : RPeel J M) (fo : J 0 10 = 1 → RFound P J M ∧ Fnd P J) : zInvP P Q J M := by
  obtain ⟨h1, h2, h3, h4, h5, h6, h7, h8, h9, h10⟩ := h
  have eP : ∀ k, k ≤ 12 → J (P + k) = I (P + k) := fun k hk => by
    rcases hp with ⟨rfl, -⟩ | ⟨rfl, -⟩
    · exact f2 _ (Or.inl (by omega))
    · exact f1 _ (by omega) (by omega) (by omega)
  refine ⟨by rw [f0 8 (by decide)]; exact h1, by rw [f1 3 (by decide) (by decide) (by decide)]; exact h2, h3.cg (f0 0 (by decide)) (f97 1 (by decide) (by decide) (by decide) (by decide) (by decide)) (by rw [f1 3 (by decide) (by decide) (by decide)]), h4.cg (by rw [f1 1 (by decide) (by decide) (by decide)]) (f97 29 (by decide) (by decide) (by decide) (by decide) (by decide)) (f1 2 (by decide) (by decide) (by decide)) (f2 117 (by omega)), h5.cg (by rw [f1 20 (by decide) (by decide) (by decide)]) (f97 2 (by decide) (by decide) (by decide) (by decide) (by decide)) (fun p hp => ?_), h6.cg (by rw [f1 26 (by decide) (by decide) (by decide)]) (f97 7 (by decide) (by decide) (by decide) (by decide) (by decide)) (fun p hp => ?_), h7.cg (fun k _ _ => by have := eP 0 (by omega); rw [Nat.add_zero] at this; rw [this]) (fun k a b => f97 k (by omega) (by omega) (by omega) (by omega) (by omega)) (fun k hk => by
    have := eP (1 + k) (by omega)
    rw [show P + 1 + k = P + (1 + k) by omega]; exact this) (fun p a b _ => f2 p (by omega)), fl, pe, fo⟩
  · rcases hp with h | h | h | h | h | h | h | h
    · exact f1 p (by omega) (by omega) (by omega)
    · exact f1 p (by omega) (by omega) (by omega)
    · exact f1 p (by omega) (by omega) (by omega)
    · exact f1 p (by omega) (by omega) (by omega)
    · exact f2 p (by omega)
    · exact f2 p (by omega)
    · exact f2 p (by omega)
    · exact f2 p (by omega)
  · rcases hp with h | h | h | h | h | h
    · exact f1 p (by omega) (by omega) (by omega)
    · exact f1 p (by omega) (by omega) (by omega)
    · exact f1 p (by omega) (by omega) (by omega)
    · exact f2 p (by omega)
    · exact f2 p (by omega)
    · exact f2 p (by omega)
theorem e_thr2 {I : zI} {k : Int32} (h : I 97 0 = k) : f_X12_thrown I = some k := by
  unfold f_X12_thrown
  rw [h, zlt_b]
theorem sx_run : Sx_run zInv := by
  intro I L ⟨P, Q, hp, h⟩
  have hPl := zpq_l hp
  refine ⟨P, hPl, ?_⟩
  obtain ⟨h1, h2, h3, h4, h5, h6, h7, h8, h9, h10⟩ := id h
  rcases h8.1 with ⟨t1, t2⟩ | ⟨t1, t2⟩
  · -- nothing is told
    refine ⟨1, 1, I, L, 0, zu I 97 0 1, L, by omega, ?_, ?_, e_thr _, fun z => absurd z (by decide), inv_thr' hp h 1⟩
    · unfold w_run f_X11_run f_X11_mustBeTrue
      rw [if_pos t1, zb1_b]
      rfl
    · unfold f_X12_run f_X12_run_13
      rw [if_pos t2, zlt_b, zu_eq, if_neg (by decide)]
  · have mt : f_X11_mustBeTrue (I 0 9) = some (.inl ()) := by
      unfold f_X11_mustBeTrue
      rw [if_neg (by rw [t1]; exact n10)]
    rcases h8.2 with ⟨g1, g2⟩ | ⟨g1, g2, -⟩
    · -- a search
      obtain ⟨dc, dm, dv⟩ := zD_ok h7 h5
      obtain ⟨b, I', L', a1, a2, a3, a4, a5⟩ := c_findAll hPl h1 h5 h6 h7 h9
      have hb : b = 0 ∨ b = 1 := a5.imp (fun w => w.1) (fun w => w.1)
      have hzb : zbo b = true := by rcases hb with rfl | rfl <;> decide
      have run : f_X11_run P I L = f_X11_run_22 P (zu I' 0 10 b) L' := by
        unfold f_X11_run
        rw [mt, zb1_b]
        show (if I 0 10 = 0 then _ else _) = _
        rw [if_pos g1, a1, zb3_b, zck_t _ hzb, zlt_b]
      have f9 : ∀ p, p ≠ 0 → zu I' 0 10 b p = I' p := fun p hp => zu_pf _ _ hp
      have dm9 : DM (zD P I) (zu I' 0 10 b) := dm.cg (fun p a _ => by rw [f9 p (by omega), (a3 p).2 (by omega)]) (fun j _ => by rw [f9 97 (by decide), (a3 97).2 (by decide)])
      obtain ⟨L1, d1, -, d3⟩ := c_draw (L := L) dv dc
      have pe9 : ∀ {J : zI} {M : zL}, J 57 = I' 57 → M 58 = L' 58 → RPeel J M := fun e1 e2 => a2.cg (by rw [e1]) (by rw [e1]) e2
      rcases a5 with ⟨rfl, c1⟩ | ⟨rfl, c1⟩
      · obtain ⟨v, J, M, r1, r2, r3, r4⟩ := m_run (J := zu I' 0 10 0) (L := L') dv dm9 d3 (by rw [f9 97 (by decide), (a3 97).2 (by decide)]; exact t2)
        rcases r4 with ⟨-, r5, r6⟩ | ⟨-, -, -, r5⟩
        · refine ⟨2, 1, zu I' 0 10 0, L', v, J, M, by omega, ?_, r1, e_thr2 r5, fun z => absurd z (by decide), P, Q, hp, ?_⟩
          · unfold w_run
            rw [run]
            unfold f_X11_run_22
            rw [zu_eq, if_pos rfl, zb3_b]
            rfl
          · have j0 : J 0 = zu I' 0 10 0 0 := r2.1 0 (by decide)
            refine inv_run hp h (fun p x y z => by rw [r2.1 p (by omega), f9 p x, (a3 p).1 y z]) (fun k hk => by rw [j0, zu_k _ _ hk, (a3 0).1 (by decide) (by decide)]) (fun p hp => by rw [r2.1 p (by omega), f9 p (by omega), (a3 p).2 (by omega)]) (fun i x y z u w => by rw [r2.2 i x y z u w, f9 97 (by decide), (a3 97).2 (by decide)]) ⟨Or.inr ⟨?_, ?_⟩, Or.inl ⟨by rw [j0, zu_eq], r6⟩⟩ (pe9 (by rw [r2.1 57 (by decide), f9 57 (by decide)]) (r3 58 (by decide))) (fun w => ?_)
            · rw [j0, zu_k _ _ (by decide), (a3 0).1 (by decide) (by decide)]; exact t1
            · rw [r2.2 11 (by decide) (by decide) (by decide) (by decide) (by decide), f9 97 (by decide), (a3 97).2 (by decide)]; exact t2
            · rw [j0, zu_eq] at w; exact absurd w.symm n10
        · have := r5.1; omega
      · obtain ⟨v, J, M, r1, r2, r3, r4⟩ := m_run (J := zu I' 0 10 1) (L := zul L' 133 0 (zu I' 0 10 1 73 7).toInt64) dv dm9 d3 (by rw [f9 97 (by decide), (a3 97).2 (by decide)]; exact t2)
        rcases r4 with ⟨r5, -⟩ | ⟨r5, r6, r7, r8⟩
        · have := c1.1; omega
        · have j0 : J 0 = zu I' 0 10 1 0 := r2.1 0 (by decide)
          have sc : SpecC (zD P I) J := c1.cg dv (fun p hp => by rw [r2.1 p (by omega), f9 p (by omega)])
          have fd1 : ∀ p, p ≠ 0 → p < 57 → p ≠ 30 → J p = I p := fun p x y z => by rw [r2.1 p (by omega), f9 p x, (a3 p).1 y z]
          have fd2 : ∀ p, (84 ≤ p ∧ p ≤ 96) ∨ (98 ≤ p ∧ p ≤ 117) → J p = I p := fun p hp => by rw [r2.1 p (by omega), f9 p (by omega), (a3 p).2 (by omega)]
          have dcJ : DC P (zD P I) J := dc.cg hPl (fun p x y => fd1 p (by omega) (by omega) (by omega)) (fun p x y => fd2 p (Or.inl ⟨x, y⟩))
          refine ⟨0, 0, zu I' 0 10 1, zul L' 133 0 (zu I' 0 10 1 73 7).toInt64, v, J, M, by omega, ?_, r1, e_thr2 r5, fun _ => ?_, P, Q, hp, ?_⟩
          · unfold w_run
            rw [run]
            unfold f_X11_run_22
            rw [zu_eq, if_neg n10, zlt_b, zb3_b]
            rfl
          · rw [r3 133 (by decide), zul_eq, r7, f9 73 (by decide), c1.2.1]
          · refine inv_run hp h fd1 (fun k hk => by rw [j0, zu_k _ _ hk, (a3 0).1 (by decide) (by decide)]) fd2 (fun i x y z u w => by rw [r2.2 i x y z u w, f9 97 (by decide), (a3 97).2 (by decide)]) ⟨Or.inr ⟨?_, ?_⟩, Or.inr ⟨by rw [j0, zu_eq], r6, ?_⟩⟩ (pe9 (by rw [r2.1 57 (by decide), f9 57 (by decide)]) (by rw [r3 58 (by decide), zul_pf _ _ (by decide)])) (fun _ => ⟨rfound dv dcJ sc r8, I, L, I', L', h1, h5, h6, h7, h9, a1, fun p hp => by rw [r2.1 p (by omega), f9 p (by omega)], dv, dcJ⟩)
            · rw [j0, zu_k _ _ (by decide), (a3 0).1 (by decide) (by decide)]; exact t1
            · rw [r2.2 11 (by decide) (by decide) (by decide) (by decide) (by decide), f9 97 (by decide), (a3 97).2 (by decide)]; exact t2
            · rw [j0, zu_k _ _ (by decide), (a3 0).1 (by decide) (by decide)]; exact t1
    · -- it was found before
      obtain ⟨-, fo⟩ := h10 g1
      obtain ⟨D, dv, dc, sc⟩ := fo.spec hPl
      have dm := dm_of h7 h5 dc dv
      obtain ⟨L1, d1, -, d3⟩ := c_draw (L := L) dv dc
      obtain ⟨v, J, M, r1, r2, r3, r4⟩ := m_run (J := I) (L := zul L 133 0 (I 73 7).toInt64) dv dm d3 t2
      rcases r4 with ⟨r5, -⟩ | ⟨r5, r6, r7, r8⟩
      · have := sc.1; omega
      · have fd1 : ∀ p, p ≠ 0 → p < 57 → p ≠ 30 → J p = I p := fun p x y z => r2.1 p (by omega)
        have scJ : SpecC D J := sc.cg dv (fun p hp => r2.1 p (by omega))
        have fd2 : ∀ p, (84 ≤ p ∧ p ≤ 96) ∨ (98 ≤ p ∧ p ≤ 117) → J p = I p := fun p hp => r2.1 p (by omega)
        have dcJ : DC P D J := dc.cg hPl (fun p x y => fd1 p (by omega) (by omega) (by omega)) (fun p x y => fd2 p (Or.inl ⟨x, y⟩))
        refine ⟨0, 0, I, zul L 133 0 (I 73 7).toInt64, v, J, M, by omega, ?_, r1, e_thr2 r5, fun _ => ?_, P, Q, hp, ?_⟩
        · unfold w_run f_X11_run
          rw [mt, zb1_b]
          show zb3 (if I 0 10 = 0 then _ else _) _ = _
          rw [if_neg (by rw [g1]; exact n10)]
          unfold f_X11_run_22
          rw [if_neg (by rw [g1]; exact n10), zlt_b, zb3_b]
          rfl
        · rw [r3 133 (by decide), zul_eq, r7, sc.2.1]
        · have j0 : J 0 = I 0 := r2.1 0 (by decide)
          exact inv_run hp h fd1 (fun k _ => by rw [j0]) fd2 (fun i x y z u w => r2.2 i x y z u w) ⟨Or.inr ⟨by rw [j0]; exact t1, by rw [r2.2 11 (by decide) (by decide) (by decide) (by decide) (by decide)]; exact t2⟩, Or.inr ⟨by rw [j0]; exact g1, r6, by rw [j0]; exact t1⟩⟩ (h9.cg (by rw [r2.1 57 (by decide)]) (by rw [r2.1 57 (by decide)]) (by rw [r3 58 (by decide), zul_pf _ _ (by decide)])) (fun _ => ⟨rfound dv dcJ scJ r8, fo.cg (fun p hp => r2.1 p (by omega)) (fun D' _ hd => hd.cg hPl (fun p x y => fd1 p (by omega) (by omega) (by omega)) (fun p x y => fd2 p (Or.inl ⟨x, y⟩)))⟩)
