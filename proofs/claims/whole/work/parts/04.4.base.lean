section Zr4
variable {p : Program} {l : Launch} {e : Env} {R : Room} {s : State} {m : MethodId} {args : Array Value} {below : List Frame} {meth : Method} {c : Code} {s0 : State} {a0 : Array Value} {d : va_G} {cy : Nat → ClassId} {B0 : Nat} {own : String} {cc : ByteArray} {nL : Nat} {ret : Option FieldType} {bc0 bs0 bcF bsF fr lo : Nat} {tb : List ExceptionTableEntry} {Q : State → Prop} {pc : Nat} {lv : List (Nat × Value)} {st : List Value} {sh : zS} {sz bc bs : Nat} {I : zI} {L : zL}
/-! calls -/
theorem z_pre (C : zC p l e R s m args below meth c s0 a0 d cy B0 own cc nL ret bc0 bs0 bcF bsF fr lo tb) {H : Heap} {locs : List Loc} {cells slots : Nat} {bc1 bs1 : Nat} {As : List Value} {T : State} (hT : T.heap = H) (h2 : zRep d cy B0 sh sz I L H) (h3 : bc0 + cells = bc) (h4 : bs0 + slots = bs) (h6 : ∀ q : Nat, q < B0 → H[q]? = s.heap[q]?) (hz : bc ≤ bc1 ∧ bc1 ≤ bcF ∧ bs ≤ bs1 ∧ bs1 ≤ bsF) {vm₁ : Vm} (hW : s.WarmedH vm₁) :
    PreOf R (bc1 - bc) (bs1 - bs) (fun a U => a = As.toArray ∧ zSys s0 B0 U ∧ zRep d cy B0 sh sz I L U.heap) ⟨T.setVm vm₁, locs, cells, slots⟩ As.toArray := by
  have hR : R = { frames := fr, cells := bcF - bc0, slots := bsF - bs0, locals := lo } := C.2.2.2.2.2.2.2.2.1
  have hr1 : R.cells = bcF - bc0 := by rw [hR]
  have hr2 : R.slots = bsF - bs0 := by rw [hR]
  refine ⟨?_, ?_, rfl, z_sys C (T := T.setVm vm₁) hW (fun q hq => ?_), ?_⟩
  · show cells + (bc1 - bc) ≤ R.cells
    omega
  · show slots + (bs1 - bs) ≤ R.slots
    omega
  · show T.heap[q]? = _
    rw [hT]; exact h6 q hq
  · show zRep d cy B0 sh sz I L T.heap
    rw [hT]; exact h2
theorem z_callS (C : zC p l e R s m args below meth c s0 a0 d cy B0 own cc nL ret bc0 bs0 bcF bsF fr lo tb) {idx : Nat} (hd : decode cc pc = .ok (.invokestatic idx, 3)) {y : MethodName} {cc1 : ByteArray} {nL1 n1 : Nat} {ret1 : Option FieldType} {fr1 lo1 : Nat} {As : List Value} {v : Option Value} {sh1 : zS} {sz1 bc1 bs1 : Nat} {I1 : zI} {L1 : zL} (hY : zY y cc1 nL1 ret1 n1)
    (hM : zM l s0 d cy B0 y cc1 nL1 ret1 fr1 lo1 As sh sz bc bs I L (.inl v) sh1 sz1 bc1 bs1 I1 L1) (hlk : Cond.methodLink own idx y ∈ lw_tbl) (hst : Cond.static y ∈ lw_tbl) (hfr : fr1 + 1 ≤ fr) (hlo : 8 + (nL1 + 11) + lo1 ≤ lo) (hn : As.length = n1) {stk : List Value} (hs : stk = As.reverse ++ st) (hw : (st.map fun v => v.category).sum ≤ 8) (hz : bc ≤ bc1 ∧ bc1 ≤ bcF ∧ bs ≤ bs1 ∧ bs1 ≤ bsF)
    (kk : zG p l e R s m args below meth c d cy B0 nL bc0 bs0 Q (pc + 3) lv (v.toList ++ st) sh1 sz1 bc1 bs1 I1 L1) : zG p l e R s m args below meth c d cy B0 nL bc0 bs0 Q pc lv stk sh sz bc bs I L := by
  intro ls H locs cells slots h1 h2 h3 h4 h5 h6
  subst hs
  intro T hT X
  rcases vx_callS X C.1 (bytes := cc1) (maxL := nL1) (ret := ret1) C.2.2.2.1 (z_word C hlk rfl) (z_word C hst rfl) (z_word C hY.2.1 rfl) (z_word C hY.1 rfl) hY.2.2.1 (z_back C hY hM hfr hlo) (g := F0 m pc ls (As.reverse ++ st)) rfl (h1.1.trans C.2.2.1.symm) (argsL := As) (rest := st) (fun sig h => hn.trans (hY.len sig h)) rfl (lv_room hw) (by rw [C.2.1]; exact hd)
    (fun vm₁ hW => z_pre C hT h2 h3 h4 h6 hz hW) with ⟨v', vm₁, ⟨U', l2, c2, s2⟩, hW₁, X', ⟨g', mk, t, L9, e1, e2, hq, hl2, hL, hc2, hs2⟩, stp⟩ | ⟨q, vm₁, ⟨U', l2, c2, s2⟩, hW₁, X', ⟨g', mk, t, L9, E, ce, e1, e2, hq, hce, hcv, hcl, hl2, hL, hc2, hs2⟩, stp⟩
  · dsimp only [Pt.U, Pt.locs, Pt.cells, Pt.slots] at X' e1 e2 hl2 hc2 hs2 stp
    subst hl2; subst hc2; subst hs2
    obtain ⟨v2, hr, ho, hrep, hlow⟩ := hq
    cases ho
    cases hr
    obtain ⟨t2, a1, b1⟩ := kk ls U'.heap (locs ++ L9) (cells + (bc1 - bc)) (slots + (bs1 - bs)) h1 (by rw [e1]; exact hrep) (by omega) (by omega) (zapp h5 hL) (fun q hq => by
      rw [e1, hlow q hq]
      show T.heap[q]? = _
      rw [hT]; exact h6 q hq) U' rfl X'
    exact ⟨t2, stp t2 a1, b1⟩
  · exact absurd hq.1 (by intro h; cases h)
/-- a call that throws, and is not caught here -/
theorem z_callSX (C : zC p l e R s m args below meth c s0 a0 d cy B0 own cc nL ret bc0 bs0 bcF bsF fr lo tb) {idx : Nat} (hd : decode cc pc = .ok (.invokestatic idx, 3)) {y : MethodName} {cc1 : ByteArray} {nL1 n1 : Nat} {ret1 : Option FieldType} {fr1 lo1 : Nat} {As : List Value} {E1 : String} {sh1 : zS} {sz1 bc1 bs1 : Nat} {I1 : zI} {L1 : zL} (hY : zY y cc1 nL1 ret1 n1)
    (hM : zM l s0 d cy B0 y cc1 nL1 ret1 fr1 lo1 As sh sz bc bs I L (.inr E1) sh1 sz1 bc1 bs1 I1 L1) (hlk : Cond.methodLink own idx y ∈ lw_tbl) (hst : Cond.static y ∈ lw_tbl) (hfr : fr1 + 1 ≤ fr) (hlo : 8 + (nL1 + 11) + lo1 ≤ lo) (hn : As.length = n1) {stk : List Value} (hs : stk = As.reverse ++ st) (hw : (st.map fun v => v.category).sum ≤ 8) (hz : bc ≤ bc1 ∧ bc1 ≤ bcF ∧ bs ≤ bs1 ∧ bs1 ≤ bsF) (htb : tb = [])
    {r : Option Value ⊕ String} (hr : r = .inr E1) : zG p l e R s m args below meth c d cy B0 nL bc0 bs0 (zQ below s args d cy B0 bc0 bs0 r sh1 sz1 bc1 bs1 I1 L1) pc lv stk sh sz bc bs I L := by
  intro ls H locs cells slots h1 h2 h3 h4 h5 h6
  subst hs
  subst hr
  have htb2 : c.exceptionTable.toList = tb := C.2.2.2.2.2.2.2.2.2
  intro T hT X
  rcases vx_callS X C.1 (bytes := cc1) (maxL := nL1) (ret := ret1) C.2.2.2.1 (z_word C hlk rfl) (z_word C hst rfl) (z_word C hY.2.1 rfl) (z_word C hY.1 rfl) hY.2.2.1 (z_back C hY hM hfr hlo) (g := F0 m pc ls (As.reverse ++ st)) rfl (h1.1.trans C.2.2.1.symm) (argsL := As) (rest := st) (fun sig h => hn.trans (hY.len sig h)) rfl (lv_room hw) (by rw [C.2.1]; exact hd)
    (fun vm₁ hW => z_pre C hT h2 h3 h4 h6 hz hW) with ⟨v', vm₁, ⟨U', l2, c2, s2⟩, hW₁, X', ⟨g', mk, t, L9, e1, e2, hq, hl2, hL, hc2, hs2⟩, stp⟩ | ⟨q, vm₁, ⟨U', l2, c2, s2⟩, hW₁, X', ⟨g', mk, t, L9, E, ce, e1, e2, hq, hce, hcv, hcl, hl2, hL, hc2, hs2⟩, stp⟩
  · obtain ⟨v2, hr, -⟩ := hq
    cases hr
  · dsimp only [Pt.U, Pt.locs, Pt.cells, Pt.slots] at X' e1 e2 hl2 hc2 hs2 stp hcl
    subst hl2; subst hc2; subst hs2
    obtain ⟨hr, hrep, hlow⟩ := hq
    cases hr
    obtain ⟨t2, a1, b1⟩ := vx_out (Qc := zQc d cy B0 (.inr E1) sh1 sz1 I1 L1) (XC := zXc d cy B0 (.inr E1) sh1 sz1 I1 L1) (E := E1) (ce := ce) (q := q) (mc := bc1 - bc0) (ms := bs1 - bs0) (free := fun a => B0 ≤ a) (H := U'.heap) (pc := pc) (ls := ls) (rest := st) (locs := locs ++ L9) (cells := cells + (bc1 - bc)) (slots := slots + (bs1 - bs)) (by rw [htb2, htb]; intro x hx; cases hx) C.2.2.2.2.2.2.1 (by rw [e1]; exact hce) hcv (vx_cls hW₁ hcl)
      (fun t9 ht9 _ => ⟨rfl, by rw [ht9, e1]; exact hrep, fun z hz => by
        rw [ht9, e1, hlow z hz]
        show T.heap[z]? = _
        rw [hT]; exact h6 z hz⟩) (zapp h5 hL) (by omega) (by omega) U' rfl X'
    exact ⟨t2, stp.trans a1, b1⟩
theorem z_recv (C : zC p l e R s m args below meth c s0 a0 d cy B0 own cc nL ret bc0 bs0 bcF bsF fr lo tb) {CC : String} {TT : u_T} {NN : Nat} {ty : Nat → FieldType} {ci q : Nat} (hc : zcls ci CC TT NN ty) (hks : (sh q).1 = ci) (hq : q < sz) {H : Heap} (h2 : zRep d cy B0 sh sz I L H) : ∃ cell : Cell, H[B0 + q]? = some cell ∧ cell.vm.isStatics = false ∧ s.vm.findClass CC = some cell.cls := by
  have hlt : ci < 13 := (List.getElem?_eq_some_iff.mp hc.1).1
  obtain ⟨cell, q1, q2, q3, q4⟩ := zat_obj (h2.2 q hq) hks hlt
  exact ⟨cell, q1, by rw [q3]; rfl, by rw [q2]; exact ((z_K C).1 ci _ hc.1).2.1⟩
theorem z_callV (C : zC p l e R s m args below meth c s0 a0 d cy B0 own cc nL ret bc0 bs0 bcF bsF fr lo tb) {CC : String} {TT : u_T} {NN : Nat} {ty : Nat → FieldType} {ci q0 : Nat} (hc : zcls ci CC TT NN ty) (hks : (sh q0).1 = ci) (hq0 : q0 < sz) {idx : Nat} (hd : decode cc pc = .ok (.invokevirtual idx, 3)) {y : MethodName} {cc1 : ByteArray} {nL1 n1 : Nat} {ret1 : Option FieldType} {fr1 lo1 : Nat} {As : List Value} {v : Option Value} {sh1 : zS} {sz1 bc1 bs1 : Nat} {I1 : zI} {L1 : zL} (hY : zY y cc1 nL1 ret1 n1)
    (hM : zM l s0 d cy B0 y cc1 nL1 ret1 fr1 lo1 (.ref (B0 + q0) :: As) sh sz bc bs I L (.inl v) sh1 sz1 bc1 bs1 I1 L1) (hlk : Cond.methodLink own idx y ∈ lw_tbl) (hin : Cond.instanceMethod y ∈ lw_tbl) (hse : Cond.selects CC y y ∈ lw_tbl) (hfr : fr1 + 1 ≤ fr) (hlo : 8 + (nL1 + 11) + lo1 ≤ lo) (hn : As.length = n1) {stk : List Value} (hs : stk = As.reverse ++ .ref (B0 + q0) :: st) (hw : (st.map fun v => v.category).sum ≤ 8) (hz : bc ≤ bc1 ∧ bc1 ≤ bcF ∧ bs ≤ bs1 ∧ bs1 ≤ bsF)
    (kk : zG p l e R s m args below meth c d cy B0 nL bc0 bs0 Q (pc + 3) lv (v.toList ++ st) sh1 sz1 bc1 bs1 I1 L1) : zG p l e R s m args below meth c d cy B0 nL bc0 bs0 Q pc lv stk sh sz bc bs I L := by
  intro ls H locs cells slots h1 h2 h3 h4 h5 h6
  subst hs
  obtain ⟨cell, r1, r2, r3⟩ := z_recv C hc hks hq0 h2
  intro T hT X
  rcases vx_callV X C.1 (bytes := cc1) (maxL := nL1) (ret := ret1) C.2.2.2.1 (z_word C hlk rfl) (z_word C hin rfl) (z_word C hse rfl) (z_word C hY.1 rfl) hY.2.2.1 (z_back C hY hM hfr hlo) (b := B0 + q0) (by rw [hT]; exact r1) r2 r3 (g := F0 m pc ls (As.reverse ++ .ref (B0 + q0) :: st)) rfl (h1.1.trans C.2.2.1.symm) (argsL := As) (rest := st) (fun sig h => hn.trans (hY.len sig h)) rfl (lv_room hw) (by rw [C.2.1]; exact hd)
    (fun vm₁ hW => z_pre (As := .ref (B0 + q0) :: As) C hT h2 h3 h4 h6 hz hW) with ⟨v', vm₁, ⟨U', l2, c2, s2⟩, hW₁, X', ⟨g', mk, t, L9, e1, e2, hq, hl2, hL, hc2, hs2⟩, stp⟩ | ⟨q, vm₁, ⟨U', l2, c2, s2⟩, hW₁, X', ⟨g', mk, t, L9, E, ce, e1, e2, hq, hce, hcv, hcl, hl2, hL, hc2, hs2⟩, stp⟩
  · dsimp only [Pt.U, Pt.locs, Pt.cells, Pt.slots] at X' e1 e2 hl2 hc2 hs2 stp
    subst hl2; subst hc2; subst hs2
    obtain ⟨v2, hr, ho, hrep, hlow⟩ := hq
    cases ho
    cases hr
    obtain ⟨t2, a1, b1⟩ := kk ls U'.heap (locs ++ L9) (cells + (bc1 - bc)) (slots + (bs1 - bs)) h1 (by rw [e1]; exact hrep) (by omega) (by omega) (zapp h5 hL) (fun q hq => by
      rw [e1, hlow q hq]
      show T.heap[q]? = _
      rw [hT]; exact h6 q hq) U' rfl X'
    exact ⟨t2, stp t2 a1, b1⟩
  · exact absurd hq.1 (by intro h; cases h)
/-- a static call to a method of the nest that throws nothing -/
theorem z_callSN (C : zC p l e R s m args below meth c s0 a0 d cy B0 own cc nL ret bc0 bs0 bcF bsF fr lo tb) {idx : Nat} (hd : decode cc pc = .ok (.invokestatic idx, 3)) {y : MethodName} {host : String} {cc1 : ByteArray} {nL1 n1 : Nat} {ret1 : Option FieldType} {fr1 lo1 : Nat} {As : List Value} {v : Option Value} {sh1 : zS} {sz1 bc1 bs1 : Nat} {I1 : zI} {L1 : zL} (hY : zY y cc1 nL1 ret1 n1)
    (hM : zM l s0 d cy B0 y cc1 nL1 ret1 fr1 lo1 As sh sz bc bs I L (.inl v) sh1 sz1 bc1 bs1 I1 L1) (hlk : Cond.methodLinkNest own idx y host ∈ lw_tbl) (hst : Cond.static y ∈ lw_tbl) (hfr : fr1 + 1 ≤ fr) (hlo : 8 + (nL1 + 11) + lo1 ≤ lo) (hn : As.length = n1) {stk : List Value} (hs : stk = As.reverse ++ st) (hw : (st.map fun v => v.category).sum ≤ 8) (hz : bc ≤ bc1 ∧ bc1 ≤ bcF ∧ bs ≤ bs1 ∧ bs1 ≤ bsF)
    (kk : zG p l e R s m args below meth c d cy B0 nL bc0 bs0 Q (pc + 3) lv (v.toList ++ st) sh1 sz1 bc1 bs1 I1 L1) : zG p l e R s m args below meth c d cy B0 nL bc0 bs0 Q pc lv stk sh sz bc bs I L := by
  intro ls H locs cells slots h1 h2 h3 h4 h5 h6
  subst hs
  intro T hT X
  have hlk2 : (Cond.methodLinkNest own idx y host).before args s = true := by
    obtain ⟨-, -, -, -, hE, hS, -⟩ := C
    exact va_Nw.use rfl (va_Nw.warmM hS.1 (va_Nw.of rfl (hE.1 _ hlk)))
  have hB : Back l R p e below s args y 3 8 (PreOf R (bc1 - bc) (bs1 - bs) (fun a U => a = As.toArray ∧ zSys s0 B0 U ∧ zRep d cy B0 sh sz I L U.heap)) (PostOf (zQc d cy B0 (.inl v) sh1 sz1 I1 L1) (bc1 - bc) (bs1 - bs) (fun a => B0 ≤ a)) := by
    intro m9 meth9 c9 A9 g9 ig9 mk9 a9 X9 hg9 hs9 hd9 hw9 hm9 hp9
    rcases z_back C hY hM hfr hlo m9 meth9 c9 A9 g9 ig9 mk9 a9 X9 hg9 hs9 hd9 hw9 hm9 hp9 with h | ⟨q, B, -, ⟨g', mk, t, L9, E, ce, e1, e2, hq, -⟩, -⟩
    · exact h
    · exact absurd hq.1 (by intro h; cases h)
  obtain ⟨v', vm₁, ⟨U', l2, c2, s2⟩, hW₁, X', ⟨g', mk, t, L9, e1, e2, hq, hl2, hL, hc2, hs2⟩, stp⟩ := va_callSN X C.1 (bytes := cc1) (maxL := nL1) (ret := ret1) C.2.2.2.1 hlk2 (z_word C hst rfl) (z_word C hY.2.1 rfl) (z_word C hY.1 rfl) hY.2.2.1 hB (g := F0 m pc ls (As.reverse ++ st)) rfl (h1.1.trans C.2.2.1.symm) (argsL := As) (rest := st) (fun sig h => hn.trans (hY.len sig h)) rfl (lv_room hw) (by rw [C.2.1]; exact hd)
    (fun vm₁ hW => z_pre C hT h2 h3 h4 h6 hz hW)
  dsimp only [Pt.U, Pt.locs, Pt.cells, Pt.slots] at X' e1 e2 hl2 hc2 hs2 stp
  subst hl2; subst hc2; subst hs2
  obtain ⟨v2, hr, ho, hrep, hlow⟩ := hq
  cases ho
  cases hr
  obtain ⟨t2, a1, b1⟩ := kk ls U'.heap (locs ++ L9) (cells + (bc1 - bc)) (slots + (bs1 - bs)) h1 (by rw [e1]; exact hrep) (by omega) (by omega) (zapp h5 hL) (fun q hq => by
    rw [e1, hlow q hq]
    show T.heap[q]? = _
    rw [hT]; exact h6 q hq) U' rfl X'
  exact ⟨t2, stp t2 a1, b1⟩
/-- int and long constants of the pool -/
theorem z_ldc (C : zC p l e R s m args below meth c s0 a0 d cy B0 own cc nL ret bc0 bs0 bcF bsF fr lo tb) {idx : Nat} (hd : decode cc pc = .ok (.ldc idx, 2)) {v : Int32} (hk : Cond.constant own idx v ∈ lw_tbl) (kk : zG p l e R s m args below meth c d cy B0 nL bc0 bs0 Q (pc + 2) lv (.int v :: st) sh sz bc bs I L) : zG p l e R s m args below meth c d cy B0 nL bc0 bs0 Q pc lv st sh sz bc bs I L :=
  fun ls H locs cells slots h1 h2 h3 h4 h5 h6 => lv_ldc C.1 C.2.1 C.2.2.2.1 (z_word C hk rfl) hd (kk ls H locs cells slots h1 h2 h3 h4 h5 h6)
theorem z_ldc2 (C : zC p l e R s m args below meth c s0 a0 d cy B0 own cc nL ret bc0 bs0 bcF bsF fr lo tb) {idx : Nat} (hd : decode cc pc = .ok (.ldc2_w idx, 3)) {v : Int64} (hk : Cond.constantLong own idx v ∈ lw_tbl) (kk : zG p l e R s m args below meth c d cy B0 nL bc0 bs0 Q (pc + 3) lv (.long v :: st) sh sz bc bs I L) : zG p l e R s m args below meth c d cy B0 nL bc0 bs0 Q pc lv st sh sz bc bs I L :=
  fun ls H locs cells slots h1 h2 h3 h4 h5 h6 => lv_ldc2 C.1 C.2.1 C.2.2.2.1 (z_word C hk rfl) hd (kk ls H locs cells slots h1 h2 h3 h4 h5 h6)

end Zr4
