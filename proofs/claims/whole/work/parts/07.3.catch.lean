section Zr11
variable {p : Program} {l : Launch} {e : Env} {R : Room} {s : State} {m : MethodId} {args : Array Value} {below : List Frame} {meth : Method} {c : Code} {s0 : State} {a0 : Array Value} {d : va_G} {cy : Nat → ClassId} {B0 : Nat} {own : String} {cc : ByteArray} {nL : Nat} {ret : Option FieldType} {bc0 bs0 bcF bsF fr lo : Nat} {tb : List ExceptionTableEntry} {Q : State → Prop} {pc : Nat} {lv : List (Nat × Value)} {st : List Value} {sh : zS} {sz bc bs : Nat} {I : zI} {L : zL}
/-- a call that throws, caught by the row x of this method's own table -/
theorem z_callVC (C : zC p l e R s m args below meth c s0 a0 d cy B0 own cc nL ret bc0 bs0 bcF bsF fr lo tb) {CC : String} {TT : u_T} {NN : Nat} {ty : Nat → FieldType} {ci q0 : Nat} (hc : zcls ci CC TT NN ty) (hks : (sh q0).1 = ci) (hq0 : q0 < sz) {idx : Nat} (hd : decode cc pc = .ok (.invokevirtual idx, 3)) {y : MethodName} {cc1 : ByteArray} {nL1 n1 : Nat} {ret1 : Option FieldType} {fr1 lo1 : Nat} {As : List Value} {E1 : String} {sh1 : zS} {sz1 bc1 bs1 : Nat} {I1 : zI} {L1 : zL} (hY : zY y cc1 nL1 ret1 n1)
    (hM : zM l s0 d cy B0 y cc1 nL1 ret1 fr1 lo1 (.ref (B0 + q0) :: As) sh sz bc bs I L (.inr E1) sh1 sz1 bc1 bs1 I1 L1) (hlk : Cond.methodLink own idx y ∈ lw_tbl) (hin : Cond.instanceMethod y ∈ lw_tbl) (hse : Cond.selects CC y y ∈ lw_tbl) (hfr : fr1 + 1 ≤ fr) (hlo : 8 + (nL1 + 11) + lo1 ≤ lo) (hn : As.length = n1) {stk : List Value} (hs : stk = As.reverse ++ .ref (B0 + q0) :: st) (hw : (st.map fun v => v.category).sum ≤ 8) (hz : bc ≤ bc1 ∧ bc1 ≤ bcF ∧ bs ≤ bs1 ∧ bs1 ≤ bsF)
    (pre : List ExceptionTableEntry) (x : ExceptionTableEntry) (suf : List ExceptionTableEntry) (htb : tb = pre ++ x :: suf) (hpass : ∀ z ∈ pre, covers z pc = false ∨ (z.catchType ≠ 0 ∧ ∃ nm : String, Cond.classLink own z.catchType nm ∈ lw_tbl ∧ (Cond.not (Cond.castable E1 nm)).before a0 s0 = true)) (hx : covers x pc = true) (hx0 : x.catchType ≠ 0)
    {name : String} (hxl : Cond.classLink own x.catchType name ∈ lw_tbl) (hca : Cond.castable E1 name ∈ lw_tbl)
    (kk : ∀ a : Nat, zG p l e R s m args below meth c d cy B0 nL bc0 bs0 Q x.handlerPc lv [.ref a] sh1 sz1 bc1 bs1 I1 L1) : zG p l e R s m args below meth c d cy B0 nL bc0 bs0 Q pc lv stk sh sz bc bs I L := by
  intro ls H locs cells slots h1 h2 h3 h4 h5 h6
  subst hs
  obtain ⟨cell, r1, r2, r3⟩ := z_recv C hc hks hq0 h2
  have htb2 : c.exceptionTable.toList = tb := C.2.2.2.2.2.2.2.2.2
  intro T hT X
  rcases vx_callV X C.1 (bytes := cc1) (maxL := nL1) (ret := ret1) C.2.2.2.1 (z_word C hlk rfl) (z_word C hin rfl) (z_word C hse rfl) (z_word C hY.1 rfl) hY.2.2.1 (z_back C hY hM hfr hlo) (b := B0 + q0) (by rw [hT]; exact r1) r2 r3 (g := F0 m pc ls (As.reverse ++ .ref (B0 + q0) :: st)) rfl (h1.1.trans C.2.2.1.symm) (argsL := As) (rest := st) (fun sig h => hn.trans (hY.len sig h)) rfl (lv_room hw) (by rw [C.2.1]; exact hd)
    (fun vm₁ hW => z_pre (As := .ref (B0 + q0) :: As) C hT h2 h3 h4 h6 hz hW) with ⟨v', vm₁, ⟨U', l2, c2, s2⟩, hW₁, X', ⟨g', mk, t, L9, e1, e2, hq, hl2, hL, hc2, hs2⟩, stp⟩ | ⟨q, vm₁, ⟨U', l2, c2, s2⟩, hW₁, X', ⟨g', mk, t, L9, E, ce, e1, e2, hq, hce, hcv, hcl, hl2, hL, hc2, hs2⟩, stp⟩
  · obtain ⟨v2, hr, -⟩ := hq
    cases hr
  · dsimp only [Pt.U, Pt.locs, Pt.cells, Pt.slots] at X' e1 e2 hl2 hc2 hs2 stp hcl
    subst hl2; subst hc2; subst hs2
    obtain ⟨hr, hrep, hlow⟩ := hq
    cases hr
    obtain ⟨t2, a1, b1⟩ := vx_catch (E := E1) (ce := ce) (q := q) (H := U'.heap) (pc := pc) (ls := ls) (rest := st) (locs := locs ++ L9) (cells := cells + (bc1 - bc)) (slots := slots + (bs1 - bs)) (Q := Q) C.2.2.2.1 pre x suf (htb2.trans htb) (fun z hz => by
        rcases hpass z hz with h | ⟨h8, nm, h9, h10⟩
        · exact Or.inl h
        · obtain ⟨-, -, -, -, hE, hS, -⟩ := id C
          exact Or.inr ⟨h8, nm, z_word C h9 rfl, va_Nc.moved hS.1.alike (va_Nc.of h10)⟩) hx hx0 (z_word C hxl rfl) (z_word2 C hca rfl) (by rw [e1]; exact hce) hcv (vx_cls hW₁ hcl)
      (kk q ls U'.heap (locs ++ L9) (cells + (bc1 - bc)) (slots + (bs1 - bs)) h1 (by rw [e1]; exact hrep) (by omega) (by omega) (zapp h5 hL) (fun z hz => by
        rw [e1, hlow z hz]
        show T.heap[z]? = _
        rw [hT]; exact h6 z hz)) U' rfl X'
    exact ⟨t2, stp.trans a1, b1⟩
end Zr11
