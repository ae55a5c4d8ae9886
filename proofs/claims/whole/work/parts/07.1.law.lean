/-! methods with handlers of their own: the law's thirteen -/
def zMH (l : Launch) (s0 : State) (d : va_G) (cy : Nat → ClassId) (B0 : Nat) (y : MethodName) (cc : ByteArray) (nL : Nat) (ret : Option FieldType) (hh : List (Nat × Nat × Nat × Nat)) (fr lo : Nat) (As : List Value) (sh : zS) (sz bc bs : Nat) (I : zI) (L : zL) (r : Option Value ⊕ String) (sh1 : zS) (sz1 bc1 bs1 : Nat) (I1 : zI) (L1 : zL) : Prop :=
  vx_Met l y [.codeWith y cc nL ret hh] { frames := fr, cells := bc1 - bc, slots := bs1 - bs, locals := lo } (fun a U => a = As.toArray ∧ zSys s0 B0 U ∧ zRep d cy B0 sh sz I L U.heap) (zQc d cy B0 r sh1 sz1 I1 L1) (zXc d cy B0 r sh1 sz1 I1 L1) (bc1 - bc) (bs1 - bs) (fun a => B0 ≤ a)
def zYH (y : MethodName) (cc : ByteArray) (nL : Nat) (ret : Option FieldType) (hh : List (Nat × Nat × Nat × Nat)) (n : Nat) : Prop :=
  Cond.codeWith y cc nL ret hh ∈ lw_tbl ∧ Cond.initialized y.cls ∈ lw_tbl ∧ (y.cls ≠ "java/lang/invoke/MethodHandle" ∧ y.cls ≠ "java/lang/invoke/VarHandle") ∧ (parseMethodDescriptor y.desc).map (fun d => d.parameters.length) = some n ∧ plainName y.cls = true
theorem zYH.len {y : MethodName} {cc : ByteArray} {nL : Nat} {ret : Option FieldType} {hh : List (Nat × Nat × Nat × Nat)} {n : Nat} (h : zYH y cc nL ret hh n) : ∀ sig, parseMethodDescriptor y.desc = some sig → n = sig.parameters.length := by
  intro sig hs
  have h2 := h.2.2.2.1
  rw [hs] at h2
  exact (Option.some.inj h2).symm
section Zr10
variable {p : Program} {l : Launch} {e : Env} {R : Room} {s : State} {m : MethodId} {args : Array Value} {below : List Frame} {meth : Method} {c : Code} {s0 : State} {a0 : Array Value} {d : va_G} {cy : Nat → ClassId} {B0 : Nat} {own : String} {cc : ByteArray} {nL : Nat} {ret : Option FieldType} {bc0 bs0 bcF bsF fr lo : Nat} {tb : List ExceptionTableEntry} {Q : State → Prop} {pc : Nat} {lv : List (Nat × Value)} {st : List Value} {sh : zS} {sz bc bs : Nat} {I : zI} {L : zL}
theorem z_methH {y : MethodName} {n : Nat} {hh : List (Nat × Nat × Nat × Nat)} {As : List Value} {r : Option Value ⊕ String} {sh1 : zS} {sz1 bc1 bs1 : Nat} {I1 : zI} {L1 : zL} (hY : zYH y cc nL ret hh n) (hE : zE0 l s0 a0 d cy B0) (hl : (lg_sl As).length ≤ nL)
    (body : ∀ (p : Program) (e : Env) (R : Room) (s : State) (m : MethodId) (args : Array Value) (below : List Frame) (meth : Method) (c : Code), zC p l e R s m args below meth c s0 a0 d cy B0 y.cls cc nL ret bc bs bc1 bs1 fr lo (tableOf hh) →
      zG p l e R s m args below meth c d cy B0 nL bc bs (zQ below s args d cy B0 bc bs r sh1 sz1 bc1 bs1 I1 L1) 0 (lv_args 0 As) [] sh sz bc bs I L) :
    zMH l s0 d cy B0 y cc nL ret hh fr lo As sh sz bc bs I L r sh1 sz1 bc1 bs1 I1 L1 := by
  refine vx_ofWH (cc := cc) (maxL := nL) (ret := ret) (hh := hh) hY.2.2.2.2 rfl ?_
  intro p e s m args below meth c s₁ B hml hP
  obtain ⟨rfl, hS, hR⟩ := hP
  have htb : c.exceptionTable.toList = tableOf hh := vx_table (x := y) B (atoms_spec (ws := [.codeWith y cc nL ret hh]) B.pre _ List.mem_cons_self)
  have h := body p e _ s m As.toArray below meth c ⟨B.exec, B.bytes, hml, findClass_of_methodNamed B.named, hE, hS, B.notSynchronized, B.returns, rfl, htb⟩
  rw [lg_entry_eq]
  exact h _ s.heap [] 0 0 (lv_entry As hl) hR rfl rfl (fun q h => by cases h) (fun _ _ => rfl)
theorem z_callSW (C : zC p l e R s m args below meth c s0 a0 d cy B0 own cc nL ret bc0 bs0 bcF bsF fr lo tb) {idx : Nat} (hd : decode cc pc = .ok (.invokestatic idx, 3)) {y : MethodName} {hh : List (Nat × Nat × Nat × Nat)} {cc1 : ByteArray} {nL1 n1 : Nat} {ret1 : Option FieldType} {fr1 lo1 : Nat} {As : List Value} {v : Option Value} {sh1 : zS} {sz1 bc1 bs1 : Nat} {I1 : zI} {L1 : zL} (hY : zYH y cc1 nL1 ret1 hh n1)
    (hM : zMH l s0 d cy B0 y cc1 nL1 ret1 hh fr1 lo1 As sh sz bc bs I L (.inl v) sh1 sz1 bc1 bs1 I1 L1) (hlk : Cond.methodLink own idx y ∈ lw_tbl) (hst : Cond.static y ∈ lw_tbl) (hfr : fr1 + 1 ≤ fr) (hlo : 8 + (nL1 + 11) + lo1 ≤ lo) (hn : As.length = n1) {stk : List Value} (hs : stk = As.reverse ++ st) (hw : (st.map fun v => v.category).sum ≤ 8) (hz : bc ≤ bc1 ∧ bc1 ≤ bcF ∧ bs ≤ bs1 ∧ bs1 ≤ bsF)
    (kk : zG p l e R s m args below meth c d cy B0 nL bc0 bs0 Q (pc + 3) lv (v.toList ++ st) sh1 sz1 bc1 bs1 I1 L1) : zG p l e R s m args below meth c d cy B0 nL bc0 bs0 Q pc lv stk sh sz bc bs I L := by
  intro ls H locs cells slots h1 h2 h3 h4 h5 h6
  subst hs
  intro T hT X
  have hR : R = { frames := fr, cells := bcF - bc0, slots := bsF - bs0, locals := lo } := C.2.2.2.2.2.2.2.2.1
  have hB : Back l R p e below s args y 3 8 (PreOf R (bc1 - bc) (bs1 - bs) (fun a U => a = As.toArray ∧ zSys s0 B0 U ∧ zRep d cy B0 sh sz I L U.heap)) (PostOf (zQc d cy B0 (.inl v) sh1 sz1 I1 L1) (bc1 - bc) (bs1 - bs) (fun a => B0 ≤ a)) := by
    intro m9 meth9 c9 A9 g9 ig9 mk9 a9 X9 hg9 hs9 hd9 hw9 hm9 hp9
    rcases vx_backW (bytes := cc1) (maxL := nL1) (ret := ret1) (hh := hh) hM (fun a U g mk h => ⟨h.1, h.2.1, h.2.2⟩) rfl rfl (by rw [hR]; exact hfr) (by rw [hR]; exact hlo) (fun w hw a' U hW => by
        rw [List.mem_singleton] at hw
        subst hw
        exact word_at hW (Or.inl rfl) (z_word C hY.1 rfl)) List.mem_cons_self (fun a' U hW => word_at hW (Or.inl rfl) (z_word C hY.2.1 rfl)) m9 meth9 c9 A9 g9 ig9 mk9 a9 X9 hg9 hs9 hd9 hw9 hm9 hp9 with h | ⟨q, B, -, ⟨g', mk, t, L9, E, ce, e1, e2, hq, -⟩, -⟩
    · exact h
    · exact absurd hq.1 (by intro h; cases h)
  obtain ⟨v', vm₁, ⟨U', l2, c2, s2⟩, hW₁, X', ⟨g', mk, t, L9, e1, e2, hq, hl2, hL, hc2, hs2⟩, stp⟩ := vx_callSW X C.1 (hh := hh) (bytes := cc1) (maxL := nL1) (ret := ret1) C.2.2.2.1 (z_word C hlk rfl) (z_word C hst rfl) (z_word C hY.2.1 rfl) (z_word C hY.1 rfl) hY.2.2.1 hB (g := F0 m pc ls (As.reverse ++ st)) rfl (h1.1.trans C.2.2.1.symm) (argsL := As) (rest := st) (fun sig h => hn.trans (hY.len sig h)) rfl (lv_room hw) (by rw [C.2.1]; exact hd)
    (fun vm₁ hW => z_pre C hT h2 h3 h4 h6 hz hW)
  dsimp only [Pt.U, Pt.locs, Pt.cells, Pt.slots] at X' e1 e2 hl2 hc2 hs2 stp
  subst hl2; subst hc2; subst hs2
  obtain ⟨v2, hr, ho, hrep, hlow⟩ := hq
  cases ho
  cases hr
  obtain ⟨t2, a1, b1⟩ := kk ls U'.heap (locs ++ L9) (cells + (bc1 - bc)) (slots + (bs1 - bs)) h1 (by rw [e1]; exact hrep) (by omega) (by omega) (zapp h5 hL) (fun q hq => by
    rw [e1, hlow q hq]
    show T.heap[q]? = _
    rw [hT]; exact h6 q hq) U' rfl X'
  exact ⟨t2, stp t2 a1, b1⟩
end Zr10
