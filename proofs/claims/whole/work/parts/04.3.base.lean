section Zr3
variable {p : Program} {l : Launch} {e : Env} {R : Room} {s : State} {m : MethodId} {args : Array Value} {below : List Frame} {meth : Method} {c : Code} {s0 : State} {a0 : Array Value} {d : va_G} {cy : Nat → ClassId} {B0 : Nat} {own : String} {cc : ByteArray} {nL : Nat} {ret : Option FieldType} {bc0 bs0 bcF bsF fr lo : Nat} {tb : List ExceptionTableEntry} {Q : State → Prop} {pc : Nat} {lv : List (Nat × Value)} {st : List Value} {sh : zS} {sz bc bs : Nat} {I : zI} {L : zL}
/-! contracts: a method at given arguments and heap, its answer (or the class that it throws) and the heap behind it -/
def zQc (d : va_G) (cy : Nat → ClassId) (B0 : Nat) (r : Option Value ⊕ String) (sh : zS) (sz : Nat) (I : zI) (L : zL) : Array Value → State → Outcome → State → Prop := fun _ st o t => ∃ v, r = .inl v ∧ o = .returned v ∧ zRep d cy B0 sh sz I L t.heap ∧ ∀ q : Nat, q < B0 → t.heap[q]? = st.heap[q]?
def zXc (d : va_G) (cy : Nat → ClassId) (B0 : Nat) (r : Option Value ⊕ String) (sh : zS) (sz : Nat) (I : zI) (L : zL) : String → State → State → Prop := fun E st t => r = .inr E ∧ zRep d cy B0 sh sz I L t.heap ∧ ∀ q : Nat, q < B0 → t.heap[q]? = st.heap[q]?
def zQ (below : List Frame) (s : State) (args : Array Value) (d : va_G) (cy : Nat → ClassId) (B0 bc0 bs0 : Nat) (r : Option Value ⊕ String) (sh : zS) (sz bc bs : Nat) (I : zI) (L : zL) : State → Prop :=
  vx_MQ below (zQc d cy B0 r sh sz I L) (zXc d cy B0 r sh sz I L) args s (bc - bc0) (bs - bs0) (fun a => B0 ≤ a)
def zM (l : Launch) (s0 : State) (d : va_G) (cy : Nat → ClassId) (B0 : Nat) (y : MethodName) (cc : ByteArray) (nL : Nat) (ret : Option FieldType) (fr lo : Nat) (As : List Value) (sh : zS) (sz bc bs : Nat) (I : zI) (L : zL) (r : Option Value ⊕ String) (sh1 : zS) (sz1 bc1 bs1 : Nat) (I1 : zI) (L1 : zL) : Prop :=
  vx_Met l y [.code y cc nL ret] { frames := fr, cells := bc1 - bc, slots := bs1 - bs, locals := lo } (fun a U => a = As.toArray ∧ zSys s0 B0 U ∧ zRep d cy B0 sh sz I L U.heap) (zQc d cy B0 r sh1 sz1 I1 L1) (zXc d cy B0 r sh1 sz1 I1 L1) (bc1 - bc) (bs1 - bs) (fun a => B0 ≤ a)
/-- what the tables say of a method -/
def zY (y : MethodName) (cc : ByteArray) (nL : Nat) (ret : Option FieldType) (n : Nat) : Prop :=
  Cond.code y cc nL ret ∈ lw_tbl ∧ Cond.initialized y.cls ∈ lw_tbl ∧ (y.cls ≠ "java/lang/invoke/MethodHandle" ∧ y.cls ≠ "java/lang/invoke/VarHandle") ∧ (parseMethodDescriptor y.desc).map (fun d => d.parameters.length) = some n ∧ plainName y.cls = true
theorem zY.len {y : MethodName} {cc : ByteArray} {nL : Nat} {ret : Option FieldType} {n : Nat} (h : zY y cc nL ret n) : ∀ sig, parseMethodDescriptor y.desc = some sig → n = sig.parameters.length := by
  intro sig hs
  have h2 := h.2.2.2.1
  rw [hs] at h2
  exact (Option.some.inj h2).symm
theorem z_meth {y : MethodName} {n : Nat} {As : List Value} {r : Option Value ⊕ String} {sh1 : zS} {sz1 bc1 bs1 : Nat} {I1 : zI} {L1 : zL} (hY : zY y cc nL ret n) (hE : zE0 l s0 a0 d cy B0) (hl : (lg_sl As).length ≤ nL)
    (body : ∀ (p : Program) (e : Env) (R : Room) (s : State) (m : MethodId) (args : Array Value) (below : List Frame) (meth : Method) (c : Code), zC p l e R s m args below meth c s0 a0 d cy B0 y.cls cc nL ret bc bs bc1 bs1 fr lo [] →
      zG p l e R s m args below meth c d cy B0 nL bc bs (zQ below s args d cy B0 bc bs r sh1 sz1 bc1 bs1 I1 L1) 0 (lv_args 0 As) [] sh sz bc bs I L) :
    zM l s0 d cy B0 y cc nL ret fr lo As sh sz bc bs I L r sh1 sz1 bc1 bs1 I1 L1 := by
  refine vx_ofW (cc := cc) (maxL := nL) (ret := ret) hY.2.2.2.2 rfl ?_
  intro p e s m args below meth c s₁ B hml ht hP
  obtain ⟨rfl, hS, hR⟩ := hP
  have htb : c.exceptionTable.toList = [] := List.eq_nil_iff_forall_not_mem.mpr (fun x hx => ht x hx)
  have h := body p e _ s m As.toArray below meth c ⟨B.exec, B.bytes, hml, findClass_of_methodNamed B.named, hE, hS, B.notSynchronized, B.returns, rfl, htb⟩
  rw [lg_entry_eq]
  exact h _ s.heap [] 0 0 (lv_entry As hl) hR rfl rfl (fun q h => by cases h) (fun _ _ => rfl)
theorem z_ret0 {r : Option Value ⊕ String} {v : Option Value} (hr : r = .inl v) {H : Heap} {locs : List Loc} {cells slots : Nat} {g : JFrame} (h2 : zRep d cy B0 sh sz I L H) (h3 : bc0 + cells = bc) (h4 : bs0 + slots = bs) (h6 : ∀ q : Nat, q < B0 → H[q]? = s.heap[q]?)
    (k : ∀ (Qc : Array Value → State → Outcome → State → Prop), (∀ t : State, t.heap = H → s.WarmedH t.vm → Qc args s (.returned v) t) → W p l e R s m args below meth c H locs cells slots (MQ below Qc args s cells slots (fun a => B0 ≤ a)) g) :
    W p l e R s m args below meth c H locs cells slots (zQ below s args d cy B0 bc0 bs0 r sh sz bc bs I L) g := by
  have e1 : bc - bc0 = cells := by omega
  have e2 : bs - bs0 = slots := by omega
  unfold zQ
  rw [e1, e2]
  exact vx_ret (k _ (fun t ht _ => ⟨v, hr, rfl, by rw [ht]; exact h2, fun q hq => by rw [ht]; exact h6 q hq⟩))
theorem z_iret (C : zC p l e R s m args below meth c s0 a0 d cy B0 own cc nL ret bc0 bs0 bcF bsF fr lo tb) (hd : decode cc pc = .ok (.ireturn, 1)) (ty : FieldType) {v : Int32} (hret : ret = some ty) (hn : narrow ty (.int v) = .int v) {r : Option Value ⊕ String} (hr : r = .inl (some (.int v))) : zG p l e R s m args below meth c d cy B0 nL bc0 bs0 (zQ below s args d cy B0 bc0 bs0 r sh sz bc bs I L) pc lv [.int v] sh sz bc bs I L := by
  intro ls H locs cells slots h1 h2 h3 h4 h5 h6
  obtain ⟨hx, hb, -, -, -, -, hlk, hrt, -⟩ := C
  refine z_ret0 hr h2 h3 h4 h6 (fun Qc hq => ?_)
  exact W.zret hx hb (by rw [hrt, hret]) hn hq h5 hd hlk
theorem z_lret (C : zC p l e R s m args below meth c s0 a0 d cy B0 own cc nL ret bc0 bs0 bcF bsF fr lo tb) (hd : decode cc pc = .ok (.lreturn, 1)) {v : Int64} (hret : ret = some .long) {r : Option Value ⊕ String} (hr : r = .inl (some (.long v))) : zG p l e R s m args below meth c d cy B0 nL bc0 bs0 (zQ below s args d cy B0 bc0 bs0 r sh sz bc bs I L) pc lv [.long v] sh sz bc bs I L := by
  intro ls H locs cells slots h1 h2 h3 h4 h5 h6
  obtain ⟨hx, hb, -, -, -, -, hlk, hrt, -⟩ := C
  refine z_ret0 hr h2 h3 h4 h6 (fun Qc hq => ?_)
  exact W.lret hx hb (by rw [hrt, hret]) hq h5 hd hlk
theorem z_vret (C : zC p l e R s m args below meth c s0 a0 d cy B0 own cc nL ret bc0 bs0 bcF bsF fr lo tb) (hd : decode cc pc = .ok (.return_, 1)) (hret : ret = none) {r : Option Value ⊕ String} (hr : r = .inl none) : zG p l e R s m args below meth c d cy B0 nL bc0 bs0 (zQ below s args d cy B0 bc0 bs0 r sh sz bc bs I L) pc lv [] sh sz bc bs I L := by
  intro ls H locs cells slots h1 h2 h3 h4 h5 h6
  obtain ⟨hx, hb, -, -, -, -, hlk, hrt, -⟩ := C
  refine z_ret0 hr h2 h3 h4 h6 (fun Qc hq => ?_)
  exact W.vret hx hb (by rw [hrt, hret]) hq h5 hd hlk
theorem z_aret (C : zC p l e R s m args below meth c s0 a0 d cy B0 own cc nL ret bc0 bs0 bcF bsF fr lo tb) (hd : decode cc pc = .ok (.areturn, 1)) {q : Nat} (rt : FieldType) (hret : ret = some rt) (hrt2 : (∃ n, rt = .object n) ∨ ∃ t, rt = .array t) {r : Option Value ⊕ String} (hr : r = .inl (some (.ref q))) : zG p l e R s m args below meth c d cy B0 nL bc0 bs0 (zQ below s args d cy B0 bc0 bs0 r sh sz bc bs I L) pc lv [.ref q] sh sz bc bs I L := by
  intro ls H locs cells slots h1 h2 h3 h4 h5 h6
  obtain ⟨hx, hb, -, -, -, -, hlk, hrt, -⟩ := C
  refine z_ret0 hr h2 h3 h4 h6 (fun Qc hq => ?_)
  exact W.aret hx hb (by rw [hrt, hret]) hrt2 (Or.inr ⟨q, rfl⟩) hq h5 hd hlk
/-- the payer of a call -/
theorem z_back (C : zC p l e R s m args below meth c s0 a0 d cy B0 own cc nL ret bc0 bs0 bcF bsF fr lo tb) {y : MethodName} {cc1 : ByteArray} {nL1 n1 : Nat} {ret1 : Option FieldType} {fr1 lo1 : Nat} {As : List Value} {r : Option Value ⊕ String} {sh1 : zS} {sz1 bc1 bs1 : Nat} {I1 : zI} {L1 : zL} (hY : zY y cc1 nL1 ret1 n1)
    (hM : zM l s0 d cy B0 y cc1 nL1 ret1 fr1 lo1 As sh sz bc bs I L r sh1 sz1 bc1 bs1 I1 L1) (hfr : fr1 + 1 ≤ fr) (hlo : 8 + (nL1 + 11) + lo1 ≤ lo) :
    vx_Back l R p e below s args y 3 8 (PreOf R (bc1 - bc) (bs1 - bs) (fun a U => a = As.toArray ∧ zSys s0 B0 U ∧ zRep d cy B0 sh sz I L U.heap)) (PostOf (zQc d cy B0 r sh1 sz1 I1 L1) (bc1 - bc) (bs1 - bs) (fun a => B0 ≤ a)) (vx_Post (zXc d cy B0 r sh1 sz1 I1 L1) (bc1 - bc) (bs1 - bs) (fun a => B0 ≤ a)) := by
  have hR : R = { frames := fr, cells := bcF - bc0, slots := bsF - bs0, locals := lo } := C.2.2.2.2.2.2.2.2.1
  refine vx_back (bytes := cc1) (maxL := nL1) (ret := ret1) hM ?_ rfl rfl (by rw [hR]; exact hfr) (by rw [hR]; exact hlo) ?_ List.mem_cons_self ?_
  · intro a U g mk h
    exact ⟨h.1, h.2.1, h.2.2⟩
  · intro w hw a' U hW
    rw [List.mem_singleton] at hw
    subst hw
    exact word_at hW (Or.inl rfl) (z_word C hY.1 rfl)
  · intro a' U hW
    exact word_at hW (Or.inl rfl) (z_word C hY.2.1 rfl)
theorem z_sys (C : zC p l e R s m args below meth c s0 a0 d cy B0 own cc nL ret bc0 bs0 bcF bsF fr lo tb) {T : State} (hW : s.WarmedH T.vm) (h6 : ∀ q : Nat, q < B0 → T.heap[q]? = s.heap[q]?) : zSys s0 B0 T := by
  obtain ⟨-, -, -, -, -, hS, -⟩ := C
  exact ⟨State.WarmedH.trans hS.1 hW, fun q hq => (h6 q hq).trans (hS.2 q hq)⟩
theorem zapp {locs L9 : List Loc} (h5 : ∀ z ∈ locs, B0 ≤ z.base) (h : ∀ z ∈ L9, B0 ≤ z.base) : ∀ z ∈ locs ++ L9, B0 ≤ z.base := by
  intro z hz
  rcases List.mem_append.mp hz with h9 | h9
  · exact h5 z h9
  · exact h z h9

end Zr3
