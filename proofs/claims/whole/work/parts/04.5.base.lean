section Zr5
variable {p : Program} {l : Launch} {e : Env} {R : Room} {s : State} {m : MethodId} {args : Array Value} {below : List Frame} {meth : Method} {c : Code} {s0 : State} {a0 : Array Value} {d : va_G} {cy : Nat → ClassId} {B0 : Nat} {own : String} {cc : ByteArray} {nL : Nat} {ret : Option FieldType} {bc0 bs0 bcF bsF fr lo : Nat} {tb : List ExceptionTableEntry} {Q : State → Prop} {pc : Nat} {lv : List (Nat × Value)} {st : List Value} {sh : zS} {sz bc bs : Nat} {I : zI} {L : zL}
/-! exceptions: 'throw new X()' -/
def zgood (w : Cond) : Bool := goodWord w || (match w with
  | .declares _ => true
  | .castable _ _ => true
  | _ => false)
theorem z_word2 (C : zC p l e R s m args below meth c s0 a0 d cy B0 own cc nL ret bc0 bs0 bcF bsF fr lo tb) {w : Cond} (hw : w ∈ lw_tbl) (hg : zgood w = true) : w.before args s = true := by
  obtain ⟨-, -, -, -, hE, hS, -⟩ := C
  by_cases h : goodWord w = true
  · exact word_at hS.1 (good_of_word h) (hE.1 w hw)
  · have h0 := hE.1 w hw
    have h1 : w.before a0 (s0.setVm s.vm) = true := by
      refine Cond.before_warmed hS.1 w ?_ h0
      cases w <;> first | exact trivial | (simp [zgood, h] at hg)
    have h2 : w.onTables = true := by
      cases w <;> first | rfl | (simp [zgood, h] at hg)
    exact va_tabs h2 (rfl : (s0.setVm s.vm).vm = s.vm) h1
/-- a static of Throwable's, of which nothing is asked but that it is a reference -/
theorem z_static (C : zC p l e R s m args below meth c s0 a0 d cy B0 own cc nL ret bc0 bs0 bcF bsF fr lo tb) {n dd : String} (h1 : Cond.laysStatic Bundle.tN n dd ∈ lw_tbl) (h2 : Cond.initialized Bundle.tN ∈ lw_tbl) (h3 : (Cond.isRef (.static Bundle.tN n dd)).before a0 s0 = true) : vx_Zq Bundle.tN n dd (fun q => B0 ≤ q) s s.heap := by
  obtain ⟨-, -, -, -, hE, hS, -⟩ := C
  have h := vx_Zqof (A := fun q => B0 ≤ q) (hE.1 _ h1) (hE.1 _ h2) h3 (fun a ha => by have := hE.2.1; omega)
  refine (vx_Zq.moved hS.1.alike h).kept (fun a ha hA => hS.2 a (by omega))
theorem z_throw (C : zC p l e R s m args below meth c s0 a0 d cy B0 own cc nL ret bc0 bs0 bcF bsF fr lo tb) {cls : String} {ik ic : Nat} (hd : decode cc pc = .ok (.new ik, 3)) (d3 : decode cc (pc + 3) = .ok (.dup, 1)) (d4 : decode cc (pc + 4) = .ok (.invokespecial ic, 3)) (d7 : decode cc (pc + 7) = .ok (.athrow, 1))
    (hcls : Bundle.fit cls = true) (hk : Cond.classLink own ik cls ∈ lw_tbl) (hini : Cond.initialized cls ∈ lw_tbl) (hat : ∀ w ∈ vx_at0 own ic cls ["java/lang/RuntimeException", "java/lang/Exception"], w ∈ lw_tbl ∧ zgood w = true ∧ vx_ot w = true)
    (htb : tb = []) (hfr : 6 ≤ fr) (hlo : (st.map fun v => v.category).sum + 81 ≤ lo) (hF : bcF = bc + 1 ∧ bsF = bs + 6) (hsh : (sh sz).1 = 19)
    {r : Option Value ⊕ String} (hr : r = .inr cls) {bc1 bs1 : Nat} (hb1 : bc1 = bc + 1) (hb2 : bs1 = bs + 6) : zG p l e R s m args below meth c d cy B0 nL bc0 bs0 (zQ below s args d cy B0 bc0 bs0 r sh sz bc1 bs1 I L) pc lv st sh sz bc bs I L := by
  intro ls H locs cells slots h1 h2 h3 h4 h5 h6
  have hR : R = { frames := fr, cells := bcF - bc0, slots := bsF - bs0, locals := lo } := C.2.2.2.2.2.2.2.2.1
  have htb2 : c.exceptionTable.toList = tb := C.2.2.2.2.2.2.2.2.2
  have hE := C.2.2.2.2.1
  have hnar := flat_of_before _ hE.2.2.2.2.1
  have hU := z_static C (n := "UNASSIGNED_STACK") (dd := Bundle.steD) (by decide +kernel) (by decide +kernel) (hnar _ (by decide +kernel))
  have hN := z_static C (n := "SUPPRESSED_SENTINEL") (dd := Bundle.listD) (by decide +kernel) (by decide +kernel) (hnar _ (by decide +kernel))
  subst hr
  subst hb1
  subst hb2
  obtain ⟨hF1, hF2⟩ := hF
  intro T hT X
  have hXs : s.heap.size ≤ H.size := by rw [← hT]; exact X.same.2.1
  refine vx_throw0 (A := fun q => B0 ≤ q) (names := ["java/lang/RuntimeException", "java/lang/Exception"]) C.1 C.2.1 hE.2.2.2.1 C.2.2.2.1 hcls (by decide +kernel) (z_word C hk rfl) (z_word C hini rfl) (fun w hw => z_word2 C (hat w hw).1 (hat w hw).2.1) ?_ hU hN ?_ (h1.1.trans C.2.2.1.symm) hd d3 d4 d7 (by rw [htb2, htb]; intro x hx; cases hx) (by rw [hR]; show 5 < fr; omega) (by rw [hR]; show (st.map fun v => v.category).sum + (13 * (2 + 1) + 42) ≤ lo; omega) (by rw [hR]; show cells + 1 ≤ bcF - bc0; omega) (by rw [hR]; show slots + 6 ≤ bsF - bs0; omega) C.2.2.2.2.2.2.1 ?_ h5 (by omega) (by omega) T hT X
  · intro w hw
    rcases List.mem_cons.mp hw with rfl | hw
    · rfl
    · rcases List.mem_cons.mp hw with rfl | hw
      · rfl
      · exact (hat w hw).2.2
  · exact ⟨hXs, fun q _ hA => h6 q (by omega), h5⟩
  · intro t _ hz ho
    refine ⟨rfl, ⟨⟨Nat.le_trans h2.1.1 hz, fun h => by rw [hsh] at h; cases h⟩, fun q hq => ?_⟩, fun q hq => ?_⟩
    · exact zat_congr (h2.2 q hq) (ho _ (by have := h2.1.1; omega)) rfl rfl rfl
    · rw [ho q (by have := h2.1.1; omega)]
      exact h6 q hq

end Zr5
