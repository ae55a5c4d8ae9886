/-! the script, which lies outside the places -/
section Zr12
variable {p : Program} {l : Launch} {e : Env} {R : Room} {s : State} {m : MethodId} {args : Array Value} {below : List Frame} {meth : Method} {c : Code} {s0 : State} {a0 : Array Value} {d : va_G} {cy : Nat → ClassId} {B0 : Nat} {own : String} {cc : ByteArray} {nL : Nat} {ret : Option FieldType} {bc0 bs0 bcF bsF fr lo : Nat} {tb : List ExceptionTableEntry} {Q : State → Prop} {pc : Nat} {lv : List (Nat × Value)} {st : List Value} {sh : zS} {sz bc bs : Nat} {I : zI} {L : zL}
theorem z_sld (C : zC p l e R s m args below meth c s0 a0 d cy B0 own cc nL ret bc0 bs0 bcF bsF fr lo tb) {b N : Nat} {xs : Nat → Int32} (hX : va_X b N xs s0 s0.heap) (hb : b < B0) (hd : decode cc pc = .ok (.iaload, 1)) {i : Int32} (k : Nat) (hi : i = nI k) (hk : k < N) (hN : N < 2 ^ 31)
    (kk : zG p l e R s m args below meth c d cy B0 nL bc0 bs0 Q (pc + 1) lv (.int (xs k) :: st) sh sz bc bs I L) : zG p l e R s m args below meth c d cy B0 nL bc0 bs0 Q pc lv (.int i :: .ref b :: st) sh sz bc bs I L := by
  intro ls H locs cells slots h1 h2 h3 h4 h5 h6
  obtain ⟨-, -, -, -, hE, hS, -⟩ := id C
  obtain ⟨scr, g1, g2, g3, g4, g5⟩ := va_X.moved hS.1.alike hX
  subst hi
  exact W.iald (v := .int (xs k)) C.1 C.2.1 (by rw [h6 b hb, hS.2 b hb]; exact g1) g2 g3 (by rw [g4]; exact vp_in_nI hk hN) (by rw [nI_clamp (by omega)]; exact g5 k hk) rfl rfl hd (kk ls H locs cells slots h1 h2 h3 h4 h5 h6)
theorem z_sln (C : zC p l e R s m args below meth c s0 a0 d cy B0 own cc nL ret bc0 bs0 bcF bsF fr lo tb) {b N : Nat} {xs : Nat → Int32} (hX : va_X b N xs s0 s0.heap) (hb : b < B0) (hd : decode cc pc = .ok (.arraylength, 1))
    (kk : zG p l e R s m args below meth c d cy B0 nL bc0 bs0 Q (pc + 1) lv (.int (nI N) :: st) sh sz bc bs I L) : zG p l e R s m args below meth c d cy B0 nL bc0 bs0 Q pc lv (.ref b :: st) sh sz bc bs I L := by
  intro ls H locs cells slots h1 h2 h3 h4 h5 h6
  obtain ⟨-, -, -, -, hE, hS, -⟩ := id C
  obtain ⟨scr, g1, g2, g3, g4, g5⟩ := va_X.moved hS.1.alike hX
  exact W.alen (n := nI N) C.1 C.2.1 (by rw [h6 b hb, hS.2 b hb]; exact g1) g2 (by rw [g4]; rfl) rfl rfl hd (kk ls H locs cells slots h1 h2 h3 h4 h5 h6)
theorem zRep_full {H : Heap} (h : zRep d cy B0 (zpt 134 []) 134 I L H) : zRep d cy B0 zSH zKn I L H := by
  refine ⟨⟨h.1.1, fun h20 => absurd h20 (by decide)⟩, fun p hp => ?_⟩
  have h2 := h.2 p hp
  have e : zpt 134 [] p = zSH p := by
    unfold zpt
    rw [if_pos hp]
    simp
  unfold zat zfv zcell at h2 ⊢
  simp only [e] at h2
  exact h2
/-- the heap as the constructors leave it is the heap of the walks -/
theorem z_full (h : zG p l e R s m args below meth c d cy B0 nL bc0 bs0 Q pc lv st zSH zKn bc bs I L) : zG p l e R s m args below meth c d cy B0 nL bc0 bs0 Q pc lv st (zpt 134 []) 134 bc bs I L := by
  intro ls H locs cells slots h1 h2 h3 h4 h5 h6
  exact h ls H locs cells slots h1 (zRep_full h2) h3 h4 h5 h6
end Zr12
