/-! new T[n][m] of the two grids -/

section Zr9
variable {p : Program} {l : Launch} {e : Env} {R : Room} {s : State} {m : MethodId} {args : Array Value} {below : List Frame} {meth : Method} {c : Code} {s0 : State} {a0 : Array Value} {d : va_G} {cy : Nat → ClassId} {B0 : Nat} {own : String} {cc : ByteArray} {nL : Nat} {ret : Option FieldType} {bc0 bs0 bcF bsF fr lo : Nat} {tb : List ExceptionTableEntry} {Q : State → Prop} {pc : Nat} {lv : List (Nat × Value)} {st : List Value} {sh : zS} {sz bc bs : Nat} {I : zI} {L : zL}
variable {M : List (Nat × Nat)}
/-- several places more at once: the outer array, then its rows -/
theorem zRep_rows {H H1 : Heap} {n : Nat} (h : zRep d cy B0 (zpt sz M) sz I L H) (hz : H1.size = H.size + 1 + n) (ho : ∀ q : Nat, q < H.size → H1[q]? = H[q]?) (hn : ∀ p, sz ≤ p → p < sz + (1 + n) → zat d cy B0 (zpt (sz + (1 + n)) M) I L H1 p) : zRep d cy B0 (zpt (sz + (1 + n)) M) (sz + (1 + n)) I L H1 := by
  have hs : H.size = B0 + sz := h.1.2 (zpt_end sz M)
  refine ⟨⟨by omega, fun _ => by omega⟩, fun p hp => ?_⟩
  by_cases hps : sz ≤ p
  · exact hn p hps hp
  · have hlt : p < sz := by omega
    refine zat_congr (h.2 p hlt) (ho _ (by omega)) ?_ rfl rfl
    unfold zpt
    rw [if_pos hp, if_pos hlt]
theorem arrV_congr {cA : ClassId} {N : Nat} {f g : Nat → Value} (h : ∀ j, j < N → f j = g j) : arrV cA N f = arrV cA N g := by
  unfold arrV
  congr 2
  funext j
  exact h j.val j.isLt
theorem z_multi (C : zC p l e R s m args below meth c s0 a0 d cy B0 own cc nL ret bc0 bs0 bcF bsF fr lo tb) {idx : Nat} {ty : FieldType} {t N K : Nat} {n k : Int32} {nm : String} (hd : decode cc pc = .ok (.multianewarray idx 2, 4)) (hnm : "[" ++ (FieldType.array ty).toString = nm) (hlk : Cond.classLink own idx nm ∈ lw_tbl) (hov : Cond.arrayOver (.array ty) ∈ lw_tbl) (hac : Cond.arrayClass ty ∈ lw_tbl)
    (ht : (t = 1 ∧ ty = .int) ∨ (t = 2 ∧ ty = .long)) (hn : ¬ n < 0) (hk : ¬ k < 0) (hN : n.toNatClampNeg = N) (hK9 : k.toNatClampNeg = K) (hb1 : N * 4 ≤ 536870912) (hb2 : K * componentBytes ty ≤ 536870912) (hb3 : K ≤ 536870912) (hF : bc + (1 + N) ≤ bcF ∧ bs + (N + N * K) ≤ bsF)
    (h0 : (zSH sz).1 = 16 + t ∧ (zSH sz).2.1 = N) (hr : ∀ i, i < N → (zSH sz).2.2 i = some (sz + 1 + i) ∧ (zSH (sz + 1 + i)).1 = 13 + t ∧ (zSH (sz + 1 + i)).2.1 = K) (hM : ∀ x ∈ M, x.1 < sz) (hI : ∀ p, sz ≤ p → ∀ j, I p j = 0) (hL : ∀ p, sz ≤ p → ∀ j, L p j = 0)
    (kk : zG p l e R s m args below meth c d cy B0 nL bc0 bs0 Q (pc + 4) lv (.ref (B0 + sz) :: st) (zpt (sz + (1 + N)) M) (sz + (1 + N)) (bc + (1 + N)) (bs + (N + N * K)) I L) : zG p l e R s m args below meth c d cy B0 nL bc0 bs0 Q pc lv (.int k :: .int n :: st) (zpt sz M) sz bc bs I L := by
  sorry
end Zr9
