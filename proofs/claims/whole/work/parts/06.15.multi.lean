/-! new T[n][m] of the two grids -/
theorem zouter (c : ClassId) (N h0 : Nat) : ∀ i : Nat, Jvm.Free.Multi.outerC c N h0 i = arrV c N (fun j => va_rf (if j < i then some (h0 + 1 + j) else none))
  | 0 => by
    show ({ cls := c, slots := Array.replicate N .null, vm := .none } : Cell) = _
    rw [arrV_new]
    refine congrArg (arrV c N) (funext fun j => ?_)
    simp [va_rf]
  | i + 1 => by
    show (Jvm.Free.Multi.outerC c N h0 i).setSlot i (.ref (h0 + 1 + i)) = _
    rw [zouter c N h0 i, arrV_store]
    refine congrArg (arrV c N) (funext fun j => ?_)
    by_cases e : j = i
    · subst e
      simp [updV, va_rf]
    · by_cases h : j < i
      · simp [updV, e, h, Nat.lt_succ_of_lt h]
      · simp [updV, e, h, show ¬ j < i + 1 by omega]
section Zr9
variable {p : Program} {l : Launch} {e : Env} {R : Room} {s : State} {m : MethodId} {args : Array Value} {below : List Frame} {meth : Method} {c : Code} {s0 : State} {a0 : Array Value} {d : va_G} {cy : Nat → ClassId} {B0 : Nat} {own : String} {cc : ByteArray} {nL : Nat} {ret : Option FieldType} {bc0 bs0 bcF bsF fr lo : Nat} {tb : List ExceptionTableEntry} {Q : State → Prop} {pc : Nat} {lv : List (Nat × Value)} {st : List Value} {sh : zS} {sz bc bs : Nat} {I : zI} {L : zL}
variable {M : List (Nat × Nat)}
/-- several places more at once: the outer array, then its rows -/
theorem zRep_rows {H H1 : Heap} {n : Nat} (h : zRep d cy B0 (zpt sz M) sz I L H) (hz : H1.size = H.size + 1 + n) (ho : ∀ q : Nat, q < H.size → H1[q]? = H[q]?) (hn : ∀ p, sz ≤ p → p < sz + (1 + n) → zat d cy B0 (zpt (sz + (1 + n)) M) I L H1 p) : zRep d cy B0 (zpt (sz + (1 + n)) M) (sz + (1 + n)) I L H1 := by
  have hs : H.size = B0 + sz := h.1.2 (zpt_end sz M)
  refine ⟨⟨by omega, fun _ => by omega⟩, fun p hp => ?_⟩
  by_cases hps : sz ≤ p
  · exact hn p hps hp
  · have hlt : p < sz := by omega
    refine zat_congr (h.2 p hlt) (ho _ (by omega)) ?_ rfl rfl
    unfold zpt
    rw [if_pos hp, if_pos hlt]
theorem arrV_congr {cA : ClassId} {N : Nat} {f g : Nat → Value} (h : ∀ j, j < N → f j = g j) : arrV cA N f = arrV cA N g := by
  unfold arrV
  congr 2
  funext j
  exact h j.val j.isLt
theorem z_multi (C : zC p l e R s m args below meth c s0 a0 d cy B0 own cc nL ret bc0 bs0 bcF bsF fr lo tb) {idx : Nat} {ty : FieldType} {t N K : Nat} {n k : Int32} {nm : String} (hd : decode cc pc = .ok (.multianewarray idx 2, 4)) (hnm : "[" ++ (FieldType.array ty).toString = nm) (hlk : Cond.classLink own idx nm ∈ lw_tbl) (hov : Cond.arrayOver (.array ty) ∈ lw_tbl) (hac : Cond.arrayClass ty ∈ lw_tbl)
    (ht : (t = 1 ∧ ty = .int) ∨ (t = 2 ∧ ty = .long)) (hn : ¬ n < 0) (hk : ¬ k < 0) (hN : n.toNatClampNeg = N) (hK9 : k.toNatClampNeg = K) (hb1 : N * 4 ≤ 536870912) (hb2 : K * componentBytes ty ≤ 536870912) (hb3 : K ≤ 536870912) (hF : bc + (1 + N) ≤ bcF ∧ bs + (N + N * K) ≤ bsF)
    (h0 : (zSH sz).1 = 16 + t ∧ (zSH sz).2.1 = N) (hr : ∀ i, i < N → (zSH sz).2.2 i = some (sz + 1 + i) ∧ (zSH (sz + 1 + i)).1 = 13 + t ∧ (zSH (sz + 1 + i)).2.1 = K) (hM : ∀ x ∈ M, x.1 < sz) (hI : ∀ p, sz ≤ p → ∀ j, I p j = 0) (hL : ∀ p, sz ≤ p → ∀ j, L p j = 0)
    (kk : zG p l e R s m args below meth c d cy B0 nL bc0 bs0 Q (pc + 4) lv (.ref (B0 + sz) :: st) (zpt (sz + (1 + N)) M) (sz + (1 + N)) (bc + (1 + N)) (bs + (N + N * K)) I L) : zG p l e R s m args below meth c d cy B0 nL bc0 bs0 Q pc lv (.int k :: .int n :: st) (zpt sz M) sz bc bs I L := by
  intro ls H locs cells slots h1 h2 h3 h4 h5 h6
  have hR : R = { frames := fr, cells := bcF - bc0, slots := bsF - bs0, locals := lo } := C.2.2.2.2.2.2.2.2.1
  have hs : H.size = B0 + sz := h2.1.2 (zpt_end sz M)
  have hov2 : (Cond.arrayOver (.array ty)).before args s = true := by
    obtain ⟨-, -, -, -, hE, hS, -⟩ := C
    have h7 : (Cond.arrayOver (.array ty)).before a0 (s0.setVm s.vm) = true := by
      rw [Cond.arrayOver_setVmC hS.1.alike]
      exact hE.1 _ hov
    exact h7
  intro T hT X
  subst hN
  subst hK9
  subst hnm
  obtain ⟨vm₁, cA, comp, -, fA, fC, hO, -, X', step⟩ := X.multianewarray2F C.1 C.2.2.2.1 (z_word C hlk rfl) hov2 (z_word C hac rfl) (g := F0 m pc ls (.int k :: .int n :: st)) rfl (by rw [C.2.1]; exact hd) rfl hn hk hb1 hb2 hb3 (by rcases ht with ⟨-, rfl⟩ | ⟨-, rfl⟩ <;> rfl) (by rcases ht with ⟨-, rfl⟩ | ⟨-, rfl⟩ <;> rfl) (by rw [hR]; show cells + (1 + n.toNatClampNeg) ≤ bcF - bc0; omega) (by rw [hR]; show slots + (n.toNatClampNeg + n.toNatClampNeg * k.toNatClampNeg) ≤ bsF - bs0; omega)
  generalize hFd : Jvm.Free.Multi.fill (T.setVm vm₁) cA comp n.toNatClampNeg k.toNatClampNeg (defaultValue ty) n.toNatClampNeg = F at X' step
  have hTh : (T.setVm vm₁).heap = H := hT
  obtain ⟨f1, f2, -, -⟩ := Jvm.Free.Multi.fill_facts (T.setVm vm₁) cA comp n.toNatClampNeg k.toNatClampNeg (defaultValue ty) n.toNatClampNeg
  rw [hFd, hTh] at f1 f2
  have hold : ∀ x : Nat, x < H.size → F.heap[x]? = H[x]? := fun x hx => by
    have := Jvm.Free.Multi.fill_old (T.setVm vm₁) cA comp n.toNatClampNeg k.toNatClampNeg (defaultValue ty) (a := x) (by rw [hTh]; exact hx) n.toNatClampNeg
    rw [hFd, hTh] at this
    exact this
  have hrow : ∀ j : Nat, j < n.toNatClampNeg → F.heap[H.size + 1 + j]? = some (Jvm.Free.Multi.innerC comp k.toNatClampNeg (defaultValue ty)) := fun j hj => by
    have := Jvm.Free.Multi.fill_inner (T.setVm vm₁) cA comp n.toNatClampNeg k.toNatClampNeg (defaultValue ty) n.toNatClampNeg j hj
    rw [hFd, hTh] at this
    exact this
  rw [zouter] at f2
  have hcA : cA = cy (3 + t) := by
    rcases ht with ⟨rfl, rfl⟩ | ⟨rfl, rfl⟩
    · exact Option.some.inj (fA.symm.trans ((z_K C).2 4 _ rfl).2)
    · exact Option.some.inj (fA.symm.trans ((z_K C).2 5 _ rfl).2)
  have hcomp : comp = cy t := by
    rcases ht with ⟨rfl, rfl⟩ | ⟨rfl, rfl⟩
    · exact Option.some.inj (fC.symm.trans ((z_K C).2 1 _ rfl).2)
    · exact Option.some.inj (fC.symm.trans ((z_K C).2 2 _ rfl).2)
  subst hcA
  subst hcomp
  have hTs : T.heap.size = B0 + sz := by rw [hT]; exact hs
  rw [hTs] at step
  have hz : ∀ p, sz ≤ p → p < sz + (1 + n.toNatClampNeg) → zat d cy B0 (zpt (sz + (1 + n.toNatClampNeg)) M) I L F.heap p := by
    intro p hp1 hp2
    have hnM : ∀ j, (sz, j) ∉ M := fun j hj => absurd (hM _ hj) (by simp)
    by_cases hps : p = sz
    · subst hps
      have hk2 : (zpt (p + (1 + n.toNatClampNeg)) M p).1 = 13 + (3 + t) := by rw [zpt_k hp2, h0.1]; omega
      have hn2 : (zpt (p + (1 + n.toNatClampNeg)) M p).2.1 = n.toNatClampNeg := by rw [zpt_n hp2, h0.2]
      unfold zat
      rw [if_neg (by omega), if_pos (by omega), zcell_r (t := 3 + t) hk2 (by omega) hn2, ← hs, f2]
      congr 1
      refine arrV_congr (fun j hj => ?_)
      rw [if_pos hj, zpt_r hp2 (hnM j), (hr j hj).1]
      show Value.ref _ = Value.ref _
      congr 1
      show H.size + 1 + j = B0 + (p + 1 + j)
      omega
    · obtain ⟨j, hj⟩ : ∃ j, p = sz + 1 + j := ⟨p - sz - 1, by omega⟩
      subst hj
      have hjn : j < n.toNatClampNeg := by omega
      have hk2 : (zpt (sz + (1 + n.toNatClampNeg)) M (sz + 1 + j)).1 = 13 + t := by rw [zpt_k hp2, (hr j hjn).2.1]
      have hn2 : (zpt (sz + (1 + n.toNatClampNeg)) M (sz + 1 + j)).2.1 = k.toNatClampNeg := by rw [zpt_n hp2, (hr j hjn).2.2]
      have hw := hrow j hjn
      rw [show H.size + 1 + j = B0 + (sz + 1 + j) by omega] at hw
      unfold zat
      rw [if_neg (by omega), if_pos (by omega), hw]
      congr 1
      show ({ cls := cy t, slots := Array.replicate k.toNatClampNeg (defaultValue ty), vm := .none } : Cell) = _
      rw [arrV_new]
      rcases ht with ⟨rfl, rfl⟩ | ⟨rfl, rfl⟩
      · rw [zcell_i (t := 1) hk2 (by omega) (by omega) hn2]
        exact arrV_congr (fun i _ => by rw [hI _ (by omega)]; rfl)
      · rw [zcell_l hk2 hn2]
        exact arrV_congr (fun i _ => by rw [hL _ (by omega)]; rfl)
  obtain ⟨t2, a1, b1⟩ := kk ls F.heap locs (cells + (1 + n.toNatClampNeg)) (slots + (n.toNatClampNeg + n.toNatClampNeg * k.toNatClampNeg)) h1 (zRep_rows h2 f1 hold hz) (by omega) (by omega) h5 (fun q hq => (hold q (by omega)).trans (h6 q hq)) F rfl (by rw [← Nat.add_assoc, ← Nat.add_assoc]; exact X')
  exact ⟨t2, step t2 a1, b1⟩

end Zr9
