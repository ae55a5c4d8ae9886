/-! the law's own start -/
theorem z_known {s : State} {args : Array Value} (hts : ∀ w ∈ lw_tbl, w.before args s = true) {ci NN n : Nat} {CC : String} {TT : u_T} {ty : Nat → FieldType} (hc : zcls ci CC TT NN ty) (hi : Cond.instantiable CC n ∈ lw_tbl) : ∃ x : ClassId × (Nat → Nat), ∀ q : vw_C, vwCl[ci]? = some q → u_Kn s q.1 q.2.1 q.2.2 x.1 x.2 := by
  obtain ⟨cC, iS, h⟩ := u_known (C := CC) (T := TT) (N := NN) (n := n) hts (fun w hw => (hc.2.2.1 w hw).1) (hts _ hi)
  refine ⟨(cC, iS), fun q hq => ?_⟩
  rw [hc.1] at hq
  have e := Option.some.inj hq
  subst e
  exact h
theorem z_knownA {s : State} {args : Array Value} (hts : ∀ w ∈ lw_tbl, w.before args s = true) : ∃ d : va_G, ∀ (c : Nat) (q : vw_C), vwCl[c]? = some q → u_Kn s q.1 q.2.1 q.2.2 (d.1 c) (d.2 c) := by
  have h0 : ∀ k : Nat, ∃ x : ClassId × (Nat → Nat), ∀ q : vw_C, vwCl[k]? = some q → u_Kn s q.1 q.2.1 q.2.2 x.1 x.2 := by
    intro k
    match k with
    | 0 => exact z_known hts zc_0 q_395
    | 1 => exact z_known hts zc_1 q_263
    | 2 => exact z_known hts zc_2 q_316
    | 3 => exact z_known hts zc_3 q_363
    | 4 => exact z_known hts zc_4 q_293
    | 5 => exact z_known hts zc_5 q_331
    | 6 => exact z_known hts zc_6 q_397
    | 7 => exact z_known hts zc_7 q_165
    | 8 => exact z_known hts zc_8 q_136
    | 9 => exact z_known hts zc_9 q_119
    | 10 => exact z_known hts zc_10 q_142
    | 11 => exact z_known hts zc_11 q_104
    | 12 => exact z_known hts zc_12 q_1161
    | k + 13 => exact ⟨(0, fun _ => 0), fun q hq => by simp [vwCl] at hq⟩
  obtain ⟨f, hf⟩ := Classical.axiomOfChoice h0
  exact ⟨(fun k => (f k).1, fun k => (f k).2), fun c q hq => hf c q hq⟩
theorem z_arrC {s : State} {args : Array Value} (hts : ∀ w ∈ lw_tbl, w.before args s = true) {ty : FieldType} (hw : Cond.arrayClass ty ∈ lw_tbl) : ∃ cA : ClassId, ArrOfT s cA ty ∧ s.vm.findClass ("[" ++ ty.toString) = some cA := by
  obtain ⟨cA, kA, comp, h1, h2, h3⟩ := Cond.arrayClass_spec (args := args) (first := s) (o := none) (s := s) (idx := []) (type := ty) (hts _ hw)
  exact ⟨cA, fun n z => ⟨fun k h => (by cases h), kA, h2, comp, h3⟩, h1⟩
theorem z_arrO {s : State} {args : Array Value} (hts : ∀ w ∈ lw_tbl, w.before args s = true) {ty : FieldType} (hw : Cond.arrayOver (.array ty) ∈ lw_tbl) : ∃ cA : ClassId, ArrOfT s cA (.array ty) ∧ s.vm.findClass ("[" ++ (FieldType.array ty).toString) = some cA := by
  obtain ⟨comp, cA, kA, -, h2, h3, h1⟩ := Cond.arrayOver_specA (args := args) (first := s) (o := none) (s := s) (idx := []) (t := ty) (hts _ hw)
  exact ⟨cA, fun n z => ⟨fun k h => (by cases h), kA, h2, comp, h3⟩, h1⟩
def zfl : List Cond := flatC (Jvm.Cond.and given_1 narrow_1)
def zix : List Nat := [75, 84, 93, 102, 111, 123, 136, 150, 163, 181]
def ztm (i : Nat) : Term := Term.string RX8 (zsi.getD i 0)
theorem zs_ex : ∀ i : Nat, i < 10 → zfl[zix.getD i 0]? = some (Cond.exactly (ztm i) "java/lang/String") := by decide +kernel
theorem zs_co : ∀ i : Nat, i < 10 → zfl[zix.getD i 0 + 1]? = some (Cond.eq (.field (ztm i) "java/lang/String" "coder" "B") (.int 0)) := by decide +kernel
theorem zs_ar : ∀ i : Nat, i < 10 → zfl[zix.getD i 0 + 2]? = some (Cond.arrayOf (.field (ztm i) "java/lang/String" "value" "[B") .byte) := by decide +kernel
theorem zs_le : ∀ i : Nat, i < 10 → zfl[zix.getD i 0 + 3]? = some (Cond.eq (.length (.field (ztm i) "java/lang/String" "value" "[B")) (.int (Int32.ofNat (zsl.getD i 0)))) := by decide +kernel
theorem zs_el : ∀ i : Nat, i < 10 → ∀ j : Nat, j < zsl.getD i 0 → zfl[zix.getD i 0 + 4 + j]? = some (Cond.eq (.elem (.field (ztm i) "java/lang/String" "value" "[B") (.int (Int32.ofNat j))) (.int ((zsb.getD i []).getD j 0))) := by decide +kernel
theorem zs_ne : ∀ j : Nat, j < 10 → ∀ i : Nat, i < j → zfl[zix.getD j 0 + 4 + zsl.getD j 0 + i]? = some (Cond.not (Cond.eq (ztm i) (ztm j))) := by decide +kernel
theorem zs_rf : ∀ i : Nat, i < 10 → Cond.stringRef RX8 (zsi.getD i 0) (zst.getD i "") ∈ lw_tbl := by decide +kernel
def zcy (a : List Nat) (aK aV : Nat → Nat) (k : Nat) : Nat := if k < 6 then a.getD k 0 else if k < 30 then aK (k - 10) else aV (k - 30)
theorem z_E0 {l : Launch} {s : State} {args : Array Value} (hts : ∀ w ∈ lw_tbl, w.before args s = true) (hst : l.stackTraces = false) (hgv : (Jvm.Cond.and given_1 narrow_1).before args s = true) : ∃ (d : va_G) (cy : Nat → ClassId), zE0 l s args d cy s.heap.size := by
  obtain ⟨d, hd⟩ := z_knownA hts
  obtain ⟨a0, b0, c0⟩ := z_arrC hts q_134
  obtain ⟨a1, b1, c1⟩ := z_arrC hts q_162
  obtain ⟨a2, b2, c2⟩ := z_arrC hts q_163
  obtain ⟨a3, b3, c3⟩ := z_arrC hts q_1341
  obtain ⟨a4, b4, c4⟩ := z_arrO hts q_369
  obtain ⟨a5, b5, c5⟩ := z_arrO hts q_322
  have hfl : ∀ w ∈ zfl, w.before args s = true := flat_of_before _ hgv
  have hm : ∀ (n : Nat) (w : Cond), zfl[n]? = some w → w.before args s = true := fun n w h => hfl w (List.mem_of_getElem? h)
  obtain ⟨aK, aV, hS, hT⟩ := vk_Sof (args := args) (s := s) (N := 10) (tm := ztm) (len := zsl) (byt := zsb) (A := fun q => s.heap.size ≤ q) (by decide) (fun i hi => hm _ _ (zs_ex i hi)) (fun i hi => hm _ _ (zs_co i hi)) (fun i hi => hm _ _ (zs_ar i hi)) (fun i hi => hm _ _ (zs_le i hi)) (fun i hi j hj => hm _ _ (zs_el i hi j hj)) (fun i j hi hj hij => by
    by_cases h : i < j
    · exact Or.inl (hm _ _ (zs_ne j hj i h))
    · exact Or.inr (hm _ _ (zs_ne i hi j (by omega)))) (fun a ha h => absurd ha (Nat.not_lt.mpr h))
  have eK : ∀ i : Nat, i < 10 → zcy [a0, a1, a2, a3, a4, a5] aK aV (10 + i) = aK i := fun i hi => by
    unfold zcy
    rw [if_neg (by omega), if_pos (by omega), show 10 + i - 10 = i by omega]
  have eV : ∀ i : Nat, i < 10 → zcy [a0, a1, a2, a3, a4, a5] aK aV (30 + i) = aV i := fun i hi => by
    unfold zcy
    rw [if_neg (by omega), if_neg (by omega), show 30 + i - 30 = i by omega]
  refine ⟨d, zcy [a0, a1, a2, a3, a4, a5] aK aV, hts, rfl, ⟨hd, fun k q hq => ?_⟩, hst, hgv, ⟨fun i hi => ?_, fun i j hi hj e => ?_⟩, fun i hi => ?_⟩
  · match k, hq with
    | 0, hq => have e := Option.some.inj hq; subst e; exact ⟨b0, c0⟩
    | 1, hq => have e := Option.some.inj hq; subst e; exact ⟨b1, c1⟩
    | 2, hq => have e := Option.some.inj hq; subst e; exact ⟨b2, c2⟩
    | 3, hq => have e := Option.some.inj hq; subst e; exact ⟨b3, c3⟩
    | 4, hq => have e := Option.some.inj hq; subst e; exact ⟨b4, c4⟩
    | 5, hq => have e := Option.some.inj hq; subst e; exact ⟨b5, c5⟩
    | k + 6, hq => simp [zT] at hq
  · have h := hS.1 i hi
    rw [← eK i hi, ← eV i hi] at h
    exact h
  · have e : zcy [a0, a1, a2, a3, a4, a5] aK aV (10 + i) = zcy [a0, a1, a2, a3, a4, a5] aK aV (10 + j) := e
    rw [eK i hi, eK j hj] at e
    exact hS.2 i j hi hj e
  · rw [eK i hi]; exact vk_R.of (A := args) (hts _ (zs_rf i hi)) (hT i hi)
