/-! library members: Math.max, Math.min, System.arraycopy, lengths, Strings -/
def zmx (x y : Int32) : Int32 := if x < y then y else x
def zmn (x y : Int32) : Int32 := if y < x then y else x
def zcp (L : zL) (dst src n : Nat) : zL := fun a j => if a = dst ∧ j < n then L src j else L a j
/-- what a throwing method's answer says: its value, or the number of the class that it throws -/
def zex (k : Nat) : String := ["java/lang/IndexOutOfBoundsException", "java/lang/IllegalStateException", "java/lang/IllegalArgumentException", "java/lang/UnsupportedOperationException"].getD k ""
def zri (x : Int32 ⊕ Nat) : Option Value ⊕ String := match x with
  | .inl v => .inl (some (.int v))
  | .inr k => .inr (zex k)
def zrl (x : Int64 ⊕ Nat) : Option Value ⊕ String := match x with
  | .inl v => .inl (some (.long v))
  | .inr k => .inr (zex k)
def zrv (x : Unit ⊕ Nat) : Option Value ⊕ String := match x with
  | .inl _ => .inl none
  | .inr k => .inr (zex k)
def zfc {α : Type} (x : α ⊕ Nat) (b : Nat) : Nat := match x with
  | .inl _ => b
  | .inr _ => b + 1
def zfs {α : Type} (x : α ⊕ Nat) (b : Nat) : Nat := match x with
  | .inl _ => b
  | .inr _ => b + 6
theorem zfc_le {α : Type} (x : α ⊕ Nat) (b : Nat) : b ≤ zfc x b := by cases x <;> simp [zfc]
theorem zfs_le {α : Type} (x : α ⊕ Nat) (b : Nat) : b ≤ zfs x b := by cases x <;> simp [zfs]
def zsm {α β : Type} (x : α ⊕ Nat) (f : α → β) (g : Nat → β) : β := match x with
  | .inl v => f v
  | .inr k => g k
section Zr7
variable {p : Program} {l : Launch} {e : Env} {R : Room} {s : State} {m : MethodId} {args : Array Value} {below : List Frame} {meth : Method} {c : Code} {s0 : State} {a0 : Array Value} {d : va_G} {cy : Nat → ClassId} {B0 : Nat} {own : String} {cc : ByteArray} {nL : Nat} {ret : Option FieldType} {bc0 bs0 bcF bsF fr lo : Nat} {tb : List ExceptionTableEntry} {Q : State → Prop} {pc : Nat} {lv : List (Nat × Value)} {st : List Value} {sh : zS} {sz bc bs : Nat} {I : zI} {L : zL}
theorem z_size (C : zC p l e R s m args below meth c s0 a0 d cy B0 own cc nL ret bc0 bs0 bcF bsF fr lo tb) {T : State} {locs : List Loc} {cells slots : Nat} (X : Stand p l e R s m args below meth c T locs cells slots) : s.heap.size ≤ T.heap.size := X.same.2.1
theorem z_mmax (C : zC p l e R s m args below meth c s0 a0 d cy B0 own cc nL ret bc0 bs0 bcF bsF fr lo tb) {idx : Nat} (hd : decode cc pc = .ok (.invokestatic idx, 3)) (hlk : Cond.methodLink own idx Lib.Math.max.name ∈ lw_tbl) (hst : Cond.static Lib.Math.max.name ∈ lw_tbl) (hini : Cond.initialized "java/lang/Math" ∈ lw_tbl) (hco : Cond.code Lib.Math.max.name Lib.Math.max.code 2 (some .int) ∈ lw_tbl)
    (hfr : 1 ≤ fr) (hlo : (st.map fun v => v.category).sum + 13 ≤ lo) (hz : bc ≤ bcF ∧ bs ≤ bsF) {x y : Int32} (kk : zG p l e R s m args below meth c d cy B0 nL bc0 bs0 Q (pc + 3) lv (.int (zmx x y) :: st) sh sz bc bs I L) : zG p l e R s m args below meth c d cy B0 nL bc0 bs0 Q pc lv (.int y :: .int x :: st) sh sz bc bs I L := by
  intro ls H locs cells slots h1 h2 h3 h4 h5 h6
  have hR : R = { frames := fr, cells := bcF - bc0, slots := bsF - bs0, locals := lo } := C.2.2.2.2.2.2.2.2.1
  exact va_mmax C.1 C.2.1 (C.2.2.1.trans h1.1.symm) C.2.2.2.1 (z_word C hlk rfl) (z_word C hst rfl) (z_word C hini rfl) (z_word C hco rfl) (by rw [hR]; exact hfr) (by rw [hR]; exact hlo) (by rw [hR]; show cells ≤ bcF - bc0; omega) (by rw [hR]; show slots ≤ bsF - bs0; omega) hd (kk ls H locs cells slots h1 h2 h3 h4 h5 h6)
theorem z_mmin (C : zC p l e R s m args below meth c s0 a0 d cy B0 own cc nL ret bc0 bs0 bcF bsF fr lo tb) {idx : Nat} (hd : decode cc pc = .ok (.invokestatic idx, 3)) (hlk : Cond.methodLink own idx Lib.Math.min.name ∈ lw_tbl) (hst : Cond.static Lib.Math.min.name ∈ lw_tbl) (hini : Cond.initialized "java/lang/Math" ∈ lw_tbl) (hco : Cond.code Lib.Math.min.name Lib.Math.min.code 2 (some .int) ∈ lw_tbl)
    (hfr : 1 ≤ fr) (hlo : (st.map fun v => v.category).sum + 13 ≤ lo) (hz : bc ≤ bcF ∧ bs ≤ bsF) {x y : Int32} (kk : zG p l e R s m args below meth c d cy B0 nL bc0 bs0 Q (pc + 3) lv (.int (zmn x y) :: st) sh sz bc bs I L) : zG p l e R s m args below meth c d cy B0 nL bc0 bs0 Q pc lv (.int y :: .int x :: st) sh sz bc bs I L := by
  intro ls H locs cells slots h1 h2 h3 h4 h5 h6
  have hR : R = { frames := fr, cells := bcF - bc0, slots := bsF - bs0, locals := lo } := C.2.2.2.2.2.2.2.2.1
  exact va_mmin C.1 C.2.1 (C.2.2.1.trans h1.1.symm) C.2.2.2.1 (z_word C hlk rfl) (z_word C hst rfl) (z_word C hini rfl) (z_word C hco rfl) (by rw [hR]; exact hfr) (by rw [hR]; exact hlo) (by rw [hR]; show cells ≤ bcF - bc0; omega) (by rw [hR]; show slots ≤ bsF - bs0; omega) hd (kk ls H locs cells slots h1 h2 h3 h4 h5 h6)
theorem z_ldcw (C : zC p l e R s m args below meth c s0 a0 d cy B0 own cc nL ret bc0 bs0 bcF bsF fr lo tb) {idx : Nat} (hd : decode cc pc = .ok (.ldc_w idx, 3)) {v : Int32} (hk : Cond.constant own idx v ∈ lw_tbl) (kk : zG p l e R s m args below meth c d cy B0 nL bc0 bs0 Q (pc + 3) lv (.int v :: st) sh sz bc bs I L) : zG p l e R s m args below meth c d cy B0 nL bc0 bs0 Q pc lv st sh sz bc bs I L :=
  fun ls H locs cells slots h1 h2 h3 h4 h5 h6 => lv_ldcw C.1 C.2.1 C.2.2.2.1 (z_word C hk rfl) hd (kk ls H locs cells slots h1 h2 h3 h4 h5 h6)
theorem z_alenI (C : zC p l e R s m args below meth c s0 a0 d cy B0 own cc nL ret bc0 bs0 bcF bsF fr lo tb) (hd : decode cc pc = .ok (.arraylength, 1)) {q n : Nat} (hk : (sh q).1 = 14) (hn : (sh q).2.1 = n) (hq : q < sz) {v : Int32} (hv : Int32.ofNat n = v)
    (kk : zG p l e R s m args below meth c d cy B0 nL bc0 bs0 Q (pc + 1) lv (.int v :: st) sh sz bc bs I L) : zG p l e R s m args below meth c d cy B0 nL bc0 bs0 Q pc lv (.ref (B0 + q) :: st) sh sz bc bs I L := by
  intro ls H locs cells slots h1 h2 h3 h4 h5 h6
  have hc := zarr_at h2 hq (t := 1) hk (by omega) hn
  rw [zcell_i (t := 1) hk (by omega) (by omega) hn] at hc
  exact W.alen C.1 C.2.1 hc (((z_K C).2 1 _ rfl).1 n _) (by rw [arrV_size]; exact hv) rfl rfl hd (kk ls H locs cells slots h1 h2 h3 h4 h5 h6)
theorem z_alenL (C : zC p l e R s m args below meth c s0 a0 d cy B0 own cc nL ret bc0 bs0 bcF bsF fr lo tb) (hd : decode cc pc = .ok (.arraylength, 1)) {q n : Nat} (hk : (sh q).1 = 15) (hn : (sh q).2.1 = n) (hq : q < sz) {v : Int32} (hv : Int32.ofNat n = v)
    (kk : zG p l e R s m args below meth c d cy B0 nL bc0 bs0 Q (pc + 1) lv (.int v :: st) sh sz bc bs I L) : zG p l e R s m args below meth c d cy B0 nL bc0 bs0 Q pc lv (.ref (B0 + q) :: st) sh sz bc bs I L := by
  intro ls H locs cells slots h1 h2 h3 h4 h5 h6
  have hc := zarr_at h2 hq (t := 2) hk (by omega) hn
  rw [zcell_l hk hn] at hc
  exact W.alen C.1 C.2.1 hc (((z_K C).2 2 _ rfl).1 n _) (by rw [arrV_size]; exact hv) rfl rfl hd (kk ls H locs cells slots h1 h2 h3 h4 h5 h6)
/-- a whole array of n longs over another of n -/
theorem z_acopy (C : zC p l e R s m args below meth c s0 a0 d cy B0 own cc nL ret bc0 bs0 bcF bsF fr lo tb) {idx : Nat} (hd : decode cc pc = .ok (.invokestatic idx, 3)) (hlk : Cond.methodLink own idx arraycopyName ∈ lw_tbl) (hnat : Cond.native arraycopyName ∈ lw_tbl) (hst : Cond.static arraycopyName ∈ lw_tbl) (hini : Cond.initialized "java/lang/System" ∈ lw_tbl)
    (hfr : 1 ≤ fr) (hlo : (st.map fun v => v.category).sum + (nativeFrameWords "java/lang/System" "arraycopy" 5 + 11) ≤ lo) {q r N : Nat} {n : Int32} (hk : (sh q).1 = 15) (hn : (sh q).2.1 = N) (hq : q < sz) (hk2 : (sh r).1 = 15) (hn2 : (sh r).2.1 = N) (hr : r < sz) (h0 : ¬ n < 0) (hN : n.toNatClampNeg = N)
    (kk : zG p l e R s m args below meth c d cy B0 nL bc0 bs0 Q (pc + 3) lv st sh sz bc bs I (zcp L r q N)) : zG p l e R s m args below meth c d cy B0 nL bc0 bs0 Q pc lv (.int n :: .int 0 :: .ref (B0 + r) :: .int 0 :: .ref (B0 + q) :: st) sh sz bc bs I L := by
  intro ls H locs cells slots h1 h2 h3 h4 h5 h6
  have hR : R = { frames := fr, cells := bcF - bc0, slots := bsF - bs0, locals := lo } := C.2.2.2.2.2.2.2.2.1
  have hc0 := zarr_at h2 hq (t := 2) hk (by omega) hn
  rw [zcell_l hk hn] at hc0
  have hc1 := zarr_at h2 hr (t := 2) hk2 (by omega) hn2
  rw [zcell_l hk2 hn2] at hc1
  have nn : n.toInt = (N : Int) := by
    have hz0 : (0 : Int) ≤ n.toInt := by
      have := Int32.not_lt.mp h0
      simpa using Int32.le_iff_toInt_le.mp this
    have : n.toInt.toNat = N := hN
    omega
  intro T hT X
  obtain ⟨-, k0, hk0, cm0, hkk0⟩ := ((z_K C).2 2 _ rfl).1 N (fun j => .long (L q j))
  obtain ⟨vm', X', step⟩ := X.arraycopy C.1 C.2.2.2.1 (z_word C hlk rfl) (z_word C hnat rfl) (z_word C hst rfl) (z_word C hini rfl) (src := B0 + q) (dst := B0 + r) (cs := arrV (cy 2) N (fun j => .long (L q j))) (cd := arrV (cy 2) N (fun j => .long (L r j))) (srcPos := 0) (destPos := 0) (n := n) (by rw [hT]; exact hc0) (by rw [hT]; exact hc1)
    (fun _ h => by cases h) (fun _ h => by cases h) (fun h => by cases h) (fun h => by cases h) hk0 hk0 hkk0 hkk0 (by simp [refKind]) (by decide) (by decide) h0
    (by rw [nn, arrV_size]; simp) (by rw [nn, arrV_size]; simp)
    (fun vm₁ _ i hi => by
      have e : (arrV (cy 2) N (fun j => .long (L q j))).slots.getD ((0 : Int32).toNatClampNeg + i) .null = .long (L q ((0 : Int32).toNatClampNeg + i)) := by
        rw [Array.getD_eq_getD_getElem?, arrV_read _ _ (by rw [hN] at hi; simpa using hi)]
        rfl
      refine ⟨?_, ?_⟩
      · rw [e]; rfl
      · rw [e]; exact trivial)
    (g := F0 m pc ls (.int n :: .int 0 :: .ref (B0 + r) :: .int 0 :: .ref (B0 + q) :: st)) rfl (h1.1.trans C.2.2.1.symm) (rest := st) rfl (by rw [C.2.1]; exact hd) (by rw [hR]; exact hfr) (by rw [hR]; show 2 * 0 + _ + _ ≤ lo; omega)
  have e1 : copied (arrV (cy 2) N (fun j => .long (L q j))) (arrV (cy 2) N (fun j => .long (L r j))) 0 0 n = arrV (cy 2) N (fun j => .long (va_cpy (L q) (L r) (0 : Int32).toNatClampNeg (0 : Int32).toNatClampNeg n.toNatClampNeg j)) := va_copied (fun z => .long z) (cy 2) (cy 2) (L q) (L r) (by rw [hN]; simp)
  rw [e1] at X' step
  have hl : B0 + r < H.size := (Array.getElem?_eq_some_iff.mp hc1).1
  generalize hcc : arrV (cy 2) N (fun j => .long (va_cpy (L q) (L r) (0 : Int32).toNatClampNeg (0 : Int32).toNatClampNeg n.toNatClampNeg j)) = CC at X' step
  have hheap : ((T.setVm vm').setCell (B0 + r) CC).heap = H.setIfInBounds (B0 + r) CC := by rw [← hT]; rfl
  have oq : ∀ z : Nat, z ≠ B0 + r → (H.setIfInBounds (B0 + r) CC)[z]? = H[z]? := fun z hz => by simp [Array.getElem?_setIfInBounds, Ne.symm hz]
  obtain ⟨t, a1, b1⟩ := kk ls (H.setIfInBounds (B0 + r) CC) _ cells slots h1 (zRep_set (q := r) (L1 := zcp L r q N) h2 (by simp) oq hr (fun _ _ => rfl) (fun _ _ => rfl) (fun a ha => by funext j; simp [zcp, ha]) (by
      unfold zat
      rw [if_neg (by omega), if_pos (by omega), zcell_l hk2 hn2]
      show (H.setIfInBounds (B0 + r) CC)[B0 + r]? = _
      rw [Array.getElem?_setIfInBounds, if_pos rfl, if_pos hl, ← hcc]
      congr 2
      funext j
      rw [hN, show (0 : Int32).toNatClampNeg = 0 from rfl]
      by_cases hj : j < N
      · rw [pk_cpy_in (Nat.zero_le _) (by simpa using hj)]
        simp [zcp, hj]
      · rw [pk_cpy_out (by right; simpa using Nat.le_of_not_lt hj)]
        simp [zcp, hj])) h3 h4 (fun z hz => by
      rcases List.mem_append.mp hz with h | h
      · exact h5 z h
      · obtain ⟨w, -, hw⟩ := List.mem_map.mp h
        rw [← hw]
        exact Nat.le_add_right _ _) (fun z hz => (oq z (Nat.ne_of_lt (Nat.lt_add_right r hz))).trans (h6 z hz)) _ hheap X'
  exact ⟨t, step t a1, b1⟩
/-! Strings -/
theorem z_S (C : zC p l e R s m args below meth c s0 a0 d cy B0 own cc nL ret bc0 bs0 bcF bsF fr lo tb) : vk_S 10 zsl zsb (fun i => cy (10 + i)) (fun i => cy (30 + i)) (fun q => B0 ≤ q) s s.heap := by
  obtain ⟨-, -, -, -, hE, hS, -⟩ := C
  refine (vk_S.moved hS.1.alike hE.2.2.2.2.2.1).kept (fun a ha hA => hS.2 a (by omega))
theorem z_vaS {T : State} {H : Heap} {locs : List Loc} {cells slots : Nat} (hT : T.heap = H) (X : Stand p l e R s m args below meth c T locs cells slots) (h5 : ∀ q ∈ locs, B0 ≤ q.base) (h6 : ∀ q : Nat, q < B0 → H[q]? = s.heap[q]?) : va_S (fun q => B0 ≤ q) s.heap H locs :=
  ⟨by rw [← hT]; exact X.same.2.1, fun q _ hA => h6 q (by omega), h5⟩
theorem z_ldcS (C : zC p l e R s m args below meth c s0 a0 d cy B0 own cc nL ret bc0 bs0 bcF bsF fr lo tb) (i : Nat) (hi : i < 10) (ho : own = RX8) {idx : Nat} (hx : zsi.getD i 0 = idx) (hd : decode cc pc = .ok (.ldc idx, 2)) (kk : zG p l e R s m args below meth c d cy B0 nL bc0 bs0 Q (pc + 2) lv (.ref (cy (10 + i)) :: st) sh sz bc bs I L) : zG p l e R s m args below meth c d cy B0 nL bc0 bs0 Q pc lv st sh sz bc bs I L := by
  intro ls H locs cells slots h1 h2 h3 h4 h5 h6
  obtain ⟨hx1, hb, -, hown, hE, hS, -⟩ := id C
  have hr := vk_R.warm hS.1 (hE.2.2.2.2.2.2 i hi)
  rw [hx] at hr
  subst ho
  exact va_ldcS hx1 hb hown hr hd (kk ls H locs cells slots h1 h2 h3 h4 h5 h6)
theorem z_sval (C : zC p l e R s m args below meth c s0 a0 d cy B0 own cc nL ret bc0 bs0 bcF bsF fr lo tb) (i : Nat) (hi : i < 10) {idx : Nat} (hd : decode cc pc = .ok (.getfield idx, 3)) (hlk : Cond.fieldLink own idx "java/lang/String" "value" "[B" ∈ lw_tbl) (kk : zG p l e R s m args below meth c d cy B0 nL bc0 bs0 Q (pc + 3) lv (.ref (cy (30 + i)) :: st) sh sz bc bs I L) : zG p l e R s m args below meth c d cy B0 nL bc0 bs0 Q pc lv (.ref (cy (10 + i)) :: st) sh sz bc bs I L := by
  intro ls H locs cells slots h1 h2 h3 h4 h5 h6 T hT X
  exact vk_getf C.1 C.2.1 ((z_S C).1 i hi).2.2.1 (z_vaS hT X h5 h6) C.2.2.2.1 (z_word C hlk rfl) (fun _ h => h) hd (kk ls H locs cells slots h1 h2 h3 h4 h5 h6) T hT X
theorem z_scod (C : zC p l e R s m args below meth c s0 a0 d cy B0 own cc nL ret bc0 bs0 bcF bsF fr lo tb) (i : Nat) (hi : i < 10) {idx : Nat} (hd : decode cc pc = .ok (.getfield idx, 3)) (hlk : Cond.fieldLink own idx "java/lang/String" "coder" "B" ∈ lw_tbl) (kk : zG p l e R s m args below meth c d cy B0 nL bc0 bs0 Q (pc + 3) lv (.int 0 :: st) sh sz bc bs I L) : zG p l e R s m args below meth c d cy B0 nL bc0 bs0 Q pc lv (.ref (cy (10 + i)) :: st) sh sz bc bs I L := by
  intro ls H locs cells slots h1 h2 h3 h4 h5 h6 T hT X
  exact vk_getf C.1 C.2.1 ((z_S C).1 i hi).2.1 (z_vaS hT X h5 h6) C.2.2.2.1 (z_word C hlk rfl) (fun _ h => h) hd (kk ls H locs cells slots h1 h2 h3 h4 h5 h6) T hT X
theorem z_slen (C : zC p l e R s m args below meth c s0 a0 d cy B0 own cc nL ret bc0 bs0 bcF bsF fr lo tb) (i : Nat) (hi : i < 10) (hd : decode cc pc = .ok (.arraylength, 1)) (kk : zG p l e R s m args below meth c d cy B0 nL bc0 bs0 Q (pc + 1) lv (.int (Int32.ofNat (zsl.getD i 0)) :: st) sh sz bc bs I L) : zG p l e R s m args below meth c d cy B0 nL bc0 bs0 Q pc lv (.ref (cy (30 + i)) :: st) sh sz bc bs I L := by
  intro ls H locs cells slots h1 h2 h3 h4 h5 h6 T hT X
  exact va_tlen C.1 C.2.1 ((z_S C).1 i hi).2.2.2 (z_vaS hT X h5 h6) rfl hd (kk ls H locs cells slots h1 h2 h3 h4 h5 h6) T hT X
theorem z_sbyt (C : zC p l e R s m args below meth c s0 a0 d cy B0 own cc nL ret bc0 bs0 bcF bsF fr lo tb) (i : Nat) (hi : i < 10) (hd : decode cc pc = .ok (.baload, 1)) {x : Int32} (hin : vp_in x (zsl.getD i 0)) (kk : zG p l e R s m args below meth c d cy B0 nL bc0 bs0 Q (pc + 1) lv (.int ((zsb.getD i []).getD x.toNatClampNeg 0) :: st) sh sz bc bs I L) : zG p l e R s m args below meth c d cy B0 nL bc0 bs0 Q pc lv (.int x :: .ref (cy (30 + i)) :: st) sh sz bc bs I L := by
  intro ls H locs cells slots h1 h2 h3 h4 h5 h6 T hT X
  exact va_tb C.1 C.2.1 ((z_S C).1 i hi).2.2.2 (z_vaS hT X h5 h6) hin rfl hd (kk ls H locs cells slots h1 h2 h3 h4 h5 h6) T hT X
theorem z_srecv (C : zC p l e R s m args below meth c s0 a0 d cy B0 own cc nL ret bc0 bs0 bcF bsF fr lo tb) (i : Nat) (hi : i < 10) {T : State} {H : Heap} {locs : List Loc} {cells slots : Nat} (hT : T.heap = H) (X : Stand p l e R s m args below meth c T locs cells slots) (h5 : ∀ q ∈ locs, B0 ≤ q.base) (h6 : ∀ q : Nat, q < B0 → H[q]? = s.heap[q]?) : ∃ cell : Cell, H[cy (10 + i)]? = some cell ∧ cell.vm.isStatics = false ∧ s.vm.findClass "java/lang/String" = some cell.cls :=
  vk_recv (adK := fun i => cy (10 + i)) (i := i) (z_S C) hi (z_vaS hT X h5 h6)
/-- the static COMPACT_STRINGS -/
theorem z_compact (C : zC p l e R s m args below meth c s0 a0 d cy B0 own cc nL ret bc0 bs0 bcF bsF fr lo tb) {idx : Nat} (hd : decode cc pc = .ok (.getstatic idx, 3)) (hlk : Cond.fieldLink own idx "java/lang/String" "COMPACT_STRINGS" "Z" ∈ lw_tbl) (kk : zG p l e R s m args below meth c d cy B0 nL bc0 bs0 Q (pc + 3) lv (.int 1 :: st) sh sz bc bs I L) : zG p l e R s m args below meth c d cy B0 nL bc0 bs0 Q pc lv st sh sz bc bs I L := by
  intro ls H locs cells slots h1 h2 h3 h4 h5 h6 T hT X
  obtain ⟨-, -, -, -, hE, hS, -⟩ := id C
  have hnar := flat_of_before _ hE.2.2.2.2.1
  have hZ := va_Zof (A := fun q => B0 ≤ q) (hE.1 (Cond.laysStatic "java/lang/String" "COMPACT_STRINGS" "Z") (by decide +kernel)) (hE.1 (Cond.initialized "java/lang/String") (by decide +kernel)) (va_eqi (hnar (Cond.eq (.static "java/lang/String" "COMPACT_STRINGS" "Z") (.int 1)) (by decide +kernel))) (fun a ha => by have := hE.2.1; omega)
  have hZ2 := (va_Z.moved hS.1.alike hZ).kept (H1 := s.heap) (fun a ha hA => hS.2 a (by omega))
  exact va_gets C.1 C.2.1 hZ2 (z_vaS hT X h5 h6) C.2.2.2.1 (z_word C hlk rfl) (fun _ h => h) hd (kk ls H locs cells slots h1 h2 h3 h4 h5 h6) T hT X
/-- the static SIOOBE_FORMATTER: null, or some reference -/
theorem z_siob (C : zC p l e R s m args below meth c s0 a0 d cy B0 own cc nL ret bc0 bs0 bcF bsF fr lo tb) {idx : Nat} (hd : decode cc pc = .ok (.getstatic idx, 3)) (hlk : Cond.fieldLink own idx "jdk/internal/util/Preconditions" "SIOOBE_FORMATTER" "Ljava/util/function/BiFunction;" ∈ lw_tbl) (kn : zG p l e R s m args below meth c d cy B0 nL bc0 bs0 Q (pc + 3) lv (.null :: st) sh sz bc bs I L) (kr : ∀ t : Nat, zG p l e R s m args below meth c d cy B0 nL bc0 bs0 Q (pc + 3) lv (.ref t :: st) sh sz bc bs I L) : zG p l e R s m args below meth c d cy B0 nL bc0 bs0 Q pc lv st sh sz bc bs I L := by
  intro ls H locs cells slots h1 h2 h3 h4 h5 h6 T hT X
  obtain ⟨-, -, -, -, hE, hS, -⟩ := id C
  have hnar := flat_of_before _ hE.2.2.2.2.1
  have hZ := va_Zqof (A := fun q => B0 ≤ q) (hE.1 (Cond.laysStatic "jdk/internal/util/Preconditions" "SIOOBE_FORMATTER" "Ljava/util/function/BiFunction;") (by decide +kernel)) (hE.1 (Cond.initialized "jdk/internal/util/Preconditions") (by decide +kernel)) (hnar (Cond.isRef (.static "jdk/internal/util/Preconditions" "SIOOBE_FORMATTER" "Ljava/util/function/BiFunction;")) (by decide +kernel)) (fun a ha => by have := hE.2.1; omega)
  rcases hZ with hZ | ⟨t, hZ⟩
  · have hZ2 := (va_Z.moved hS.1.alike hZ).kept (H1 := s.heap) (fun a ha hA => hS.2 a (by omega))
    exact va_gets C.1 C.2.1 hZ2 (z_vaS hT X h5 h6) C.2.2.2.1 (z_word C hlk rfl) (fun _ h => h) hd (kn ls H locs cells slots h1 h2 h3 h4 h5 h6) T hT X
  · have hZ2 := (va_Z.moved hS.1.alike hZ).kept (H1 := s.heap) (fun a ha hA => hS.2 a (by omega))
    exact va_gets C.1 C.2.1 hZ2 (z_vaS hT X h5 h6) C.2.2.2.1 (z_word C hlk rfl) (fun _ h => h) hd (kr t ls H locs cells slots h1 h2 h3 h4 h5 h6) T hT X
/-- a virtual call on a String constant -/
theorem z_callVS (C : zC p l e R s m args below meth c s0 a0 d cy B0 own cc nL ret bc0 bs0 bcF bsF fr lo tb) (i : Nat) (hi : i < 10) {idx : Nat} (hd : decode cc pc = .ok (.invokevirtual idx, 3)) {y : MethodName} {cc1 : ByteArray} {nL1 n1 : Nat} {ret1 : Option FieldType} {fr1 lo1 : Nat} {As : List Value} {v : Option Value} {sh1 : zS} {sz1 bc1 bs1 : Nat} {I1 : zI} {L1 : zL} (hY : zY y cc1 nL1 ret1 n1)
    (hM : zM l s0 d cy B0 y cc1 nL1 ret1 fr1 lo1 (.ref (cy (10 + i)) :: As) sh sz bc bs I L (.inl v) sh1 sz1 bc1 bs1 I1 L1) (hlk : Cond.methodLink own idx y ∈ lw_tbl) (hin : Cond.instanceMethod y ∈ lw_tbl) (hse : Cond.selects "java/lang/String" y y ∈ lw_tbl) (hfr : fr1 + 1 ≤ fr) (hlo : 8 + (nL1 + 11) + lo1 ≤ lo) (hn : As.length = n1) {stk : List Value} (hs : stk = As.reverse ++ .ref (cy (10 + i)) :: st) (hw : (st.map fun v => v.category).sum ≤ 8) (hz : bc ≤ bc1 ∧ bc1 ≤ bcF ∧ bs ≤ bs1 ∧ bs1 ≤ bsF)
    (kk : zG p l e R s m args below meth c d cy B0 nL bc0 bs0 Q (pc + 3) lv (v.toList ++ st) sh1 sz1 bc1 bs1 I1 L1) : zG p l e R s m args below meth c d cy B0 nL bc0 bs0 Q pc lv stk sh sz bc bs I L := by
  intro ls H locs cells slots h1 h2 h3 h4 h5 h6
  subst hs
  intro T hT X
  obtain ⟨cell, r1, r2, r3⟩ := z_srecv C i hi hT X h5 h6
  rcases vx_callV X C.1 (bytes := cc1) (maxL := nL1) (ret := ret1) C.2.2.2.1 (z_word C hlk rfl) (z_word C hin rfl) (z_word C hse rfl) (z_word C hY.1 rfl) hY.2.2.1 (z_back C hY hM hfr hlo) (b := cy (10 + i)) (by rw [hT]; exact r1) r2 r3 (g := F0 m pc ls (As.reverse ++ .ref (cy (10 + i)) :: st)) rfl (h1.1.trans C.2.2.1.symm) (argsL := As) (rest := st) (fun sig h => hn.trans (hY.len sig h)) rfl (lv_room hw) (by rw [C.2.1]; exact hd)
    (fun vm₁ hW => z_pre (As := .ref (cy (10 + i)) :: As) C hT h2 h3 h4 h6 hz hW) with ⟨v', vm₁, ⟨U', l2, c2, s2⟩, hW₁, X', ⟨g', mk, t, L9, e1, e2, hq, hl2, hL, hc2, hs2⟩, stp⟩ | ⟨q, vm₁, ⟨U', l2, c2, s2⟩, hW₁, X', ⟨g', mk, t, L9, E, ce, e1, e2, hq, hce, hcv, hcl, hl2, hL, hc2, hs2⟩, stp⟩
  · dsimp only [Pt.U, Pt.locs, Pt.cells, Pt.slots] at X' e1 e2 hl2 hc2 hs2 stp
    subst hl2; subst hc2; subst hs2
    obtain ⟨v2, hr, ho, hrep, hlow⟩ := hq
    cases ho
    cases hr
    obtain ⟨t2, a1, b1⟩ := kk ls U'.heap (locs ++ L9) (cells + (bc1 - bc)) (slots + (bs1 - bs)) h1 (by rw [e1]; exact hrep) (by omega) (by omega) (zapp h5 hL) (fun q hq => by
      rw [e1, hlow q hq]
      show T.heap[q]? = _
      rw [hT]; exact h6 q hq) U' rfl X'
    exact ⟨t2, stp t2 a1, b1⟩
  · exact absurd hq.1 (by intro h; cases h)
end Zr7
theorem zsm_l {α β : Type} {v : α} {f : α → β} {g : Nat → β} {r : β} (h : zsm (.inl v) f g = r) : f v = r := h
theorem zsm_r {α β : Type} {k : Nat} {f : α → β} {g : Nat → β} {r : β} (h : zsm (.inr k) f g = r) : g k = r := h
def zchr (x : Int32) : Bool := decide ((x.toUInt32 % 65536).toInt32 = x)
theorem zchr_n {x : Int32} (h : zchr x = true) : narrow .char (.int x) = .int x := by
  have h2 : (x.toUInt32 % 65536).toInt32 = x := of_decide_eq_true h
  rw [← h2]
  exact pk_nc x
def zbyt (x : Int32) : Bool := decide (x.toInt8.toInt32 = x)
theorem zbyt_n {x : Int32} (h : zbyt x = true) : narrow .byte (.int x) = .int x := by
  have h2 : x.toInt8.toInt32 = x := of_decide_eq_true h
  rw [← h2]
  exact pk_nb x
theorem zat_of {L : List Cond} (ps : List Nat) (h1 : L = ps.filterMap (fun i => lw_tbl[i]?)) (h2 : L.all (fun w => zgood w && vx_ot w) = true) : ∀ w ∈ L, w ∈ lw_tbl ∧ zgood w = true ∧ vx_ot w = true := by
  intro w hw
  have h3 := List.all_eq_true.mp h2 w hw
  simp only [Bool.and_eq_true] at h3
  rw [h1] at hw
  obtain ⟨i, -, hi⟩ := List.mem_filterMap.mp hw
  exact ⟨List.mem_of_getElem? hi, h3.1, h3.2⟩
