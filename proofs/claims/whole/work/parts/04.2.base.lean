section Zr2
variable {p : Program} {l : Launch} {e : Env} {R : Room} {s : State} {m : MethodId} {args : Array Value} {below : List Frame} {meth : Method} {c : Code} {s0 : State} {a0 : Array Value} {d : va_G} {cy : Nat → ClassId} {B0 : Nat} {own : String} {cc : ByteArray} {nL : Nat} {ret : Option FieldType} {bc0 bs0 bcF bsF fr lo : Nat} {tb : List ExceptionTableEntry} {Q : State → Prop} {pc : Nat} {lv : List (Nat × Value)} {st : List Value} {sh : zS} {sz bc bs : Nat} {I : zI} {L : zL}
/-! words of the law's own start, at this method's start -/
theorem z_word (C : zC p l e R s m args below meth c s0 a0 d cy B0 own cc nL ret bc0 bs0 bcF bsF fr lo tb) {w : Cond} (hw : w ∈ lw_tbl) (hg : goodWord w = true) : w.before args s = true := by
  obtain ⟨-, -, -, -, hE, hS, -⟩ := C
  exact word_at hS.1 (good_of_word hg) (hE.1 w hw)
theorem z_K (C : zC p l e R s m args below meth c s0 a0 d cy B0 own cc nL ret bc0 bs0 bcF bsF fr lo tb) : va_K d vwCl (zT cy) s := by
  obtain ⟨-, -, -, -, hE, hS, -⟩ := C
  exact va_K.moved hS.1.alike hE.2.2.1
/-- a class of vwCl: its number, name, fields, how many, their types -/
def zcls (ci : Nat) (CC : String) (TT : u_T) (NN : Nat) (ty : Nat → FieldType) : Prop :=
  vwCl[ci]? = some (CC, TT, NN) ∧ zNs.getD ci 0 = NN ∧ (∀ w ∈ u_ws CC TT NN, w ∈ lw_tbl ∧ goodWord w = true) ∧ (∀ k, k < NN → parseFieldDescriptor (TT k).2.2.1 = some (ty k)) ∧ (∀ a, a < NN → ∀ b, b < NN → a ≠ b → (TT a).2.1 ≠ (TT b).2.1)
theorem zat_obj {H : Heap} {p ci : Nat} (h : zat d cy B0 sh I L H p) (hk : (sh p).1 = ci) (hc : ci < 13) : t_OB (B0 + p) (d.1 ci) (zNs.getD ci 0) (d.2 ci) H (zfv B0 sh I L p ci) := by
  unfold zat at h
  rw [hk, if_pos hc] at h
  exact h
theorem zat_arr {H : Heap} {p : Nat} (h : zat d cy B0 sh I L H p) (h1 : ¬ (sh p).1 < 13) (h2 : (sh p).1 < 19) : H[B0 + p]? = some (zcell cy B0 sh I L p) := by
  unfold zat at h
  rw [if_neg h1, if_pos h2] at h
  exact h
/-- what a place holds depends on its own shape and data alone -/
theorem zat_congr {H H1 : Heap} {sh1 : zS} {I1 : zI} {L1 : zL} {p : Nat} (h : zat d cy B0 sh I L H p) (hH : H1[B0 + p]? = H[B0 + p]?) (hs : sh1 p = sh p) (hI : I1 p = I p) (hL : L1 p = L p) : zat d cy B0 sh1 I1 L1 H1 p := by
  unfold zat at h ⊢
  rw [hs]
  by_cases h1 : (sh p).1 < 13
  · rw [if_pos h1] at h ⊢
    refine t_OB.to (h.kept hH) (fun k _ => ?_)
    unfold zfv
    rw [hI, hL, hs]
  · rw [if_neg h1] at h ⊢
    by_cases h2 : (sh p).1 < 19
    · rw [if_pos h2] at h ⊢
      rw [hH, h]
      unfold zcell
      rw [hI, hL, hs]
    · rw [if_neg h2]
      trivial
/-- a store into one place -/
theorem zRep_set {H H1 : Heap} {sh1 : zS} {I1 : zI} {L1 : zL} {q : Nat} (h : zRep d cy B0 sh sz I L H) (hz : H1.size = H.size) (ho : ∀ a : Nat, a ≠ B0 + q → H1[a]? = H[a]?) (hq : q < sz) (hs : ∀ a, a ≠ q → sh1 a = sh a) (hI : ∀ a, a ≠ q → I1 a = I a) (hL : ∀ a, a ≠ q → L1 a = L a)
    (hn : zat d cy B0 sh1 I1 L1 H1 q) : zRep d cy B0 sh1 sz I1 L1 H1 := by
  refine ⟨⟨by rw [hz]; exact h.1.1, by rw [hz, hs sz (by omega)]; exact h.1.2⟩, fun p hp => ?_⟩
  by_cases hpq : p = q
  · subst hpq; exact hn
  · exact zat_congr (h.2 p hp) (ho _ (by omega)) (hs p hpq) (hI p hpq) (hL p hpq)
theorem z_getfield (C : zC p l e R s m args below meth c s0 a0 d cy B0 own cc nL ret bc0 bs0 bcF bsF fr lo tb) {CC : String} {TT : u_T} {NN : Nat} {ty : Nat → FieldType} {ci : Nat} (hc : zcls ci CC TT NN ty) {idx : Nat} (hd : decode cc pc = .ok (.getfield idx, 3)) (k q : Nat) (hks : (sh q).1 = ci) (hq : q < sz) (hkN : k < NN)
    (hlk : Cond.fieldLink own idx (TT k).1 (TT k).2.1 (TT k).2.2.1 ∈ lw_tbl) {v : Value} (hv : zfv B0 sh I L q ci k = v)
    (kk : zG p l e R s m args below meth c d cy B0 nL bc0 bs0 Q (pc + 3) lv (v :: st) sh sz bc bs I L) : zG p l e R s m args below meth c d cy B0 nL bc0 bs0 Q pc lv (.ref (B0 + q) :: st) sh sz bc bs I L := by
  intro ls H locs cells slots h1 h2 h3 h4 h5 h6
  obtain ⟨hx, hb, -, hown, -⟩ := id C
  obtain ⟨hcl, hNN, hws, hty, hnm⟩ := hc
  have hK := z_K C
  have hlt : ci < 13 := (List.getElem?_eq_some_iff.mp hcl).1
  obtain ⟨cell, q1, q2, q3, q4⟩ := zat_obj (h2.2 q hq) hks hlt
  rw [hNN] at q4
  obtain ⟨hSl, hfc, kC, hkC, hkind⟩ := hK.1 ci _ hcl
  obtain ⟨cf, kf, fi, f, hi, hsl⟩ := hSl k hkN
  have hts : ∀ w ∈ u_ws CC TT NN, w.before args s = true := fun w hw => z_word C (hws w hw).1 (hws w hw).2
  refine W.getf hx hb hown (z_word C hlk rfl) hi (u_facts hfc hkC (u_lays hts (fun _ h => h) hkN) hi).1 q1 (by rw [q3]; exact fun h => by cases h) (v := v) ?_ rfl rfl hd (kk ls H locs cells slots h1 h2 h3 h4 h5 h6)
  rw [hsl, q4 k hkN, hv]
/-- a store into a field, of whatever kind -/
theorem z_put (C : zC p l e R s m args below meth c s0 a0 d cy B0 own cc nL ret bc0 bs0 bcF bsF fr lo tb) {CC : String} {TT : u_T} {NN : Nat} {ty : Nat → FieldType} {ci : Nat} (hc : zcls ci CC TT NN ty) {idx : Nat} (hd : decode cc pc = .ok (.putfield idx, 3)) (k q : Nat) (hks : (sh q).1 = ci) (hq : q < sz) (hkN : k < NN) (hfin : (TT k).2.2.2 = false)
    (hlk : Cond.fieldLink own idx (TT k).1 (TT k).2.1 (TT k).2.2.1 ∈ lw_tbl) {v : Value} (hn : narrow (ty k) v = v) (hf : fits (ty k) v = true) {sh1 : zS} {I1 : zI} {L1 : zL} (hs : ∀ a, a ≠ q → sh1 a = sh a) (hI : ∀ a, a ≠ q → I1 a = I a) (hL : ∀ a, a ≠ q → L1 a = L a) (hs1 : (sh1 q).1 = (sh q).1)
    (hv : ∀ j, j < NN → zfv B0 sh1 I1 L1 q ci j = if j = k then v else zfv B0 sh I L q ci j)
    (kk : zG p l e R s m args below meth c d cy B0 nL bc0 bs0 Q (pc + 3) lv st sh1 sz bc bs I1 L1) : zG p l e R s m args below meth c d cy B0 nL bc0 bs0 Q pc lv (v :: .ref (B0 + q) :: st) sh sz bc bs I L := by
  intro ls H locs cells slots h1 h2 h3 h4 h5 h6
  obtain ⟨hx, hb, -, hown, -⟩ := id C
  obtain ⟨hcl, hNN, hws, hty, hnm⟩ := hc
  have hK := z_K C
  have hlt : ci < 13 := (List.getElem?_eq_some_iff.mp hcl).1
  obtain ⟨cell, q1, q2, q3, q4⟩ := zat_obj (h2.2 q hq) hks hlt
  rw [hNN] at q4
  have hts : ∀ w ∈ u_ws CC TT NN, w.before args s = true := fun w hw => z_word C (hws w hw).1 (hws w hw).2
  have hap := va_apart (own := own) hts (fun _ h => h) ty hty hnm hK hcl
  obtain ⟨hSl, hfc, kC, hkC, hkind⟩ := hK.1 ci _ hcl
  obtain ⟨cf, kf, fi, f, hi, hsl⟩ := hSl k hkN
  have hlay := hts _ (u_in_lay hkN)
  unfold u_lay at hlay
  rw [if_neg (by rw [hfin]; decide)] at hlay
  have hst := (u_facts hfc hkC (u_lays hts (fun _ h => h) hkN) hi).1
  have h6' := u_store hfc hkC hkind hlay hi (hty k hkN) hn hf
  refine W.putK hx hb (f := f) ⟨hown, z_word C hlk rfl, ⟨_, _, _, hi⟩, hst⟩ (by rw [q2]; exact h6') q1 q3 (by rw [hsl]; exact k2_hasslot (q4 k hkN)) rfl rfl hd fun H' e1 e2 e3 => ?_
  rw [hsl] at e1 ⊢
  refine kk ls H' _ cells slots h1 (zRep_set h2 e2 e3 hq hs hI hL ?_) h3 h4 (fun z hz => ?_) (fun z hz => (e3 z (Nat.ne_of_lt (Nat.lt_add_right q hz))).trans (h6 z hz))
  · unfold zat
    rw [hs1, hks, if_pos hlt, hNN]
    exact t_OB.to (V := updV (zfv B0 sh I L q ci) k v) ⟨_, e1, q2, q3, t_set q4 hap hkN v⟩ (fun j hj => by rw [hv j hj]; rfl)
  · rcases List.mem_append.mp hz with h | h
    · exact h5 z h
    · rw [List.mem_singleton] at h
      rw [h]
      exact Nat.le_add_right _ _
theorem z_puti (C : zC p l e R s m args below meth c s0 a0 d cy B0 own cc nL ret bc0 bs0 bcF bsF fr lo tb) {CC : String} {TT : u_T} {NN : Nat} {ty : Nat → FieldType} {ci : Nat} (hc : zcls ci CC TT NN ty) {idx : Nat} (hd : decode cc pc = .ok (.putfield idx, 3)) (k q : Nat) (hks : (sh q).1 = ci) (hq : q < sz) (hkN : k < NN) (hfin : (TT k).2.2.2 = false)
    (hlk : Cond.fieldLink own idx (TT k).1 (TT k).2.1 (TT k).2.2.1 ∈ lw_tbl) {x : Int32} (hn : narrow (ty k) (.int x) = .int x) (hf : fits (ty k) (.int x) = true) (hz : zk ci k = 0)
    (kk : zG p l e R s m args below meth c d cy B0 nL bc0 bs0 Q (pc + 3) lv st sh sz bc bs (zu I q k x) L) : zG p l e R s m args below meth c d cy B0 nL bc0 bs0 Q pc lv (.int x :: .ref (B0 + q) :: st) sh sz bc bs I L := by
  refine z_put (I1 := zu I q k x) C hc hd k q hks hq hkN hfin hlk hn hf (fun _ _ => rfl) (fun a ha => zu_pf I x ha) (fun _ _ => rfl) rfl (fun j hj => ?_) kk
  by_cases hjk : j = k
  · subst hjk
    rw [if_pos rfl]
    unfold zfv
    rw [if_pos hz, zu_eq]
  · rw [if_neg hjk]
    unfold zfv
    rw [zu_k I x hjk]
/-- a reference that changes: its place + 1 -/
theorem z_putr (C : zC p l e R s m args below meth c s0 a0 d cy B0 own cc nL ret bc0 bs0 bcF bsF fr lo tb) {CC : String} {TT : u_T} {NN : Nat} {ty : Nat → FieldType} {ci : Nat} (hc : zcls ci CC TT NN ty) {idx : Nat} (hd : decode cc pc = .ok (.putfield idx, 3)) (k q : Nat) (hks : (sh q).1 = ci) (hq : q < sz) (hkN : k < NN) (hfin : (TT k).2.2.2 = false)
    (hlk : Cond.fieldLink own idx (TT k).1 (TT k).2.1 (TT k).2.2.1 ∈ lw_tbl) {r : Nat} (hr : r < 1000000) (hn : narrow (ty k) (.ref (B0 + r)) = .ref (B0 + r)) (hf : fits (ty k) (.ref (B0 + r)) = true) (hz : zk ci k = 3)
    (kk : zG p l e R s m args below meth c d cy B0 nL bc0 bs0 Q (pc + 3) lv st sh sz bc bs (zu I q k (nI (r + 1))) L) : zG p l e R s m args below meth c d cy B0 nL bc0 bs0 Q pc lv (.ref (B0 + r) :: .ref (B0 + q) :: st) sh sz bc bs I L := by
  refine z_put (I1 := zu I q k (nI (r + 1))) C hc hd k q hks hq hkN hfin hlk hn hf (fun _ _ => rfl) (fun a ha => zu_pf I _ ha) (fun _ _ => rfl) rfl (fun j hj => ?_) kk
  by_cases hjk : j = k
  · subst hjk
    rw [if_pos rfl]
    unfold zfv
    rw [if_neg (by rw [hz]; decide), if_neg (by rw [hz]; decide), if_pos hz, zu_eq]
    unfold zdec
    rw [if_neg (nI_ne0 (by omega) (by omega)), nI_clamp (by omega)]
    rfl
  · rw [if_neg hjk]
    unfold zfv
    rw [zu_k I _ hjk]
/-- arrays -/
theorem zarr_at {H : Heap} {q : Nat} (h2 : zRep d cy B0 sh sz I L H) (hq : q < sz) {t n : Nat} (hk : (sh q).1 = 13 + t) (ht : t < 6) (hn : (sh q).2.1 = n) : H[B0 + q]? = some (zcell cy B0 sh I L q) := zat_arr (h2.2 q hq) (by omega) (by omega)
theorem zcell_i {q t n : Nat} (hk : (sh q).1 = 13 + t) (ht : t < 4) (ht2 : t ≠ 2) (hn : (sh q).2.1 = n) : zcell cy B0 sh I L q = arrV (cy t) n (fun j => .int (I q j)) := by
  unfold zcell
  rw [if_neg (by omega), if_pos (by omega), hk, hn, Nat.add_sub_cancel_left]
theorem zcell_l {q n : Nat} (hk : (sh q).1 = 15) (hn : (sh q).2.1 = n) : zcell cy B0 sh I L q = arrV (cy 2) n (fun j => .long (L q j)) := by
  unfold zcell
  rw [if_pos hk, hn]
theorem zcell_r {q t n : Nat} (hk : (sh q).1 = 13 + t) (ht : 4 ≤ t) (hn : (sh q).2.1 = n) : zcell cy B0 sh I L q = arrV (cy t) n (fun j => zref B0 ((sh q).2.2 j)) := by
  unfold zcell
  rw [if_neg (by omega), if_neg (by omega), hk, hn, Nat.add_sub_cancel_left]
theorem z_iaload (C : zC p l e R s m args below meth c s0 a0 d cy B0 own cc nL ret bc0 bs0 bcF bsF fr lo tb) (hd : decode cc pc = .ok (.iaload, 1)) {q n : Nat} (hk : (sh q).1 = 14) (hn : (sh q).2.1 = n) (hq : q < sz) {i : Int32} (hin : vp_in i n)
    (kk : zG p l e R s m args below meth c d cy B0 nL bc0 bs0 Q (pc + 1) lv (.int (I q i.toNatClampNeg) :: st) sh sz bc bs I L) : zG p l e R s m args below meth c d cy B0 nL bc0 bs0 Q pc lv (.int i :: .ref (B0 + q) :: st) sh sz bc bs I L := by
  intro ls H locs cells slots h1 h2 h3 h4 h5 h6
  have hc := zarr_at h2 hq (t := 1) hk (by omega) hn
  rw [zcell_i (t := 1) hk (by omega) (by omega) hn] at hc
  have hlt : i.toNatClampNeg < n := Nat.not_le.mp fun q => hin (Or.inr q)
  exact W.iald (v := .int (I q i.toNatClampNeg)) C.1 C.2.1 hc (((z_K C).2 1 _ rfl).1 n _) (fun q => by cases q) (by rw [arrV_size]; exact hin) (by rw [arrV_read _ _ hlt]) rfl rfl hd (kk ls H locs cells slots h1 h2 h3 h4 h5 h6)
theorem z_laload (C : zC p l e R s m args below meth c s0 a0 d cy B0 own cc nL ret bc0 bs0 bcF bsF fr lo tb) (hd : decode cc pc = .ok (.laload, 1)) {q n : Nat} (hk : (sh q).1 = 15) (hn : (sh q).2.1 = n) (hq : q < sz) {i : Int32} (hin : vp_in i n)
    (kk : zG p l e R s m args below meth c d cy B0 nL bc0 bs0 Q (pc + 1) lv (.long (L q i.toNatClampNeg) :: st) sh sz bc bs I L) : zG p l e R s m args below meth c d cy B0 nL bc0 bs0 Q pc lv (.int i :: .ref (B0 + q) :: st) sh sz bc bs I L := by
  intro ls H locs cells slots h1 h2 h3 h4 h5 h6
  have hc := zarr_at h2 hq (t := 2) hk (by omega) hn
  rw [zcell_l hk hn] at hc
  have hlt : i.toNatClampNeg < n := Nat.not_le.mp fun q => hin (Or.inr q)
  exact W.lald (v := .long (L q i.toNatClampNeg)) C.1 C.2.1 hc (((z_K C).2 2 _ rfl).1 n _) (fun q => by cases q) (by rw [arrV_size]; exact hin) (by rw [arrV_read _ _ hlt]) rfl rfl hd (kk ls H locs cells slots h1 h2 h3 h4 h5 h6)
theorem z_caload (C : zC p l e R s m args below meth c s0 a0 d cy B0 own cc nL ret bc0 bs0 bcF bsF fr lo tb) (hd : decode cc pc = .ok (.caload, 1)) {q n : Nat} (hk : (sh q).1 = 13) (hn : (sh q).2.1 = n) (hq : q < sz) {i : Int32} (hin : vp_in i n)
    (kk : zG p l e R s m args below meth c d cy B0 nL bc0 bs0 Q (pc + 1) lv (.int (I q i.toNatClampNeg) :: st) sh sz bc bs I L) : zG p l e R s m args below meth c d cy B0 nL bc0 bs0 Q pc lv (.int i :: .ref (B0 + q) :: st) sh sz bc bs I L := by
  intro ls H locs cells slots h1 h2 h3 h4 h5 h6
  have hc := zarr_at h2 hq (t := 0) hk (by omega) hn
  rw [zcell_i (t := 0) hk (by omega) (by omega) hn] at hc
  have hlt : i.toNatClampNeg < n := Nat.not_le.mp fun q => hin (Or.inr q)
  exact W.cald (v := .int (I q i.toNatClampNeg)) C.1 C.2.1 hc (((z_K C).2 0 _ rfl).1 n _) (fun q => by cases q) (by rw [arrV_size]; exact hin) (by rw [arrV_read _ _ hlt]) rfl rfl hd (kk ls H locs cells slots h1 h2 h3 h4 h5 h6)
theorem z_zaload (C : zC p l e R s m args below meth c s0 a0 d cy B0 own cc nL ret bc0 bs0 bcF bsF fr lo tb) (hd : decode cc pc = .ok (.baload, 1)) {q n : Nat} (hk : (sh q).1 = 16) (hn : (sh q).2.1 = n) (hq : q < sz) {i : Int32} (hin : vp_in i n)
    (kk : zG p l e R s m args below meth c d cy B0 nL bc0 bs0 Q (pc + 1) lv (.int (I q i.toNatClampNeg) :: st) sh sz bc bs I L) : zG p l e R s m args below meth c d cy B0 nL bc0 bs0 Q pc lv (.int i :: .ref (B0 + q) :: st) sh sz bc bs I L := by
  intro ls H locs cells slots h1 h2 h3 h4 h5 h6
  have hc := zarr_at h2 hq (t := 3) hk (by omega) hn
  rw [zcell_i (t := 3) hk (by omega) (by omega) hn] at hc
  have hlt : i.toNatClampNeg < n := Nat.not_le.mp fun q => hin (Or.inr q)
  exact W.zald (v := .int (I q i.toNatClampNeg)) C.1 C.2.1 hc (((z_K C).2 3 _ rfl).1 n _) (fun q => by cases q) (by rw [arrV_size]; exact hin) (by rw [arrV_read _ _ hlt]) rfl rfl hd (kk ls H locs cells slots h1 h2 h3 h4 h5 h6)
theorem z_aaload (C : zC p l e R s m args below meth c s0 a0 d cy B0 own cc nL ret bc0 bs0 bcF bsF fr lo tb) (hd : decode cc pc = .ok (.aaload, 1)) {q n t : Nat} (hk : (sh q).1 = 13 + t) (ht : t = 4 ∨ t = 5) (hn : (sh q).2.1 = n) (hq : q < sz) {i : Int32} (hin : vp_in i n) {r : Nat} (hr : (sh q).2.2 i.toNatClampNeg = some r)
    (kk : zG p l e R s m args below meth c d cy B0 nL bc0 bs0 Q (pc + 1) lv (.ref (B0 + r) :: st) sh sz bc bs I L) : zG p l e R s m args below meth c d cy B0 nL bc0 bs0 Q pc lv (.int i :: .ref (B0 + q) :: st) sh sz bc bs I L := by
  intro ls H locs cells slots h1 h2 h3 h4 h5 h6
  have hc := zarr_at h2 hq (t := t) hk (by omega) hn
  rw [zcell_r (t := t) hk (by omega) hn] at hc
  have hlt : i.toNatClampNeg < n := Nat.not_le.mp fun q => hin (Or.inr q)
  have hv : (arrV (cy t) n (fun j => zref B0 ((sh q).2.2 j))).slots[i.toNatClampNeg]? = some (.ref (B0 + r)) := by
    rw [arrV_read _ _ hlt, hr]; rfl
  rcases ht with rfl | rfl
  · exact W.aald (ty := .array .int) C.1 C.2.1 hc (((z_K C).2 4 _ rfl).1 n _) rfl (fun q => by cases q) (by rw [arrV_size]; exact hin) hv rfl rfl hd (kk ls H locs cells slots h1 h2 h3 h4 h5 h6)
  · exact W.aald (ty := .array .long) C.1 C.2.1 hc (((z_K C).2 5 _ rfl).1 n _) rfl (fun q => by cases q) (by rw [arrV_size]; exact hin) hv rfl rfl hd (kk ls H locs cells slots h1 h2 h3 h4 h5 h6)
theorem zlocs {locs : List Loc} {q i : Nat} (h5 : ∀ z ∈ locs, B0 ≤ z.base) : ∀ z ∈ locs ++ [(⟨B0 + q, i⟩ : Loc)], B0 ≤ z.base := by
  intro z hz
  rcases List.mem_append.mp hz with h | h
  · exact h5 z h
  · rw [List.mem_singleton] at h
    rw [h]
    exact Nat.le_add_right _ _
theorem zset_i {H H1 : Heap} {q t n j : Nat} {x : Int32} (h2 : zRep d cy B0 sh sz I L H) (hq : q < sz) (hk : (sh q).1 = 13 + t) (ht : t < 4) (ht2 : t ≠ 2) (hn : (sh q).2.1 = n) (e1 : H1[B0 + q]? = some ((zcell cy B0 sh I L q).setSlot j (.int x))) (e2 : H1.size = H.size) (e3 : ∀ a, a ≠ B0 + q → H1[a]? = H[a]?) : zRep d cy B0 sh sz (zu I q j x) L H1 := by
  refine zRep_set h2 e2 e3 hq (fun _ _ => rfl) (fun a ha => zu_pf I x ha) (fun _ _ => rfl) ?_
  unfold zat
  rw [if_neg (by omega), if_pos (by omega), e1, zcell_i (t := t) hk ht ht2 hn, zcell_i (t := t) hk ht ht2 hn, arrV_store]
  congr 2
  funext a
  unfold updV
  by_cases ha : a = j
  · subst ha; rw [if_pos rfl, zu_eq]
  · rw [if_neg ha, zu_k I x ha]
theorem z_iastore (C : zC p l e R s m args below meth c s0 a0 d cy B0 own cc nL ret bc0 bs0 bcF bsF fr lo tb) (hd : decode cc pc = .ok (.iastore, 1)) {q n : Nat} (hk : (sh q).1 = 14) (hn : (sh q).2.1 = n) (hq : q < sz) {i x : Int32} (hin : vp_in i n)
    (kk : zG p l e R s m args below meth c d cy B0 nL bc0 bs0 Q (pc + 1) lv st sh sz bc bs (zu I q i.toNatClampNeg x) L) : zG p l e R s m args below meth c d cy B0 nL bc0 bs0 Q pc lv (.int x :: .int i :: .ref (B0 + q) :: st) sh sz bc bs I L := by
  intro ls H locs cells slots h1 h2 h3 h4 h5 h6
  have hc := zarr_at h2 hq (t := 1) hk (by omega) hn
  have hc' := hc
  rw [zcell_i (t := 1) hk (by omega) (by omega) hn] at hc
  refine W.iast C.1 C.2.1 hc (((z_K C).2 1 _ rfl).1 n _) (fun q => by cases q) (by rw [arrV_size]; exact hin) rfl rfl hd fun H1 e1 e2 e3 => ?_
  rw [← zcell_i (t := 1) (cy := cy) (B0 := B0) (L := L) hk (by omega) (by omega) hn] at e1
  exact kk ls H1 _ cells slots h1 (zset_i (t := 1) h2 hq hk (by omega) (by omega) hn e1 e2 e3) h3 h4 (zlocs h5) (fun z hz => (e3 z (Nat.ne_of_lt (Nat.lt_add_right q hz))).trans (h6 z hz))
theorem z_castore (C : zC p l e R s m args below meth c s0 a0 d cy B0 own cc nL ret bc0 bs0 bcF bsF fr lo tb) (hd : decode cc pc = .ok (.castore, 1)) {q n : Nat} (hk : (sh q).1 = 13) (hn : (sh q).2.1 = n) (hq : q < sz) {i x : Int32} (hin : vp_in i n)
    (kk : zG p l e R s m args below meth c d cy B0 nL bc0 bs0 Q (pc + 1) lv st sh sz bc bs (zu I q i.toNatClampNeg (vp_nar .char x)) L) : zG p l e R s m args below meth c d cy B0 nL bc0 bs0 Q pc lv (.int x :: .int i :: .ref (B0 + q) :: st) sh sz bc bs I L := by
  intro ls H locs cells slots h1 h2 h3 h4 h5 h6
  have hc := zarr_at h2 hq (t := 0) hk (by omega) hn
  rw [zcell_i (t := 0) hk (by omega) (by omega) hn] at hc
  refine W.cast C.1 C.2.1 hc (((z_K C).2 0 _ rfl).1 n _) (fun q => by cases q) (by rw [arrV_size]; exact hin) rfl rfl hd fun H1 e1 e2 e3 => ?_
  rw [← zcell_i (t := 0) (cy := cy) (B0 := B0) (L := L) hk (by omega) (by omega) hn] at e1
  exact kk ls H1 _ cells slots h1 (zset_i (t := 0) h2 hq hk (by omega) (by omega) hn e1 e2 e3) h3 h4 (zlocs h5) (fun z hz => (e3 z (Nat.ne_of_lt (Nat.lt_add_right q hz))).trans (h6 z hz))
theorem z_zastore (C : zC p l e R s m args below meth c s0 a0 d cy B0 own cc nL ret bc0 bs0 bcF bsF fr lo tb) (hd : decode cc pc = .ok (.bastore, 1)) {q n : Nat} (hk : (sh q).1 = 16) (hn : (sh q).2.1 = n) (hq : q < sz) {i x : Int32} (hin : vp_in i n)
    (kk : zG p l e R s m args below meth c d cy B0 nL bc0 bs0 Q (pc + 1) lv st sh sz bc bs (zu I q i.toNatClampNeg (vp_nar .boolean x)) L) : zG p l e R s m args below meth c d cy B0 nL bc0 bs0 Q pc lv (.int x :: .int i :: .ref (B0 + q) :: st) sh sz bc bs I L := by
  intro ls H locs cells slots h1 h2 h3 h4 h5 h6
  have hc := zarr_at h2 hq (t := 3) hk (by omega) hn
  rw [zcell_i (t := 3) hk (by omega) (by omega) hn] at hc
  refine W.zast C.1 C.2.1 hc (((z_K C).2 3 _ rfl).1 n _) (fun q => by cases q) (by rw [arrV_size]; exact hin) rfl rfl hd fun H1 e1 e2 e3 => ?_
  rw [← zcell_i (t := 3) (cy := cy) (B0 := B0) (L := L) hk (by omega) (by omega) hn] at e1
  exact kk ls H1 _ cells slots h1 (zset_i (t := 3) h2 hq hk (by omega) (by omega) hn e1 e2 e3) h3 h4 (zlocs h5) (fun z hz => (e3 z (Nat.ne_of_lt (Nat.lt_add_right q hz))).trans (h6 z hz))
theorem z_lastore (C : zC p l e R s m args below meth c s0 a0 d cy B0 own cc nL ret bc0 bs0 bcF bsF fr lo tb) (hd : decode cc pc = .ok (.lastore, 1)) {q n : Nat} (hk : (sh q).1 = 15) (hn : (sh q).2.1 = n) (hq : q < sz) {i : Int32} {x : Int64} (hin : vp_in i n)
    (kk : zG p l e R s m args below meth c d cy B0 nL bc0 bs0 Q (pc + 1) lv st sh sz bc bs I (zul L q i.toNatClampNeg x)) : zG p l e R s m args below meth c d cy B0 nL bc0 bs0 Q pc lv (.long x :: .int i :: .ref (B0 + q) :: st) sh sz bc bs I L := by
  intro ls H locs cells slots h1 h2 h3 h4 h5 h6
  have hc := zarr_at h2 hq (t := 2) hk (by omega) hn
  rw [zcell_l hk hn] at hc
  refine W.last C.1 C.2.1 hc (((z_K C).2 2 _ rfl).1 n _) (fun q => by cases q) (by rw [arrV_size]; exact hin) rfl rfl hd fun H1 e1 e2 e3 => ?_
  refine kk ls H1 _ cells slots h1 (zRep_set h2 e2 e3 hq (fun _ _ => rfl) (fun _ _ => rfl) (fun a ha => zul_pf L x ha) ?_) h3 h4 (zlocs h5) (fun z hz => (e3 z (Nat.ne_of_lt (Nat.lt_add_right q hz))).trans (h6 z hz))
  unfold zat
  rw [if_neg (by omega), if_pos (by omega), e1, zcell_l hk hn, arrV_store]
  congr 2
  funext a
  unfold updV
  by_cases ha : a = i.toNatClampNeg
  · subst ha; rw [if_pos rfl, zul_eq]
  · rw [if_neg ha, zul_k L x ha]

end Zr2
