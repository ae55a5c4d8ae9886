/-! the constructors: places come one by one; M: the references that are still to be set -/
def zpt (sz : Nat) (M : List (Nat × Nat)) : zS := fun p => if p < sz then ((zSH p).1, (zSH p).2.1, fun k => if (p, k) ∈ M then none else (zSH p).2.2 k) else (20, 0, fun _ => none)
theorem zpt_end (sz : Nat) (M : List (Nat × Nat)) : (zpt sz M sz).1 = 20 := by simp [zpt]
theorem zpt_k {sz : Nat} {M : List (Nat × Nat)} {q : Nat} (h : q < sz) : (zpt sz M q).1 = (zSH q).1 := by simp [zpt, h]
theorem zpt_n {sz : Nat} {M : List (Nat × Nat)} {q : Nat} (h : q < sz) : (zpt sz M q).2.1 = (zSH q).2.1 := by simp [zpt, h]
theorem zpt_r {sz : Nat} {M : List (Nat × Nat)} {q k : Nat} (h : q < sz) (hm : (q, k) ∉ M) : (zpt sz M q).2.2 k = (zSH q).2.2 k := by simp [zpt, h, hm]
/-- one place more -/
theorem zRep_push {d : va_G} {cy : Nat → ClassId} {B0 sz : Nat} {M M1 : List (Nat × Nat)} {I : zI} {L : zL} {H H1 : Heap} (h : zRep d cy B0 (zpt sz M) sz I L H) (hz : H1.size = H.size + 1) (ho : ∀ q : Nat, q < H.size → H1[q]? = H[q]?) (hM : ∀ p k, p < sz → ((p, k) ∈ M1 ↔ (p, k) ∈ M)) (hn : zat d cy B0 (zpt (sz + 1) M1) I L H1 sz) : zRep d cy B0 (zpt (sz + 1) M1) (sz + 1) I L H1 := by
  have hs : H.size = B0 + sz := h.1.2 (zpt_end sz M)
  refine ⟨⟨by omega, fun _ => by omega⟩, fun p hp => ?_⟩
  by_cases hps : p = sz
  · subst hps; exact hn
  · have hlt : p < sz := by omega
    refine zat_congr (h.2 p hlt) (ho _ (by omega)) ?_ rfl rfl
    unfold zpt
    rw [if_pos hp, if_pos hlt]
    congr 2
    funext k
    by_cases hm : (p, k) ∈ M
    · rw [if_pos hm, if_pos ((hM p k hlt).mpr hm)]
    · rw [if_neg hm, if_neg (fun h9 => hm ((hM p k hlt).mp h9))]
section Zr8
variable {p : Program} {l : Launch} {e : Env} {R : Room} {s : State} {m : MethodId} {args : Array Value} {below : List Frame} {meth : Method} {c : Code} {s0 : State} {a0 : Array Value} {d : va_G} {cy : Nat → ClassId} {B0 : Nat} {own : String} {cc : ByteArray} {nL : Nat} {ret : Option FieldType} {bc0 bs0 bcF bsF fr lo : Nat} {tb : List ExceptionTableEntry} {Q : State → Prop} {pc : Nat} {lv : List (Nat × Value)} {st : List Value} {sh : zS} {sz bc bs : Nat} {I : zI} {L : zL}
variable {M : List (Nat × Nat)}
theorem z_new (C : zC p l e R s m args below meth c s0 a0 d cy B0 own cc nL ret bc0 bs0 bcF bsF fr lo tb) {CC : String} {TT : u_T} {NN : Nat} {ty : Nat → FieldType} {ci : Nat} (hc : zcls ci CC TT NN ty) {idx : Nat} (hd : decode cc pc = .ok (.new idx, 3)) (hlk : Cond.classLink own idx CC ∈ lw_tbl) (hins : Cond.instantiable CC NN ∈ lw_tbl) (hini : Cond.initialized CC ∈ lw_tbl) (M1 : List (Nat × Nat))
    (hks : (zSH sz).1 = ci) (hM : ∀ p k, p < sz → ((p, k) ∈ M1 ↔ (p, k) ∈ M)) (hM1 : ∀ k, k < NN → zk ci k = 2 → (sz, k) ∈ M1) (hdef : ∀ k, k < NN → defaultValue (ty k) = (if zk ci k = 0 then .int 0 else if zk ci k = 1 then .long 0 else .null)) (hk4 : ∀ k, k < NN → zk ci k < 4) (hI : ∀ k, I sz k = 0) (hL : ∀ k, L sz k = 0) (hF : bc + 1 ≤ bcF ∧ bs + NN ≤ bsF)
    (kk : zG p l e R s m args below meth c d cy B0 nL bc0 bs0 Q (pc + 3) lv (.ref (B0 + sz) :: st) (zpt (sz + 1) M1) (sz + 1) (bc + 1) (bs + NN) I L) : zG p l e R s m args below meth c d cy B0 nL bc0 bs0 Q pc lv st (zpt sz M) sz bc bs I L := by
  intro ls H locs cells slots h1 h2 h3 h4 h5 h6
  obtain ⟨hx, hb, -, hown, -⟩ := id C
  have hR : R = { frames := fr, cells := bcF - bc0, slots := bsF - bs0, locals := lo } := C.2.2.2.2.2.2.2.2.1
  obtain ⟨hcl, hNN, hws, hty, hnm⟩ := hc
  have hlt : ci < 13 := (List.getElem?_eq_some_iff.mp hcl).1
  have hK := (z_K C).1 ci _ hcl
  have hs : H.size = B0 + sz := h2.1.2 (zpt_end sz M)
  have hts : ∀ w ∈ u_ws CC TT NN, w.before args s = true := fun w hw => z_word C (hws w hw).1 (hws w hw).2
  refine W.newcK hx hb hown (z_word C hlk rfl) (z_word C hins rfl) (z_word C hini rfl) rfl hd (by rw [hR]; show cells + 1 ≤ bcF - bc0; omega) (by rw [hR]; show slots + NN ≤ bsF - bs0; omega) hK.2.1 hs fun H1 kC hkC e1 e2 e3 => ?_
  refine kk ls H1 locs (cells + 1) (slots + NN) h1 (zRep_push h2 (by omega) (fun q hq => e3 q (by omega)) hM ?_) (by omega) (by omega) h5 (fun q hq => (e3 q (by omega)).trans (h6 q hq))
  unfold zat
  have hk2 : (zpt (sz + 1) M1 sz).1 = ci := by rw [zpt_k (by omega), hks]
  rw [hk2, if_pos hlt, hNN]
  refine t_OB.to (u_born ty hts (fun _ h => h) hK hkC e1 hty) (fun k hk => ?_)
  rw [hdef k hk]
  unfold zfv
  by_cases z0 : zk ci k = 0
  · rw [if_pos z0, if_pos z0, hI]
  · rw [if_neg z0, if_neg z0]
    by_cases z1 : zk ci k = 1
    · rw [if_pos z1, if_pos z1, hL]
    · rw [if_neg z1, if_neg z1]
      by_cases z3 : zk ci k = 3
      · rw [if_pos z3, hI]; rfl
      · rw [if_neg z3]
        have z2 : zk ci k = 2 := by have := hk4 k hk; omega
        have hm := hM1 k hk z2
        simp [zpt, hm, zref, va_rf]
theorem z_newarr (C : zC p l e R s m args below meth c s0 a0 d cy B0 own cc nL ret bc0 bs0 bcF bsF fr lo tb) {at_ : ArrayType} {t : Nat} (ht : t < 4) {ty : FieldType} (hty : newarray.typeOf at_ = ty) (hT : (zT cy)[t]? = some (cy t, ty)) (hdv : defaultValue ty = (if t = 2 then .long 0 else .int 0)) (hd : decode cc pc = .ok (.newarray at_, 2)) (hac : Cond.arrayClass ty ∈ lw_tbl) {n : Int32} {N : Nat} (hn : ¬ n < 0) (hN : n.toNatClampNeg = N) (hby : N * componentBytes ty ≤ 536870912) (hsh : "[" ++ ty.toString = "[" ++ ty.toString)
    (hks : (zSH sz).1 = 13 + t) (hkn : (zSH sz).2.1 = N) (hI : ∀ k, I sz k = 0) (hL : ∀ k, L sz k = 0) (hM : ∀ k, (sz, k) ∉ M) (hF : bc + 1 ≤ bcF ∧ bs + N ≤ bsF) (hra : ∀ U : State, ∀ cA : ClassId, va_RA U cA ty → U.vm.findClass ("[" ++ ty.toString) = some cA)
    (kk : zG p l e R s m args below meth c d cy B0 nL bc0 bs0 Q (pc + 2) lv (.ref (B0 + sz) :: st) (zpt (sz + 1) M) (sz + 1) (bc + 1) (bs + N) I L) : zG p l e R s m args below meth c d cy B0 nL bc0 bs0 Q pc lv (.int n :: st) (zpt sz M) sz bc bs I L := by
  intro ls H locs cells slots h1 h2 h3 h4 h5 h6
  have hR : R = { frames := fr, cells := bcF - bc0, slots := bsF - bs0, locals := lo } := C.2.2.2.2.2.2.2.2.1
  have hs : H.size = B0 + sz := h2.1.2 (zpt_end sz M)
  subst hty
  refine va_newaK C.1 C.2.1 (z_word C hac rfl) rfl hd rfl hn hN hby (by rw [hR]; show cells + 1 ≤ bcF - bc0; omega) (by rw [hR]; show slots + N ≤ bsF - bs0; omega) hs fun H1 cA e1 e2 e3 hAr hNm => ?_
  have hcA : cA = cy t := Option.some.inj (hNm.symm.trans (hra s (cy t) ((z_K C).2 t _ hT).2))
  subst hcA
  refine kk ls H1 locs (cells + 1) (slots + N) h1 (zRep_push h2 (by omega) (fun q hq => e3 q (by omega)) (fun _ _ _ => Iff.rfl) ?_) (by omega) (by omega) h5 (fun q hq => (e3 q (by omega)).trans (h6 q hq))
  unfold zat
  have hk2 : (zpt (sz + 1) M sz).1 = 13 + t := by rw [zpt_k (by omega), hks]
  have hn2 : (zpt (sz + 1) M sz).2.1 = N := by rw [zpt_n (by omega), hkn]
  rw [if_neg (by omega), if_pos (by omega), e1, hdv]
  by_cases h2 : t = 2
  · subst h2
    rw [zcell_l hk2 hn2, if_pos rfl]
    congr 2
    funext j
    rw [hL]
  · rw [zcell_i (t := t) hk2 ht h2 hn2, if_neg h2]
    congr 2
    funext j
    rw [hI]
/-- a store into a final field, of whatever kind -/
theorem z_putF0 (C : zC p l e R s m args below meth c s0 a0 d cy B0 own cc nL ret bc0 bs0 bcF bsF fr lo tb) (hin : meth.name = "<init>") {CC : String} {TT : u_T} {NN : Nat} {ty : Nat → FieldType} {ci : Nat} (hc : zcls ci CC TT NN ty) {idx : Nat} (hd : decode cc pc = .ok (.putfield idx, 3)) (k q : Nat) (hks : (sh q).1 = ci) (hq : q < sz) (hkN : k < NN) (hfin : (TT k).2.2.2 = true) (hdecl : (TT k).1 = own)
    (hlk : Cond.fieldLink own idx (TT k).1 (TT k).2.1 (TT k).2.2.1 ∈ lw_tbl) {v : Value} (hn : narrow (ty k) v = v) (hf : fits (ty k) v = true) {sh1 : zS} {I1 : zI} {L1 : zL} (hse : ((sh1 sz).1 = 20 → (sh sz).1 = 20)) (hs : ∀ a, a < sz → a ≠ q → sh1 a = sh a) (hI : ∀ a, a ≠ q → I1 a = I a) (hL : ∀ a, a ≠ q → L1 a = L a) (hs1 : (sh1 q).1 = (sh q).1)
    (hv : ∀ j, j < NN → zfv B0 sh1 I1 L1 q ci j = if j = k then v else zfv B0 sh I L q ci j)
    (kk : zG p l e R s m args below meth c d cy B0 nL bc0 bs0 Q (pc + 3) lv st sh1 sz bc bs I1 L1) : zG p l e R s m args below meth c d cy B0 nL bc0 bs0 Q pc lv (v :: .ref (B0 + q) :: st) sh sz bc bs I L := by
  intro ls H locs cells slots h1 h2 h3 h4 h5 h6
  obtain ⟨hx, hb, -, hown, -⟩ := id C
  obtain ⟨hcl, hNN, hws, hty, hnm⟩ := hc
  have hK := z_K C
  have hlt : ci < 13 := (List.getElem?_eq_some_iff.mp hcl).1
  obtain ⟨cell, q1, q2, q3, q4⟩ := zat_obj (h2.2 q hq) hks hlt
  rw [hNN] at q4
  have hts : ∀ w ∈ u_ws CC TT NN, w.before args s = true := fun w hw => z_word C (hws w hw).1 (hws w hw).2
  have hap := va_apart (own := own) hts (fun _ h => h) ty hty hnm hK hcl
  obtain ⟨hSl, hfc, kC, hkC, hkind⟩ := hK.1 ci _ hcl
  obtain ⟨cf, kf, fi, f, hi, hsl⟩ := hSl k hkN
  have hlay := hts _ (u_in_lay hkN)
  unfold u_lay at hlay
  rw [if_pos hfin] at hlay
  have hst := (u_facts hfc hkC (u_lays hts (fun _ h => h) hkN) hi).1
  have hcf : m.cls = cf := by
    obtain ⟨_, _, c', _, _, _, -, -, hf', -, -, -, hown2, -⟩ := Cond.laysFinal_spec hlay
    have e1 : c' = cf := by have := hi.symm.trans hf'; simp at this; exact this.1.symm
    rw [hdecl] at hown2
    rw [← e1]; exact Option.some.inj (hown.symm.trans hown2)
  have h6' := u_fits hfc hkC hkind (Or.inr hlay) hi (hty k hkN) hn hf
  refine W.putFinK hx hb hown (z_word C hlk rfl) hi hst hcf hin (by rw [q2]; exact h6') q1 q3 (by rw [hsl]; exact k2_hasslot (q4 k hkN)) rfl rfl hd fun H' e1 e2 e3 => ?_
  rw [hsl] at e1 ⊢
  refine kk ls H' _ cells slots h1 ⟨⟨by rw [e2]; exact h2.1.1, fun h9 => by rw [e2]; exact h2.1.2 (hse h9)⟩, fun a ha => ?_⟩ h3 h4 (zlocs h5) (fun z hz => (e3 z (Nat.ne_of_lt (Nat.lt_add_right q hz))).trans (h6 z hz))
  by_cases haq : a = q
  · subst haq
    unfold zat
    rw [hs1, hks, if_pos hlt, hNN]
    exact t_OB.to (V := updV (zfv B0 sh I L a ci) k v) ⟨_, e1, q2, q3, t_set q4 hap hkN v⟩ (fun j hj => by rw [hv j hj]; rfl)
  · exact zat_congr (h2.2 a ha) (e3 _ (fun h9 => haq (Nat.add_left_cancel h9))) (hs a ha haq) (hI a haq) (hL a haq)
/-- a final reference is set -/
theorem z_putF (C : zC p l e R s m args below meth c s0 a0 d cy B0 own cc nL ret bc0 bs0 bcF bsF fr lo tb) (hin : meth.name = "<init>") {CC : String} {TT : u_T} {NN : Nat} {ty : Nat → FieldType} {ci : Nat} (hc : zcls ci CC TT NN ty) {idx : Nat} (hd : decode cc pc = .ok (.putfield idx, 3)) (k q r : Nat) (hks : (zSH q).1 = ci) (hq : q < sz) (hkN : k < NN) (hfin : (TT k).2.2.2 = true) (hdecl : (TT k).1 = own)
    (hlk : Cond.fieldLink own idx (TT k).1 (TT k).2.1 (TT k).2.2.1 ∈ lw_tbl) (hn : narrow (ty k) (.ref (B0 + r)) = .ref (B0 + r)) (hf : fits (ty k) (.ref (B0 + r)) = true) (hz : zk ci k = 2) (hr : (zSH q).2.2 k = some r) (M1 : List (Nat × Nat)) (hM1 : M.filter (fun x => !(x == (q, k))) = M1)
    (kk : zG p l e R s m args below meth c d cy B0 nL bc0 bs0 Q (pc + 3) lv st (zpt sz M1) sz bc bs I L) : zG p l e R s m args below meth c d cy B0 nL bc0 bs0 Q pc lv (.ref (B0 + r) :: .ref (B0 + q) :: st) (zpt sz M) sz bc bs I L := by
  have hm : ∀ a j, ((a, j) ∈ M1 ↔ (a, j) ∈ M ∧ ¬ (a, j) = (q, k)) := by
    intro a j
    rw [← hM1, List.mem_filter]
    simp
  refine z_putF0 (sh1 := zpt sz M1) C hin hc hd k q (by rw [zpt_k hq, hks]) hq hkN hfin hdecl hlk hn hf (fun _ => zpt_end sz M) (fun a ha haq => ?_) (fun _ _ => rfl) (fun _ _ => rfl) (by rw [zpt_k hq, zpt_k hq]) (fun j hj => ?_) kk
  · unfold zpt
    rw [if_pos ha, if_pos ha]
    congr 2
    funext j
    by_cases h9 : (a, j) ∈ M
    · rw [if_pos h9, if_pos ((hm a j).mpr ⟨h9, fun e => haq (by cases e; rfl)⟩)]
    · rw [if_neg h9, if_neg (fun h8 => h9 ((hm a j).mp h8).1)]
  · by_cases hjk : j = k
    · subst hjk
      rw [if_pos rfl]
      unfold zfv
      rw [if_neg (by rw [hz]; decide), if_neg (by rw [hz]; decide), if_neg (by rw [hz]; decide), zpt_r hq (fun h8 => ((hm q j).mp h8).2 rfl), hr]
      rfl
    · rw [if_neg hjk]
      unfold zfv
      have e : (zpt sz M1 q).2.2 j = (zpt sz M q).2.2 j := by
        unfold zpt
        rw [if_pos hq, if_pos hq]
        show (if (q, j) ∈ M1 then none else (zSH q).2.2 j) = (if (q, j) ∈ M then none else (zSH q).2.2 j)
        by_cases h9 : (q, j) ∈ M
        · rw [if_pos h9, if_pos ((hm q j).mpr ⟨h9, fun e => hjk (by cases e; rfl)⟩)]
        · rw [if_neg h9, if_neg (fun h8 => h9 ((hm q j).mp h8).1)]
      rw [e]
/-- a final whole number is set -/
theorem z_putFi (C : zC p l e R s m args below meth c s0 a0 d cy B0 own cc nL ret bc0 bs0 bcF bsF fr lo tb) (hin : meth.name = "<init>") {CC : String} {TT : u_T} {NN : Nat} {ty : Nat → FieldType} {ci : Nat} (hc : zcls ci CC TT NN ty) {idx : Nat} (hd : decode cc pc = .ok (.putfield idx, 3)) (k q : Nat) (hks : (sh q).1 = ci) (hq : q < sz) (hkN : k < NN) (hfin : (TT k).2.2.2 = true) (hdecl : (TT k).1 = own)
    (hlk : Cond.fieldLink own idx (TT k).1 (TT k).2.1 (TT k).2.2.1 ∈ lw_tbl) {x : Int32} (hn : narrow (ty k) (.int x) = .int x) (hf : fits (ty k) (.int x) = true) (hz : zk ci k = 0)
    (kk : zG p l e R s m args below meth c d cy B0 nL bc0 bs0 Q (pc + 3) lv st sh sz bc bs (zu I q k x) L) : zG p l e R s m args below meth c d cy B0 nL bc0 bs0 Q pc lv (.int x :: .ref (B0 + q) :: st) sh sz bc bs I L := by
  refine z_putF0 (sh1 := sh) (I1 := zu I q k x) C hin hc hd k q hks hq hkN hfin hdecl hlk hn hf id (fun _ _ _ => rfl) (fun a ha => zu_pf I x ha) (fun _ _ => rfl) rfl (fun j hj => ?_) kk
  by_cases hjk : j = k
  · subst hjk
    rw [if_pos rfl]
    unfold zfv
    rw [if_pos hz, zu_eq]
  · rw [if_neg hjk]
    unfold zfv
    rw [zu_k I x hjk]
/-- Object.<init> -/
theorem z_obj (C : zC p l e R s m args below meth c s0 a0 d cy B0 own cc nL ret bc0 bs0 bcF bsF fr lo tb) {idx : Nat} (hd : decode cc pc = .ok (.invokespecial idx, 3)) (hlk : Cond.methodLink own idx Lib.objectInit ∈ lw_tbl) (hin : Cond.instanceMethod Lib.objectInit ∈ lw_tbl) (hco : Cond.code Lib.objectInit ⟨#[0xb1]⟩ 1 none ∈ lw_tbl) (hfr : 1 ≤ fr) (hlo : (st.map fun v => v.category).sum + 12 ≤ lo) {a : Nat}
    (kk : zG p l e R s m args below meth c d cy B0 nL bc0 bs0 Q (pc + 3) lv st sh sz bc bs I L) : zG p l e R s m args below meth c d cy B0 nL bc0 bs0 Q pc lv (.ref a :: st) sh sz bc bs I L := by
  intro ls H locs cells slots h1 h2 h3 h4 h5 h6
  have hR : R = { frames := fr, cells := bcF - bc0, slots := bsF - bs0, locals := lo } := C.2.2.2.2.2.2.2.2.1
  exact W.objInit C.1 C.2.1 C.2.2.2.1 (z_word C hlk rfl) (z_word C hin rfl) (z_word C hco rfl) rfl (h1.1.trans C.2.2.1.symm) rfl hd (by rw [hR]; exact hfr) (by rw [hR]; show 2 * 0 + _ + 12 ≤ lo; omega) (kk ls H locs cells slots h1 h2 h3 h4 h5 h6)
theorem z_callI (C : zC p l e R s m args below meth c s0 a0 d cy B0 own cc nL ret bc0 bs0 bcF bsF fr lo tb) {idx : Nat} (hd : decode cc pc = .ok (.invokespecial idx, 3)) {y : MethodName} {cc1 : ByteArray} {nL1 n1 : Nat} {fr1 lo1 : Nat} {q0 : Nat} {As : List Value} {sh1 : zS} {sz1 bc1 bs1 : Nat} {I1 : zI} {L1 : zL} (hY : zY y cc1 nL1 none n1)
    (hM : zM l s0 d cy B0 y cc1 nL1 none fr1 lo1 (.ref (B0 + q0) :: As) sh sz bc bs I L (.inl none) sh1 sz1 bc1 bs1 I1 L1) (hy1 : y.name = "<init>") (hlk : Cond.methodLink own idx y ∈ lw_tbl) (hin : Cond.instanceMethod y ∈ lw_tbl) (hfr : fr1 + 1 ≤ fr) (hlo : 8 + (nL1 + 11) + lo1 ≤ lo) (hn : As.length = n1) {stk : List Value} (hs : stk = As.reverse ++ .ref (B0 + q0) :: st) (hw : (st.map fun v => v.category).sum ≤ 8) (hz : bc ≤ bc1 ∧ bc1 ≤ bcF ∧ bs ≤ bs1 ∧ bs1 ≤ bsF)
    (kk : zG p l e R s m args below meth c d cy B0 nL bc0 bs0 Q (pc + 3) lv st sh1 sz1 bc1 bs1 I1 L1) : zG p l e R s m args below meth c d cy B0 nL bc0 bs0 Q pc lv stk sh sz bc bs I L := by
  intro ls H locs cells slots h1 h2 h3 h4 h5 h6
  subst hs
  intro T hT X
  have hlk2 : (Cond.methodLink own idx y).before args s = true := z_word C hlk rfl
  have hB : Back l R p e below s args y 3 8 (PreOf R (bc1 - bc) (bs1 - bs) (fun a U => a = (.ref (B0 + q0) :: As).toArray ∧ zSys s0 B0 U ∧ zRep d cy B0 sh sz I L U.heap)) (PostOf (zQc d cy B0 (.inl none) sh1 sz1 I1 L1) (bc1 - bc) (bs1 - bs) (fun a => B0 ≤ a)) := by
    intro m9 meth9 c9 A9 g9 ig9 mk9 a9 X9 hg9 hs9 hd9 hw9 hm9 hp9
    rcases z_back C hY hM hfr hlo m9 meth9 c9 A9 g9 ig9 mk9 a9 X9 hg9 hs9 hd9 hw9 hm9 hp9 with h | ⟨q, B, -, ⟨g', mk, t, L9, E, ce, e1, e2, hq, -⟩, -⟩
    · exact h
    · exact absurd hq.1 (by intro h; cases h)
  obtain ⟨v', vm₁, ⟨U', l2, c2, s2⟩, hW₁, X', ⟨g', mk, t, L9, e1, e2, hq, hl2, hL, hc2, hs2⟩, stp⟩ := callI X C.1 (bytes := cc1) (maxL := nL1) C.2.2.2.1 hy1 hlk2 (z_word C hin rfl) (z_word C hY.1 rfl) hY.2.2.1 hB (g := F0 m pc ls (As.reverse ++ .ref (B0 + q0) :: st)) rfl (h1.1.trans C.2.2.1.symm) (a := B0 + q0) (argsL := As) (rest := st) (fun sig h => hn.trans (hY.len sig h)) rfl (lv_room hw) (by rw [C.2.1]; exact hd)
    (fun vm₁ hW => z_pre (As := .ref (B0 + q0) :: As) C hT h2 h3 h4 h6 hz hW)
  dsimp only [Pt.U, Pt.locs, Pt.cells, Pt.slots] at X' e1 e2 hl2 hc2 hs2 stp
  subst hl2; subst hc2; subst hs2
  obtain ⟨v2, hr, ho, hrep, hlow⟩ := hq
  cases ho
  cases hr
  obtain ⟨t2, a1, b1⟩ := kk ls U'.heap (locs ++ L9) (cells + (bc1 - bc)) (slots + (bs1 - bs)) h1 (by rw [e1]; exact hrep) (by omega) (by omega) (zapp h5 hL) (fun q hq => by
    rw [e1, hlow q hq]
    show T.heap[q]? = _
    rw [hT]; exact h6 q hq) U' rfl X'
  exact ⟨t2, stp t2 a1, b1⟩
theorem z_callIN (C : zC p l e R s m args below meth c s0 a0 d cy B0 own cc nL ret bc0 bs0 bcF bsF fr lo tb) {idx : Nat} (hd : decode cc pc = .ok (.invokespecial idx, 3)) {y : MethodName} {host : String} {cc1 : ByteArray} {nL1 n1 : Nat} {fr1 lo1 : Nat} {q0 : Nat} {As : List Value} {sh1 : zS} {sz1 bc1 bs1 : Nat} {I1 : zI} {L1 : zL} (hY : zY y cc1 nL1 none n1)
    (hM : zM l s0 d cy B0 y cc1 nL1 none fr1 lo1 (.ref (B0 + q0) :: As) sh sz bc bs I L (.inl none) sh1 sz1 bc1 bs1 I1 L1) (hy1 : y.name = "<init>") (hlk : Cond.methodLinkNest own idx y host ∈ lw_tbl) (hin : Cond.instanceMethod y ∈ lw_tbl) (hfr : fr1 + 1 ≤ fr) (hlo : 8 + (nL1 + 11) + lo1 ≤ lo) (hn : As.length = n1) {stk : List Value} (hs : stk = As.reverse ++ .ref (B0 + q0) :: st) (hw : (st.map fun v => v.category).sum ≤ 8) (hz : bc ≤ bc1 ∧ bc1 ≤ bcF ∧ bs ≤ bs1 ∧ bs1 ≤ bsF)
    (kk : zG p l e R s m args below meth c d cy B0 nL bc0 bs0 Q (pc + 3) lv st sh1 sz1 bc1 bs1 I1 L1) : zG p l e R s m args below meth c d cy B0 nL bc0 bs0 Q pc lv stk sh sz bc bs I L := by
  intro ls H locs cells slots h1 h2 h3 h4 h5 h6
  subst hs
  intro T hT X
  have hlk2 : (Cond.methodLinkNest own idx y host).before args s = true := by
    obtain ⟨-, -, -, -, hE, hS, -⟩ := C
    exact va_Nw.use rfl (va_Nw.warmM hS.1 (va_Nw.of rfl (hE.1 _ hlk)))
  have hB : Back l R p e below s args y 3 8 (PreOf R (bc1 - bc) (bs1 - bs) (fun a U => a = (.ref (B0 + q0) :: As).toArray ∧ zSys s0 B0 U ∧ zRep d cy B0 sh sz I L U.heap)) (PostOf (zQc d cy B0 (.inl none) sh1 sz1 I1 L1) (bc1 - bc) (bs1 - bs) (fun a => B0 ≤ a)) := by
    intro m9 meth9 c9 A9 g9 ig9 mk9 a9 X9 hg9 hs9 hd9 hw9 hm9 hp9
    rcases z_back C hY hM hfr hlo m9 meth9 c9 A9 g9 ig9 mk9 a9 X9 hg9 hs9 hd9 hw9 hm9 hp9 with h | ⟨q, B, -, ⟨g', mk, t, L9, E, ce, e1, e2, hq, -⟩, -⟩
    · exact h
    · exact absurd hq.1 (by intro h; cases h)
  obtain ⟨v', vm₁, ⟨U', l2, c2, s2⟩, hW₁, X', ⟨g', mk, t, L9, e1, e2, hq, hl2, hL, hc2, hs2⟩, stp⟩ := va_callIN X C.1 (bytes := cc1) (maxL := nL1) C.2.2.2.1 hy1 hlk2 (z_word C hin rfl) (z_word C hY.1 rfl) hY.2.2.1 hB (g := F0 m pc ls (As.reverse ++ .ref (B0 + q0) :: st)) rfl (h1.1.trans C.2.2.1.symm) (a := B0 + q0) (argsL := As) (rest := st) (fun sig h => hn.trans (hY.len sig h)) rfl (lv_room hw) (by rw [C.2.1]; exact hd)
    (fun vm₁ hW => z_pre (As := .ref (B0 + q0) :: As) C hT h2 h3 h4 h6 hz hW)
  dsimp only [Pt.U, Pt.locs, Pt.cells, Pt.slots] at X' e1 e2 hl2 hc2 hs2 stp
  subst hl2; subst hc2; subst hs2
  obtain ⟨v2, hr, ho, hrep, hlow⟩ := hq
  cases ho
  cases hr
  obtain ⟨t2, a1, b1⟩ := kk ls U'.heap (locs ++ L9) (cells + (bc1 - bc)) (slots + (bs1 - bs)) h1 (by rw [e1]; exact hrep) (by omega) (by omega) (zapp h5 hL) (fun q hq => by
    rw [e1, hlow q hq]
    show T.heap[q]? = _
    rw [hT]; exact h6 q hq) U' rfl X'
  exact ⟨t2, stp t2 a1, b1⟩
/-- a constructor's contract -/
theorem z_methI {y : MethodName} {n : Nat} {As : List Value} {r : Option Value ⊕ String} {sh1 : zS} {sz1 bc1 bs1 : Nat} {I1 : zI} {L1 : zL} (hY : zY y cc nL ret n) (hy1 : y.name = "<init>") (hE : zE0 l s0 a0 d cy B0) (hl : (lg_sl As).length ≤ nL)
    (body : ∀ (p : Program) (e : Env) (R : Room) (s : State) (m : MethodId) (args : Array Value) (below : List Frame) (meth : Method) (c : Code), zC p l e R s m args below meth c s0 a0 d cy B0 y.cls cc nL ret bc bs bc1 bs1 fr lo [] → meth.name = "<init>" →
      zG p l e R s m args below meth c d cy B0 nL bc bs (zQ below s args d cy B0 bc bs r sh1 sz1 bc1 bs1 I1 L1) 0 (lv_args 0 As) [] sh sz bc bs I L) :
    zM l s0 d cy B0 y cc nL ret fr lo As sh sz bc bs I L r sh1 sz1 bc1 bs1 I1 L1 := by
  refine vx_ofW (cc := cc) (maxL := nL) (ret := ret) hY.2.2.2.2 rfl ?_
  intro p e s m args below meth c s₁ B hml ht hP
  obtain ⟨rfl, hS, hR⟩ := hP
  have htb : c.exceptionTable.toList = [] := List.eq_nil_iff_forall_not_mem.mpr (fun x hx => ht x hx)
  have hnm : meth.name = "<init>" := ((name_of_methodNamed B.named B.method).1).trans hy1
  have h := body p e _ s m As.toArray below meth c ⟨B.exec, B.bytes, hml, findClass_of_methodNamed B.named, hE, hS, B.notSynchronized, B.returns, rfl, htb⟩ hnm
  rw [lg_entry_eq]
  exact h _ s.heap [] 0 0 (lv_entry As hl) hR rfl rfl (fun q h => by cases h) (fun _ _ => rfl)
end Zr8
def zzI (I : zI) (sz : Nat) : Prop := ∀ p, sz ≤ p → ∀ k, I p k = 0
def zzL (L : zL) (sz : Nat) : Prop := ∀ p, sz ≤ p → ∀ k, L p k = 0
theorem zz_up {I : zI} {sz : Nat} (h : zzI I sz) : zzI I (sz + 1) := fun p hp => h p (by omega)
theorem zzl_up {L : zL} {sz : Nat} (h : zzL L sz) : zzL L (sz + 1) := fun p hp => h p (by omega)
theorem zz_upn {I : zI} {sz : Nat} (n : Nat) (h : zzI I sz) : zzI I (sz + n) := fun p hp => h p (by omega)
theorem zzl_upn {L : zL} {sz : Nat} (n : Nat) (h : zzL L sz) : zzL L (sz + n) := fun p hp => h p (by omega)
theorem zz_u {I : zI} {sz q k : Nat} {v : Int32} (h : zzI I sz) (hq : q < sz) : zzI (zu I q k v) sz := fun p hp j => by
  rw [zu_p I v (by omega)]; exact h p hp j
theorem zmem_new {sz : Nat} {M : List (Nat × Nat)} (F : List (Nat × Nat)) (hF : ∀ x ∈ F, x.1 = sz := by decide) : ∀ p k, p < sz → ((p, k) ∈ F ++ M ↔ (p, k) ∈ M) := by
  intro p k hp
  rw [List.mem_append]
  exact ⟨fun h => h.elim (fun h => absurd (hF _ h) (by simp; omega)) id, Or.inr⟩
theorem znm {sz : Nat} {M : List (Nat × Nat)} (h : ∀ x ∈ M, x.1 < sz) : ∀ k, (sz, k) ∉ M := fun k hk => absurd (h _ hk) (by simp)
