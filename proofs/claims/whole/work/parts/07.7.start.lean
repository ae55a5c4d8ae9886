section Zw7
variable {p : Program} {l : Launch} {e : Env} {R : Room} {s : State} {m : MethodId} {args : Array Value} {below : List Frame} {meth : Method} {c : Code} {s0 : State} {a0 : Array Value} {d : va_G} {cy : Nat → ClassId} {B0 : Nat} {own : String} {ret : Option FieldType} {tb : List ExceptionTableEntry} {Q : State → Prop} {bc bs : Nat} {I : zI} {L : zL}
theorem law_past {N j : Nat} (hN : N < 2 ^ 30) (hj : j < 2 ^ 30) (h : N < j + 7) : nI N - 7 < nI j := by
  rw [Int32.lt_iff_toInt_lt]
  have h1 : (nI N - (7 : Int32)).toInt = (N : Int) - (7 : Nat) := pk_sub_toInt (a := N) (b := 7) hN (by omega)
  rw [h1, nI_toInt (by omega)]
  omega
theorem law_npast {N j : Nat} (h : j + 7 ≤ N) (hN : N < 2 ^ 30) : ¬ nI N - 7 < nI j := by
  rw [Int32.lt_iff_toInt_lt]
  have h1 : (nI N - (7 : Int32)).toInt = (N : Int) - (7 : Nat) := pk_sub_toInt (a := N) (b := 7) hN (by omega)
  rw [h1, nI_toInt (by omega)]
  omega
theorem q_103 : (Cond.classLink "DeviceFindLaw" (8 : Nat) "DeviceFind") ∈ lw_tbl := List.mem_of_getElem? (i := 103) (by decide +kernel)
theorem q_104 : (Cond.instantiable "DeviceFind" (11 : Nat)) ∈ lw_tbl := List.mem_of_getElem? (i := 104) (by decide +kernel)
theorem q_105 : (Cond.methodLink "DeviceFindLaw" (69 : Nat) ({ cls := "DeviceFind", name := "<init>", desc := "(I)V" } : Jvm.MethodName)) ∈ lw_tbl := List.mem_of_getElem? (i := 105) (by decide +kernel)
theorem q_106 : (Cond.instanceMethod ({ cls := "DeviceFind", name := "<init>", desc := "(I)V" } : Jvm.MethodName)) ∈ lw_tbl := List.mem_of_getElem? (i := 106) (by decide +kernel)
theorem q_714 : (Cond.methodLink "DeviceFindLaw" (63 : Nat) ({ cls := "DeviceFindLaw", name := "cell", desc := "([II)I" } : Jvm.MethodName)) ∈ lw_tbl := List.mem_of_getElem? (i := 714) (by decide +kernel)
theorem q_715 : (Cond.static ({ cls := "DeviceFindLaw", name := "cell", desc := "([II)I" } : Jvm.MethodName)) ∈ lw_tbl := List.mem_of_getElem? (i := 715) (by decide +kernel)
theorem q_716 : (Cond.code ({ cls := "DeviceFindLaw", name := "cell", desc := "([II)I" } : Jvm.MethodName) method_2_code (2 : Nat) (Option.some Jvm.ClassFile.FieldType.int)) ∈ lw_tbl := List.mem_of_getElem? (i := 716) (by decide +kernel)
theorem q_1160 : (Cond.classLink "DeviceFindLaw" (72 : Nat) "DeviceFindModel") ∈ lw_tbl := List.mem_of_getElem? (i := 1160) (by decide +kernel)
theorem q_1161 : (Cond.instantiable "DeviceFindModel" (57 : Nat)) ∈ lw_tbl := List.mem_of_getElem? (i := 1161) (by decide +kernel)
theorem q_1162 : (Cond.methodLink "DeviceFindLaw" (74 : Nat) ({ cls := "DeviceFindModel", name := "<init>", desc := "(I)V" } : Jvm.MethodName)) ∈ lw_tbl := List.mem_of_getElem? (i := 1162) (by decide +kernel)
theorem q_1163 : (Cond.instanceMethod ({ cls := "DeviceFindModel", name := "<init>", desc := "(I)V" } : Jvm.MethodName)) ∈ lw_tbl := List.mem_of_getElem? (i := 1163) (by decide +kernel)
theorem yy_L_cell : zY yL_cell cL_cell 2 (some .int) 2 := ⟨q_716, q_74, by decide +kernel, by decide +kernel, by decide +kernel⟩
def lw_c0 (N : Nat) (xs : Nat → Int32) : Int32 := if 0 < N then xs 0 else 0
theorem c_L_cell (hE : zE0 l s0 a0 d cy B0) {b N : Nat} {xs : Nat → Int32} (hX : va_X b N xs s0 s0.heap) (hb : b < B0) (hN : N ≤ 3585) (sh : zS) (sz : Nat) (I : zI) (L : zL) : zM l s0 d cy B0 yL_cell cL_cell 2 (some .int) 0 0 [.ref b, .int 0] sh sz bc bs I L (.inl (some (.int (lw_c0 N xs)))) sh sz bc bs I L := by
  refine z_meth yy_L_cell hE (Nat.le_of_ble_eq_true rfl) (fun p e R s m args below meth c C => ?_)
  show zG p l e R s m args below meth c d cy B0 2 bc bs (zQ below s args d cy B0 bc bs (.inl (some (.int (lw_c0 N xs)))) sh sz bc bs I L) 0 [(0, .ref b), (1, .int 0)] [] sh sz bc bs I L
  refine z_iload_n C rfl 1 rfl dL_cell_0 ?_
  refine z_aload_n C rfl 0 rfl dL_cell_1 ?_
  refine z_sln C hX hb dL_cell_2 ?_
  refine z_icmp_ge C 12 (by decide) dL_cell_3 (fun hc => ?_) (fun hc => ?_)
  · have h0 : N = 0 := by
      have h1 : nI N ≤ nI 0 := hc
      have := (nI_leI (by omega) (by omega)).mp h1
      omega
    rw [show lw_c0 N xs = 0 from if_neg (by omega)]
    refine z_iconst C (v := 0) (by decide) dL_cell_12 ?_
    exact z_iret C dL_cell_13 .int rfl rfl rfl
  · have h0 : 0 < N := by
      have h1 : ¬ nI N ≤ nI 0 := hc
      rw [nI_leI (by omega) (by omega)] at h1
      omega
    rw [show lw_c0 N xs = xs 0 from if_pos h0]
    refine z_aload_n C rfl 0 rfl dL_cell_6 ?_
    refine z_iload_n C rfl 1 rfl dL_cell_7 ?_
    refine z_sld C hX hb dL_cell_8 0 rfl h0 (by omega) ?_
    refine z_goto C 13 (by decide) dL_cell_9 ?_
    exact z_iret C dL_cell_13 .int rfl rfl rfl
set_option maxHeartbeats 4000000 in
set_option maxRecDepth 100000 in
theorem law_loop (Inv : zI → zL → Prop) (C : zC p l e R s m args below meth c s0 a0 d cy B0 own code 8 ret 0 0 601024 7293000 14 520 tb) (hown : own = "DeviceFindLaw") {b N : Nat} {xs : Nat → Int32} (hX : va_X b N xs s0 s0.heap) (hb : b < B0) (hN : N ≤ 3585) (h0 : Sx_unit Inv) (h1 : Sx_units Inv) (h2 : Sx_read Inv) (h3 : Sx_polygon Inv) (h4 : Sx_corner Inv) (h5 : Sx_text Inv) (h6 : Sx_run Inv) (h7 : Sx_device Inv) (h8 : Sx_size Inv) (h9 : Sx_pin Inv) (h10 : Sx_net Inv) (h11 : Sx_named Inv) (h12 : Sx_twice Inv) (h13 : Sx_bad Inv) (h14 : Sx_joined Inv) (h15 : Sx_count Inv)
    (hend : ∀ (lv : List (Nat × Value)) (bc bs : Nat) (I : zI) (L : zL), bc ≤ 601024 → bs ≤ 7293000 → zG p l e R s m args below meth c d cy B0 8 0 0 Q 1233 lv [] zSH zKn bc bs I L) :
    ∀ (r j n : Nat) (I : zI) (L : zL), N + 7 ≤ j + r → 7 * n + 1 ≤ j → j ≤ N + 7 → Inv I L → zG p l e R s m args below meth c d cy B0 8 0 0 Q 33 [(0, .ref b), (1, .ref (B0 + 0)), (2, .ref (B0 + 97)), (3, .ref (B0 + 133)), (4, .int (nI j))] [] zSH zKn (134 + n) (361080 + 6 * n) I L := by
  intro r
  induction r with
  | zero =>
    intro j n I L hr hn hj hinv
    refine z_iload C 4 rfl dL_law_33 ?_
    refine z_aload_n C rfl 0 rfl dL_law_35 ?_
    refine z_sln C hX hb dL_law_36 ?_
    refine z_bipush C (v := 7) (by decide) dL_law_37 ?_
    refine z_isub C dL_law_39 ?_
    refine z_icmp_gt C 1233 (by decide) dL_law_40 (fun _ => ?_) (fun hc => absurd (law_past (by omega) (by omega) (by omega)) hc)
    exact hend _ _ _ _ _ (by omega) (by omega)
  | succ r ih =>
    intro j n I L hr hn hj2 hinv
    refine z_iload C 4 rfl dL_law_33 ?_
    refine z_aload_n C rfl 0 rfl dL_law_35 ?_
    refine z_sln C hX hb dL_law_36 ?_
    refine z_bipush C (v := 7) (by decide) dL_law_37 ?_
    refine z_isub C dL_law_39 ?_
    by_cases hj : j + 7 ≤ N
    · refine z_icmp_gt C 1233 (by decide) dL_law_40 (fun hc => absurd hc (law_npast hj (by omega))) (fun _ => ?_)
      refine z_aload_n C rfl 0 rfl dL_law_43 ?_
      refine z_iload C 4 rfl dL_law_44 ?_
      refine z_sld C hX hb dL_law_46 j rfl (by omega) (by omega) ?_
      refine z_bipush C (v := 15) (by decide) dL_law_47 ?_
      refine z_iand C dL_law_49 ?_
      have hbc : 134 + n + 1 ≤ 601024 := by omega
      have hbs : 361080 + 6 * n + 6 ≤ 7293000 := by omega
      have next : ∀ (I9 : zI) (L9 : zL) (n9 : Nat), n9 ≤ 1 → Inv I9 L9 → zG p l e R s m args below meth c d cy B0 8 0 0 Q 1227 [(0, .ref b), (1, .ref (B0 + 0)), (2, .ref (B0 + 97)), (3, .ref (B0 + 133)), (4, .int (nI j))] [] zSH zKn (134 + n + n9) (361080 + 6 * n + 6 * n9) I9 L9 := by
        intro I9 L9 n9 h9 hi9
        refine z_iinc C (j := 4) (v := nI (j + 7)) (lv' := [(4, .int (nI (j + 7))), (0, .ref b), (1, .ref (B0 + 0)), (2, .ref (B0 + 97)), (3, .ref (B0 + 133))]) rfl (show nI j + Int32.ofInt 7 = nI (j + 7) from by have e7 : Int32.ofInt 7 = nI 7 := (by decide); rw [e7]; exact nI_add j 7) (by decide) rfl dL_law_1227 ?_
        refine z_goto C 33 (by decide) dL_law_1230 ?_
        refine z_lv [1, 2, 3, 4, 0] (lv' := [(0, .ref b), (1, .ref (B0 + 0)), (2, .ref (B0 + 97)), (3, .ref (B0 + 133)), (4, .int (nI (j + 7)))]) rfl ?_
        have h := ih (j + 7) (n + n9) I9 L9 (by omega) (by omega) (by omega) hi9
        rw [show 134 + n + n9 = 134 + (n + n9) from by omega, show 361080 + 6 * n + 6 * n9 = 361080 + 6 * (n + n9) from by omega]
        exact h
      obtain ⟨t, ht, em⟩ := pk_andE (xs j) (m := 15) 4 rfl
      match t, ht with
      | 0, _ => exact z_tableIn C 128 (by rw [em]; decide) (by rw [em]; decide) (by rw [em]; rfl) (by decide) dL_law_50 (law_c0 Inv C hown hX hb hN hj hbc hbs h0 hinv next)
      | 1, _ => exact z_tableIn C 153 (by rw [em]; decide) (by rw [em]; decide) (by rw [em]; rfl) (by decide) dL_law_50 (law_c1 Inv C hown hX hb hN hj hbc hbs h1 hinv next)
      | 2, _ => exact z_tableIn C 178 (by rw [em]; decide) (by rw [em]; decide) (by rw [em]; rfl) (by decide) dL_law_50 (law_c2 Inv C hown hX hb hN hj hbc hbs h2 hinv next)
      | 3, _ => exact z_tableIn C 191 (by rw [em]; decide) (by rw [em]; decide) (by rw [em]; rfl) (by decide) dL_law_50 (law_c3 Inv C hown hX hb hN hj hbc hbs h3 hinv next)
      | 4, _ => exact z_tableIn C 247 (by rw [em]; decide) (by rw [em]; decide) (by rw [em]; rfl) (by decide) dL_law_50 (law_c4 Inv C hown hX hb hN hj hbc hbs h4 hinv next)
      | 5, _ => exact z_tableIn C 398 (by rw [em]; decide) (by rw [em]; decide) (by rw [em]; rfl) (by decide) dL_law_50 (law_c5 Inv C hown hX hb hN hj hbc hbs h5 hinv next)
      | 6, _ => exact z_tableIn C 556 (by rw [em]; decide) (by rw [em]; decide) (by rw [em]; rfl) (by decide) dL_law_50 (law_c6 Inv C hown hX hb hN hj hbc hbs h6 hinv next)
      | 7, _ => exact z_tableIn C 600 (by rw [em]; decide) (by rw [em]; decide) (by rw [em]; rfl) (by decide) dL_law_50 (law_c7 Inv C hown hX hb hN hj hbc hbs h7 hinv next)
      | 8, _ => exact z_tableIn C 668 (by rw [em]; decide) (by rw [em]; decide) (by rw [em]; rfl) (by decide) dL_law_50 (law_c8 Inv C hown hX hb hN hj hbc hbs h8 hinv next)
      | 9, _ => exact z_tableIn C 735 (by rw [em]; decide) (by rw [em]; decide) (by rw [em]; rfl) (by decide) dL_law_50 (law_c9 Inv C hown hX hb hN hj hbc hbs h9 hinv next)
      | 10, _ => exact z_tableIn C 803 (by rw [em]; decide) (by rw [em]; decide) (by rw [em]; rfl) (by decide) dL_law_50 (law_c10 Inv C hown hX hb hN hj hbc hbs h10 hinv next)
      | 11, _ => exact z_tableIn C 947 (by rw [em]; decide) (by rw [em]; decide) (by rw [em]; rfl) (by decide) dL_law_50 (law_c11 Inv C hown hX hb hN hj hbc hbs h11 hinv next)
      | 12, _ => exact z_tableIn C 1003 (by rw [em]; decide) (by rw [em]; decide) (by rw [em]; rfl) (by decide) dL_law_50 (law_c12 Inv C hown hX hb hN hj hbc hbs h12 hinv next)
      | 13, _ => exact z_tableIn C 1059 (by rw [em]; decide) (by rw [em]; decide) (by rw [em]; rfl) (by decide) dL_law_50 (law_c13 Inv C hown hX hb hN hj hbc hbs h13 hinv next)
      | 14, _ => exact z_tableIn C 1115 (by rw [em]; decide) (by rw [em]; decide) (by rw [em]; rfl) (by decide) dL_law_50 (law_c14 Inv C hown hX hb hN hj hbc hbs h14 hinv next)
      | 15, _ => exact z_tableIn C 1171 (by rw [em]; decide) (by rw [em]; decide) (by rw [em]; rfl) (by decide) dL_law_50 (law_c15 Inv C hown hX hb hN hj hbc hbs h15 hinv next)
      | t + 16, h16 => exact absurd h16 (by omega)
    · refine z_icmp_gt C 1233 (by decide) dL_law_40 (fun _ => ?_) (fun hc => absurd (law_past (by omega) (by omega) (by omega)) hc)
      exact hend _ _ _ _ _ (by omega) (by omega)
def lw_I1 (x : Int32) (I : zI) : zI := (zu (zu (zu (zu (zu (zu (zu (zu (zu (zu (zu (zu (zu (zu (zu (zu (zu (zu (zu (zu (zu (zu (zu (zu (zu (zu (zu I 0 0 (zmx (1 : Int32) (zmn (65536 : Int32) x))) 1 1 (0 : Int32)) 3 1 (((zu (zu I 0 0 (zmx (1 : Int32) (zmn (65536 : Int32) x))) 1 1 (0 : Int32)) 0 0))) 4 2 (0 : Int32)) 4 3 (0 : Int32)) 7 12 (0 : Int32)) 7 13 (0 : Int32)) 7 14 (0 : Int32)) 7 15 (0 : Int32)) 3 3 ((nI (7 + 1)))) 3 4 (0 : Int32)) 20 5 (0 : Int32)) 26 0 (0 : Int32)) 57 2 (0 : Int32)) 57 3 (0 : Int32)) 57 4 (-1 : Int32)) 61 1 (0 : Int32)) 61 6 (0 : Int32)) 74 5 (0 : Int32)) 73 7 (0 : Int32)) 84 12 (0 : Int32)) 84 13 (0 : Int32)) 84 14 (0 : Int32)) 84 15 (0 : Int32)) 0 8 ((nI (84 + 1)))) 0 9 (0 : Int32)) 0 10 (0 : Int32))
theorem lw_I1_z {x : Int32} {I : zI} (h : zzI I 97) : zzI (lw_I1 x I) 97 := by
  unfold lw_I1
  intro p hp k
  repeat rw [zu_p _ _ (by omega)]
  exact h p hp k
set_option maxHeartbeats 4000000 in
set_option maxRecDepth 100000 in
theorem law_start (C : zC p l e R s m args below meth c s0 a0 d cy B0 own code 8 ret 0 0 601024 7293000 14 520 tb) (hown : own = "DeviceFindLaw") {b N : Nat} {xs : Nat → Int32} (hX : va_X b N xs s0 s0.heap) (hb : b < B0) (hN : N ≤ 3585) (hZ : zzI I 0) (hZL : zzL L 0)
    (kk : zG p l e R s m args below meth c d cy B0 8 0 0 Q 33 [(0, .ref b), (1, .ref (B0 + 0)), (2, .ref (B0 + 97)), (3, .ref (B0 + 133)), (4, .int (nI 1))] [] zSH zKn 134 361080 (zu (lw_I1 (lw_c0 N xs) I) 97 1 (zclp (lw_c0 N xs))) L) : zG p l e R s m args below meth c d cy B0 8 0 0 Q 0 [(0, .ref b)] [] (zpt 0 []) 0 0 0 I L := by
  subst hown
  have hZ0 : zzI I 0 := hZ
  have hZL0 : zzL L 0 := hZL
  refine z_new C zc_11 dL_law_0 q_103 q_104 q_75 [(0, 1), (0, 2), (0, 3), (0, 4), (0, 5), (0, 6), (0, 7)] rfl (zmem_new [(0, 1), (0, 2), (0, 3), (0, 4), (0, 5), (0, 6), (0, 7)]) (by decide) zdf_11 zd4_11 (hZ0 _ (Nat.le_refl _)) (hZL0 _ (Nat.le_refl _)) (by decide) ?_
  have hZ1 := zz_up hZ0
  have hZL1 := zzl_up hZL0
  refine z_dup C rfl dL_law_3 ?_
  refine z_aload_n C rfl 0 rfl dL_law_4 ?_
  refine z_iconst C (v := 0) (by decide) dL_law_5 ?_
  refine z_callS C dL_law_6 yy_L_cell (c_L_cell C.2.2.2.2.1 hX hb hN (zpt 1 [(0, 1), (0, 2), (0, 3), (0, 4), (0, 5), (0, 6), (0, 7)]) 1 I L) q_714 q_715 (by decide) (by decide) rfl rfl (Nat.le_of_ble_eq_true rfl) ⟨Nat.le_refl _, by decide, Nat.le_refl _, by decide⟩ ?_
  refine z_callI C dL_law_9 yy_X11_init (c_X11_init_p0 C.2.2.2.2.1 (lw_c0 N xs) I L hZ1 hZL1) rfl q_105 q_106 (by decide) (by decide) rfl rfl (Nat.le_of_ble_eq_true rfl) ⟨by decide, by decide, by decide, by decide⟩ ?_
  refine z_astore_n C (lv' := [(1, .ref (B0 + 0)), (0, .ref b)]) rfl (by decide) rfl dL_law_12 ?_
  have hZ97 : zzI (lw_I1 (lw_c0 N xs) I) 97 := lw_I1_z (zz_upn 97 hZ0)
  have hZL97 : zzL L 97 := zzl_upn 97 hZL0
  show zG p l e R s m args below meth c d cy B0 8 0 0 Q 13 [(1, .ref (B0 + 0)), (0, .ref b)] [] (zpt 97 []) 97 97 79882 (lw_I1 (lw_c0 N xs) I) L
  refine z_new C zc_12 dL_law_13 q_1160 q_1161 q_88 [(97, 3), (97, 4), (97, 5), (97, 6), (97, 8), (97, 9), (97, 10), (97, 16), (97, 17), (97, 18), (97, 19), (97, 20), (97, 21), (97, 22), (97, 23), (97, 24), (97, 25), (97, 26), (97, 27), (97, 28), (97, 31), (97, 32), (97, 33), (97, 34), (97, 36), (97, 37), (97, 40), (97, 41), (97, 42), (97, 43), (97, 44), (97, 45), (97, 54), (97, 55), (97, 56)] rfl (zmem_new [(97, 3), (97, 4), (97, 5), (97, 6), (97, 8), (97, 9), (97, 10), (97, 16), (97, 17), (97, 18), (97, 19), (97, 20), (97, 21), (97, 22), (97, 23), (97, 24), (97, 25), (97, 26), (97, 27), (97, 28), (97, 31), (97, 32), (97, 33), (97, 34), (97, 36), (97, 37), (97, 40), (97, 41), (97, 42), (97, 43), (97, 44), (97, 45), (97, 54), (97, 55), (97, 56)]) (by decide) zdf_12 zd4_12 (hZ97 _ (Nat.le_refl _)) (hZL97 _ (Nat.le_refl _)) (by decide) ?_
  have hZ98 := zz_up hZ97
  have hZL98 := zzl_up hZL97
  refine z_dup C rfl dL_law_16 ?_
  refine z_aload_n C rfl 1 rfl dL_law_17 ?_
  refine z_iconst C (v := 0) (by decide) dL_law_18 ?_
  refine z_callS C dL_law_19 yy_L_cell (c_L_cell C.2.2.2.2.1 hX hb hN (zpt 98 [(97, 3), (97, 4), (97, 5), (97, 6), (97, 8), (97, 9), (97, 10), (97, 16), (97, 17), (97, 18), (97, 19), (97, 20), (97, 21), (97, 22), (97, 23), (97, 24), (97, 25), (97, 26), (97, 27), (97, 28), (97, 31), (97, 32), (97, 33), (97, 34), (97, 36), (97, 37), (97, 40), (97, 41), (97, 42), (97, 43), (97, 44), (97, 45), (97, 54), (97, 55), (97, 56)]) 98 (lw_I1 (lw_c0 N xs) I) L) q_714 q_715 (by decide) (by decide) rfl rfl (Nat.le_of_ble_eq_true rfl) ⟨Nat.le_refl _, by decide, Nat.le_refl _, by decide⟩ ?_
  refine z_callI C dL_law_22 yy_X12_init (c_X12_init_p97 C.2.2.2.2.1 (lw_c0 N xs) (lw_I1 (lw_c0 N xs) I) L hZ98 hZL98) rfl q_1162 q_1163 (by decide) (by decide) rfl rfl (Nat.le_of_ble_eq_true rfl) ⟨by decide, by decide, by decide, by decide⟩ ?_
  refine z_astore_n C (lv' := [(2, .ref (B0 + 97)), (1, .ref (B0 + 0)), (0, .ref b)]) rfl (by decide) rfl dL_law_25 ?_
  have hZ133 : zzI (zu (lw_I1 (lw_c0 N xs) I) 97 1 (zclp (lw_c0 N xs))) 133 := zz_u (zz_upn 36 hZ97) (by decide)
  have hZL133 : zzL L 133 := zzl_upn 133 hZL0
  refine z_iconst C (v := 1) (by decide) dL_law_26 ?_
  refine z_newarr C (t := 2) (by decide) rfl rfl rfl dL_law_27 q_163 (by decide) (by decide) (by decide) rfl rfl rfl (hZ133 _ (Nat.le_refl _)) (hZL133 _ (Nat.le_refl _)) (znm (by decide)) (by decide) (fun _ _ h => h) ?_
  refine z_astore_n C (lv' := [(3, .ref (B0 + 133)), (2, .ref (B0 + 97)), (1, .ref (B0 + 0)), (0, .ref b)]) rfl (by decide) rfl dL_law_29 ?_
  refine z_iconst C (v := 1) (by decide) dL_law_30 ?_
  refine z_istore C (lv' := [(4, .int 1), (3, .ref (B0 + 133)), (2, .ref (B0 + 97)), (1, .ref (B0 + 0)), (0, .ref b)]) (by decide) rfl dL_law_31 ?_
  refine z_lv [4, 3, 2, 1, 0] (lv' := [(0, .ref b), (1, .ref (B0 + 0)), (2, .ref (B0 + 97)), (3, .ref (B0 + 133)), (4, .int (nI 1))]) rfl ?_
  exact z_full kk
end Zw7
