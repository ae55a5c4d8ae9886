section Zp05_07_walk
variable {p : Program} {l : Launch} {e : Env} {R : Room} {s : State} {m : MethodId} {args : Array Value} {below : List Frame} {meth : Method} {c : Code} {s0 : State} {a0 : Array Value} {d : va_G} {cy : Nat → ClassId} {B0 : Nat} {bc bs : Nat}
theorem q_541 : (Cond.code ({ cls := "DeviceFind$Words", name := "withLetter", desc := "(JC)J" } : Jvm.MethodName) prog_12_method_6_code (3 : Nat) (Option.some Jvm.ClassFile.FieldType.long)) ∈ lw_tbl := List.mem_of_getElem? (i := 541) (by decide +kernel)
theorem yy_X10_withLetter : zY yX10_withLetter cX10_withLetter 3 (some .long) 2 := ⟨q_541, q_79, by decide +kernel, by decide +kernel, by decide +kernel⟩
noncomputable def f_X10_withLetter (a0 : Int64) (a1 : Int32) : Option Int64 :=
  zlt (a0 <<< ((5 : Int32).toInt64 &&& 63)) (fun x1 => zlt ((a1 - (97 : Int32)) + (1 : Int32)) (fun x2 => zlt (x1 + x2.toInt64) (fun x3 => some x3)))
set_option maxHeartbeats 4000000 in
set_option maxRecDepth 100000 in
theorem c_X10_withLetter {r : Int64} (hE : zE0 l s0 a0 d cy B0) (a0 : Int64) (a1 : Int32) (I : zI) (L : zL) (h : f_X10_withLetter a0 a1 = some r) : zM l s0 d cy B0 yX10_withLetter cX10_withLetter 3 (some .long) 0 0 [.long a0, .int a1] zSH zKn bc bs I L (.inl (some (.long r))) zSH zKn bc bs I L := by
  refine z_meth yy_X10_withLetter hE (Nat.le_of_ble_eq_true rfl) (fun p e R s m args below meth c C => ?_)
  show zG p l e R s m args below meth c d cy B0 3 bc bs (zQ below s args d cy B0 bc bs (.inl (some (.long r))) zSH zKn bc bs I L) 0 [(0, .long a0), (2, .int a1)] [] zSH zKn bc bs I L
  unfold f_X10_withLetter at h
  refine z_lload_n C rfl 0 rfl dX10_withLetter_0 ?_
  refine z_iconst C (v := 5) (by decide) dX10_withLetter_1 ?_
  refine z_lshl C dX10_withLetter_2 ?_
  obtain ⟨x1, ex1, h⟩ := zlt_e h
  refine z_eql C ex1 ?_
  refine z_iload_n C rfl 1 rfl dX10_withLetter_3 ?_
  refine z_bipush C (v := 97) (by decide) dX10_withLetter_4 ?_
  refine z_isub C dX10_withLetter_6 ?_
  refine z_iconst C (v := 1) (by decide) dX10_withLetter_7 ?_
  refine z_iadd C dX10_withLetter_8 ?_
  obtain ⟨x2, ex2, h⟩ := zlt_e h
  refine z_eqi C ex2 ?_
  refine z_i2l C dX10_withLetter_9 ?_
  refine z_ladd C dX10_withLetter_10 ?_
  obtain ⟨x3, ex3, h⟩ := zlt_e h
  refine z_eql C ex3 ?_
  obtain rfl := Option.some.inj h
  exact z_lret C dX10_withLetter_11 rfl rfl
theorem q_147 : (Cond.fieldLink "DeviceFind$Words" (9 : Nat) "DeviceFind$Words" "sorts" "[I") ∈ lw_tbl := List.mem_of_getElem? (i := 147) (by decide +kernel)
theorem q_149 : (Cond.fieldLink "DeviceFind$Words" (15 : Nat) "DeviceFind$Words" "values" "[J") ∈ lw_tbl := List.mem_of_getElem? (i := 149) (by decide +kernel)
theorem q_151 : (Cond.fieldLink "DeviceFind$Words" (19 : Nat) "DeviceFind$Words" "total" "I") ∈ lw_tbl := List.mem_of_getElem? (i := 151) (by decide +kernel)
theorem q_152 : (Cond.fieldLink "DeviceFind$Words" (23 : Nat) "DeviceFind$Words" "length" "I") ∈ lw_tbl := List.mem_of_getElem? (i := 152) (by decide +kernel)
theorem q_538 : (Cond.code ({ cls := "DeviceFind$Words", name := "addCharacter", desc := "(IC)V" } : Jvm.MethodName) prog_12_method_3_code (4 : Nat) (Option.none : Option Jvm.ClassFile.FieldType)) ∈ lw_tbl := List.mem_of_getElem? (i := 538) (by decide +kernel)
theorem q_539 : (Cond.methodLink "DeviceFind$Words" (41 : Nat) ({ cls := "DeviceFind$Words", name := "withLetter", desc := "(JC)J" } : Jvm.MethodName)) ∈ lw_tbl := List.mem_of_getElem? (i := 539) (by decide +kernel)
theorem q_540 : (Cond.static ({ cls := "DeviceFind$Words", name := "withLetter", desc := "(JC)J" } : Jvm.MethodName)) ∈ lw_tbl := List.mem_of_getElem? (i := 540) (by decide +kernel)
theorem q_542 : (Cond.constantLong "DeviceFind$Words" (45 : Nat) (10 : Int64)) ∈ lw_tbl := List.mem_of_getElem? (i := 542) (by decide +kernel)
theorem yy_X10_addCharacter : zY yX10_addCharacter cX10_addCharacter 4 none 2 := ⟨q_538, q_79, by decide +kernel, by decide +kernel, by decide +kernel⟩
noncomputable def f_X10_addCharacter_145 (I : zI) (L : zL) : Option (zI × zL) :=
  some (I, L)
noncomputable def f_X10_addCharacter_138 (v3 : Int32) (I : zI) (L : zL) : Option (zI × zL) :=
  zck (zbd v3 801) (zlt (zu I 5 v3.toNatClampNeg (5 : Int32)) (fun I21 => f_X10_addCharacter_145 I21 L))
noncomputable def f_X10_addCharacter_124 (v1 : Int32) (v3 : Int32) (I : zI) (L : zL) : Option (zI × zL) :=
  if v1 = (2 : Int32) then (if (I 4 3) ≤ (6 : Int32) then (f_X10_addCharacter_145 I L) else (f_X10_addCharacter_138 v3 I L)) else (f_X10_addCharacter_145 I L)
noncomputable def f_X10_addCharacter_110 (v1 : Int32) (v3 : Int32) (I : zI) (L : zL) : Option (zI × zL) :=
  if v1 = (1 : Int32) then (if (8 : Int32) < (I 4 3) then (f_X10_addCharacter_138 v3 I L) else (f_X10_addCharacter_124 v1 v3 I L)) else (f_X10_addCharacter_124 v1 v3 I L)
noncomputable def f_X10_addCharacter_109 (v1 : Int32) (v3 : Int32) (w1 : Int32) (w2 : Int64) (I : zI) (L : zL) : Option (zI × zL) :=
  zck (zbd w1 801) (zlt (zul L 6 w1.toNatClampNeg w2) (fun L19 => f_X10_addCharacter_110 v1 v3 I L19))
noncomputable def f_X10_addCharacter_37 (v1 : Int32) (v2 : Int32) (I : zI) (L : zL) : Option (zI × zL) :=
  zlt ((I 4 2) - (1 : Int32)) (fun x7 => zlt ((I 4 3) + (1 : Int32)) (fun x8 => zlt (zu I 4 3 x8) (fun I9 => if v1 = (1 : Int32) then (zck (zbd x7 801) (zb1 (f_X10_withLetter (L 6 x7.toNatClampNeg) v2) (fun x15 => zck (zbd x7 801) (zlt (zul L 6 x7.toNatClampNeg x15) (fun L17 => f_X10_addCharacter_110 v1 x7 I9 L17))))) else (if v1 = (2 : Int32) then (zck (zbd x7 801) (zlt ((L 6 x7.toNatClampNeg) * (10 : Int64)) (fun x11 => zlt ((v2 - (48 : Int32)).toInt64) (fun x12 => f_X10_addCharacter_109 v1 x7 x7 (x11 + x12) I9 L)))) else (f_X10_addCharacter_109 v1 x7 x7 v2.toInt64 I9 L)))))
noncomputable def f_X10_addCharacter (a1 : Int32) (a2 : Int32) (I : zI) (L : zL) : Option (zI × zL) :=
  if (I 4 3) = 0 then (zck (zbd (I 4 2) 801) (zlt (zu I 5 (I 4 2).toNatClampNeg a1) (fun I2 => zck (zbd (I2 4 2) 801) (zlt (zul L 6 (I2 4 2).toNatClampNeg (0 : Int64)) (fun L4 => zlt ((I2 4 2) + (1 : Int32)) (fun x5 => zlt (zu I2 4 2 x5) (fun I6 => f_X10_addCharacter_37 a1 a2 I6 L4))))))) else (f_X10_addCharacter_37 a1 a2 I L)
set_option maxHeartbeats 4000000 in
set_option maxRecDepth 100000 in
theorem l_X10_addCharacter_145 {r : zI × zL} (C : zC p l e R s m args below meth c s0 a0 d cy B0 yX10_addCharacter.cls cX10_addCharacter 4 none bc bs bc bs 1 22 []) (I : zI) (L : zL) (h : f_X10_addCharacter_145 I L = some r) : zG p l e R s m args below meth c d cy B0 4 bc bs (zQ below s args d cy B0 bc bs (.inl none) zSH zKn bc bs r.1 r.2) 145 [] [] zSH zKn bc bs I L := by
  unfold f_X10_addCharacter_145 at h
  obtain rfl := Option.some.inj h
  exact z_vret C dX10_addCharacter_145 rfl rfl
set_option maxHeartbeats 4000000 in
set_option maxRecDepth 100000 in
theorem l_X10_addCharacter_138 {r : zI × zL} (C : zC p l e R s m args below meth c s0 a0 d cy B0 yX10_addCharacter.cls cX10_addCharacter 4 none bc bs bc bs 1 22 []) (v3 : Int32) (I : zI) (L : zL) (h : f_X10_addCharacter_138 v3 I L = some r) : zG p l e R s m args below meth c d cy B0 4 bc bs (zQ below s args d cy B0 bc bs (.inl none) zSH zKn bc bs r.1 r.2) 138 [(0, .ref (B0 + 4)), (3, .int v3)] [] zSH zKn bc bs I L := by
  unfold f_X10_addCharacter_138 at h
  refine z_aload_n C rfl 0 rfl dX10_addCharacter_138 ?_
  refine z_getr C zc_10 dX10_addCharacter_139 0 4 5 rfl (by decide) (by decide) q_147 rfl rfl ?_
  refine z_iload_n C rfl 1 rfl dX10_addCharacter_142 ?_
  refine z_iconst C (v := 5) (by decide) dX10_addCharacter_143 ?_
  obtain ⟨hb20, h⟩ := zck_e h
  refine z_iastore C dX10_addCharacter_144 rfl rfl (by decide) (zbd_in hb20) ?_
  obtain ⟨I21, eI21, h⟩ := zlt_e h
  refine z_eqI C eI21 ?_
  refine z_lv [] (lv' := []) rfl ?_
  exact l_X10_addCharacter_145 C  I21 L h
set_option maxHeartbeats 4000000 in
set_option maxRecDepth 100000 in
theorem l_X10_addCharacter_124 {r : zI × zL} (C : zC p l e R s m args below meth c s0 a0 d cy B0 yX10_addCharacter.cls cX10_addCharacter 4 none bc bs bc bs 1 22 []) (v1 : Int32) (v3 : Int32) (I : zI) (L : zL) (h : f_X10_addCharacter_124 v1 v3 I L = some r) : zG p l e R s m args below meth c d cy B0 4 bc bs (zQ below s args d cy B0 bc bs (.inl none) zSH zKn bc bs r.1 r.2) 124 [(0, .ref (B0 + 4)), (1, .int v1), (3, .int v3)] [] zSH zKn bc bs I L := by
  unfold f_X10_addCharacter_124 at h
  refine z_iload_n C rfl 1 rfl dX10_addCharacter_124 ?_
  refine z_iconst C (v := 2) (by decide) dX10_addCharacter_125 ?_
  refine z_icmp_ne C 145 (by decide) dX10_addCharacter_126 (fun hc => ?_) (fun hc => ?_)
  · have h := zif_f hc h
    refine z_lv [] (lv' := []) rfl ?_
    exact l_X10_addCharacter_145 C  I L h
  · have h := zif_t hc h
    refine z_aload_n C rfl 0 rfl dX10_addCharacter_129 ?_
    refine z_geti C zc_10 dX10_addCharacter_130 3 4 rfl (by decide) (by decide) q_152 rfl ?_
    refine z_bipush C (v := 6) (by decide) dX10_addCharacter_133 ?_
    refine z_icmp_le C 145 (by decide) dX10_addCharacter_135 (fun hc => ?_) (fun hc => ?_)
    · have h := zif_t hc h
      refine z_lv [] (lv' := []) rfl ?_
      exact l_X10_addCharacter_145 C  I L h
    · have h := zif_f hc h
      refine z_lv [0, 2] (lv' := [(0, .ref (B0 + 4)), (3, .int v3)]) rfl ?_
      exact l_X10_addCharacter_138 C  v3 I L h
set_option maxHeartbeats 4000000 in
set_option maxRecDepth 100000 in
theorem l_X10_addCharacter_110 {r : zI × zL} (C : zC p l e R s m args below meth c s0 a0 d cy B0 yX10_addCharacter.cls cX10_addCharacter 4 none bc bs bc bs 1 22 []) (v1 : Int32) (v3 : Int32) (I : zI) (L : zL) (h : f_X10_addCharacter_110 v1 v3 I L = some r) : zG p l e R s m args below meth c d cy B0 4 bc bs (zQ below s args d cy B0 bc bs (.inl none) zSH zKn bc bs r.1 r.2) 110 [(0, .ref (B0 + 4)), (1, .int v1), (3, .int v3)] [] zSH zKn bc bs I L := by
  unfold f_X10_addCharacter_110 at h
  refine z_iload_n C rfl 1 rfl dX10_addCharacter_110 ?_
  refine z_iconst C (v := 1) (by decide) dX10_addCharacter_111 ?_
  refine z_icmp_ne C 124 (by decide) dX10_addCharacter_112 (fun hc => ?_) (fun hc => ?_)
  · have h := zif_f hc h
    exact l_X10_addCharacter_124 C  v1 v3 I L h
  · have h := zif_t hc h
    refine z_aload_n C rfl 0 rfl dX10_addCharacter_115 ?_
    refine z_geti C zc_10 dX10_addCharacter_116 3 4 rfl (by decide) (by decide) q_152 rfl ?_
    refine z_bipush C (v := 8) (by decide) dX10_addCharacter_119 ?_
    refine z_icmp_gt C 138 (by decide) dX10_addCharacter_121 (fun hc => ?_) (fun hc => ?_)
    · have h := zif_t hc h
      refine z_lv [0, 2] (lv' := [(0, .ref (B0 + 4)), (3, .int v3)]) rfl ?_
      exact l_X10_addCharacter_138 C  v3 I L h
    · have h := zif_f hc h
      exact l_X10_addCharacter_124 C  v1 v3 I L h
set_option maxHeartbeats 4000000 in
set_option maxRecDepth 100000 in
theorem l_X10_addCharacter_109 {r : zI × zL} (C : zC p l e R s m args below meth c s0 a0 d cy B0 yX10_addCharacter.cls cX10_addCharacter 4 none bc bs bc bs 1 22 []) (v1 : Int32) (v3 : Int32) (w1 : Int32) (w2 : Int64) (I : zI) (L : zL) (h : f_X10_addCharacter_109 v1 v3 w1 w2 I L = some r) : zG p l e R s m args below meth c d cy B0 4 bc bs (zQ below s args d cy B0 bc bs (.inl none) zSH zKn bc bs r.1 r.2) 109 [(0, .ref (B0 + 4)), (1, .int v1), (3, .int v3)] [.long w2, .int w1, .ref (B0 + 6)] zSH zKn bc bs I L := by
  unfold f_X10_addCharacter_109 at h
  obtain ⟨hb18, h⟩ := zck_e h
  refine z_lastore C dX10_addCharacter_109 rfl rfl (by decide) (zbd_in hb18) ?_
  obtain ⟨L19, eL19, h⟩ := zlt_e h
  refine z_eqL C eL19 ?_
  exact l_X10_addCharacter_110 C  v1 v3 I L19 h
set_option maxHeartbeats 4000000 in
set_option maxRecDepth 100000 in
theorem l_X10_addCharacter_37 {r : zI × zL} (C : zC p l e R s m args below meth c s0 a0 d cy B0 yX10_addCharacter.cls cX10_addCharacter 4 none bc bs bc bs 1 22 []) (v1 : Int32) (v2 : Int32) (I : zI) (L : zL) (h : f_X10_addCharacter_37 v1 v2 I L = some r) : zG p l e R s m args below meth c d cy B0 4 bc bs (zQ below s args d cy B0 bc bs (.inl none) zSH zKn bc bs r.1 r.2) 37 [(0, .ref (B0 + 4)), (1, .int v1), (2, .int v2)] [] zSH zKn bc bs I L := by
  unfold f_X10_addCharacter_37 at h
  refine z_aload_n C rfl 0 rfl dX10_addCharacter_37 ?_
  refine z_geti C zc_10 dX10_addCharacter_38 2 4 rfl (by decide) (by decide) q_151 rfl ?_
  refine z_iconst C (v := 1) (by decide) dX10_addCharacter_41 ?_
  refine z_isub C dX10_addCharacter_42 ?_
  obtain ⟨x7, ex7, h⟩ := zlt_e h
  refine z_eqi C ex7 ?_
  refine z_istore_n C (lv' := [(3, .int x7), (0, .ref (B0 + 4)), (1, .int v1), (2, .int v2)]) rfl (by decide) rfl dX10_addCharacter_43 ?_
  refine z_aload_n C rfl 1 rfl dX10_addCharacter_44 ?_
  refine z_dup C rfl dX10_addCharacter_45 ?_
  refine z_geti C zc_10 dX10_addCharacter_46 3 4 rfl (by decide) (by decide) q_152 rfl ?_
  refine z_iconst C (v := 1) (by decide) dX10_addCharacter_49 ?_
  refine z_iadd C dX10_addCharacter_50 ?_
  obtain ⟨x8, ex8, h⟩ := zlt_e h
  refine z_eqi C ex8 ?_
  refine z_puti C zc_10 dX10_addCharacter_51 3 4 rfl (by decide) (by decide) rfl q_152 rfl rfl rfl ?_
  obtain ⟨I9, eI9, h⟩ := zlt_e h
  refine z_eqI C eI9 ?_
  refine z_iload_n C rfl 2 rfl dX10_addCharacter_54 ?_
  refine z_iconst C (v := 1) (by decide) dX10_addCharacter_55 ?_
  refine z_icmp_ne C 78 (by decide) dX10_addCharacter_56 (fun hc => ?_) (fun hc => ?_)
  · have h := zif_f hc h
    refine z_aload_n C rfl 1 rfl dX10_addCharacter_78 ?_
    refine z_getr C zc_10 dX10_addCharacter_79 1 4 6 rfl (by decide) (by decide) q_149 rfl rfl ?_
    refine z_iload_n C rfl 0 rfl dX10_addCharacter_82 ?_
    refine z_iload_n C rfl 2 rfl dX10_addCharacter_83 ?_
    refine z_iconst C (v := 2) (by decide) dX10_addCharacter_84 ?_
    refine z_icmp_ne C 107 (by decide) dX10_addCharacter_85 (fun hc => ?_) (fun hc => ?_)
    · have h := zif_f hc h
      refine z_iload_n C rfl 3 rfl dX10_addCharacter_107 ?_
      refine z_i2l C dX10_addCharacter_108 ?_
      refine z_lv [1, 2, 0] (lv' := [(0, .ref (B0 + 4)), (1, .int v1), (3, .int x7)]) rfl ?_
      exact l_X10_addCharacter_109 C  v1 x7 x7 v2.toInt64 I9 L h
    · have h := zif_t hc h
      refine z_aload_n C rfl 1 rfl dX10_addCharacter_88 ?_
      refine z_getr C zc_10 dX10_addCharacter_89 1 4 6 rfl (by decide) (by decide) q_149 rfl rfl ?_
      refine z_iload_n C rfl 0 rfl dX10_addCharacter_92 ?_
      obtain ⟨hb10, h⟩ := zck_e h
      refine z_laload C dX10_addCharacter_93 rfl rfl (by decide) (zbd_in hb10) ?_
      refine z_ldc2 C dX10_addCharacter_94 q_542 ?_
      refine z_lmul C dX10_addCharacter_97 ?_
      obtain ⟨x11, ex11, h⟩ := zlt_e h
      refine z_eql C ex11 ?_
      refine z_iload_n C rfl 3 rfl dX10_addCharacter_98 ?_
      refine z_bipush C (v := 48) (by decide) dX10_addCharacter_99 ?_
      refine z_isub C dX10_addCharacter_101 ?_
      refine z_i2l C dX10_addCharacter_102 ?_
      obtain ⟨x12, ex12, h⟩ := zlt_e h
      refine z_eql C ex12 ?_
      refine z_ladd C dX10_addCharacter_103 ?_
      refine z_goto C 109 (by decide) dX10_addCharacter_104 ?_
      refine z_lv [1, 2, 0] (lv' := [(0, .ref (B0 + 4)), (1, .int v1), (3, .int x7)]) rfl ?_
      exact l_X10_addCharacter_109 C  v1 x7 x7 (x11 + x12) I9 L h
  · have h := zif_t hc h
    refine z_aload_n C rfl 1 rfl dX10_addCharacter_59 ?_
    refine z_getr C zc_10 dX10_addCharacter_60 1 4 6 rfl (by decide) (by decide) q_149 rfl rfl ?_
    refine z_iload_n C rfl 0 rfl dX10_addCharacter_63 ?_
    refine z_aload_n C rfl 1 rfl dX10_addCharacter_64 ?_
    refine z_getr C zc_10 dX10_addCharacter_65 1 4 6 rfl (by decide) (by decide) q_149 rfl rfl ?_
    refine z_iload_n C rfl 0 rfl dX10_addCharacter_68 ?_
    obtain ⟨hb13, h⟩ := zck_e h
    refine z_laload C dX10_addCharacter_69 rfl rfl (by decide) (zbd_in hb13) ?_
    refine z_iload_n C rfl 3 rfl dX10_addCharacter_70 ?_
    obtain ⟨x15, hg14, h⟩ := zb1_e h
    refine z_callS C dX10_addCharacter_71 yy_X10_withLetter (c_X10_withLetter C.2.2.2.2.1  (L 6 x7.toNatClampNeg) v2 I9 L hg14) q_539 q_540 (by decide) (by decide) rfl rfl (Nat.le_of_ble_eq_true rfl) ⟨Nat.le_refl _, Nat.le_refl _, Nat.le_refl _, Nat.le_refl _⟩ ?_
    obtain ⟨hb16, h⟩ := zck_e h
    refine z_lastore C dX10_addCharacter_74 rfl rfl (by decide) (zbd_in hb16) ?_
    obtain ⟨L17, eL17, h⟩ := zlt_e h
    refine z_eqL C eL17 ?_
    refine z_goto C 110 (by decide) dX10_addCharacter_75 ?_
    refine z_lv [1, 2, 0] (lv' := [(0, .ref (B0 + 4)), (1, .int v1), (3, .int x7)]) rfl ?_
    exact l_X10_addCharacter_110 C  v1 x7 I9 L17 h
set_option maxHeartbeats 4000000 in
set_option maxRecDepth 100000 in
theorem c_X10_addCharacter {r : zI × zL} (hE : zE0 l s0 a0 d cy B0) (a1 : Int32) (a2 : Int32) (I : zI) (L : zL) (h : f_X10_addCharacter a1 a2 I L = some r) : zM l s0 d cy B0 yX10_addCharacter cX10_addCharacter 4 none 1 22 [.ref (B0 + 4), .int a1, .int a2] zSH zKn bc bs I L (.inl none) zSH zKn bc bs r.1 r.2 := by
  refine z_meth yy_X10_addCharacter hE (Nat.le_of_ble_eq_true rfl) (fun p e R s m args below meth c C => ?_)
  show zG p l e R s m args below meth c d cy B0 4 bc bs (zQ below s args d cy B0 bc bs (.inl none) zSH zKn bc bs r.1 r.2) 0 [(0, .ref (B0 + 4)), (1, .int a1), (2, .int a2)] [] zSH zKn bc bs I L
  unfold f_X10_addCharacter at h
  refine z_aload_n C rfl 0 rfl dX10_addCharacter_0 ?_
  refine z_geti C zc_10 dX10_addCharacter_1 3 4 rfl (by decide) (by decide) q_152 rfl ?_
  refine z_if_ne C 37 (by decide) dX10_addCharacter_4 (fun hc => ?_) (fun hc => ?_)
  · have h := zif_f hc h
    exact l_X10_addCharacter_37 C  a1 a2 I L h
  · have h := zif_t hc h
    refine z_aload_n C rfl 0 rfl dX10_addCharacter_7 ?_
    refine z_getr C zc_10 dX10_addCharacter_8 0 4 5 rfl (by decide) (by decide) q_147 rfl rfl ?_
    refine z_aload_n C rfl 0 rfl dX10_addCharacter_11 ?_
    refine z_geti C zc_10 dX10_addCharacter_12 2 4 rfl (by decide) (by decide) q_151 rfl ?_
    refine z_iload_n C rfl 1 rfl dX10_addCharacter_15 ?_
    obtain ⟨hb1, h⟩ := zck_e h
    refine z_iastore C dX10_addCharacter_16 rfl rfl (by decide) (zbd_in hb1) ?_
    obtain ⟨I2, eI2, h⟩ := zlt_e h
    refine z_eqI C eI2 ?_
    refine z_aload_n C rfl 0 rfl dX10_addCharacter_17 ?_
    refine z_getr C zc_10 dX10_addCharacter_18 1 4 6 rfl (by decide) (by decide) q_149 rfl rfl ?_
    refine z_aload_n C rfl 0 rfl dX10_addCharacter_21 ?_
    refine z_geti C zc_10 dX10_addCharacter_22 2 4 rfl (by decide) (by decide) q_151 rfl ?_
    refine z_lconst C (v := 0) (by decide) dX10_addCharacter_25 ?_
    obtain ⟨hb3, h⟩ := zck_e h
    refine z_lastore C dX10_addCharacter_26 rfl rfl (by decide) (zbd_in hb3) ?_
    obtain ⟨L4, eL4, h⟩ := zlt_e h
    refine z_eqL C eL4 ?_
    refine z_aload_n C rfl 0 rfl dX10_addCharacter_27 ?_
    refine z_dup C rfl dX10_addCharacter_28 ?_
    refine z_geti C zc_10 dX10_addCharacter_29 2 4 rfl (by decide) (by decide) q_151 rfl ?_
    refine z_iconst C (v := 1) (by decide) dX10_addCharacter_32 ?_
    refine z_iadd C dX10_addCharacter_33 ?_
    obtain ⟨x5, ex5, h⟩ := zlt_e h
    refine z_eqi C ex5 ?_
    refine z_puti C zc_10 dX10_addCharacter_34 2 4 rfl (by decide) (by decide) rfl q_151 rfl rfl rfl ?_
    obtain ⟨I6, eI6, h⟩ := zlt_e h
    refine z_eqI C eI6 ?_
    exact l_X10_addCharacter_37 C  a1 a2 I6 L4 h
theorem q_0 : Cond.selects "DeviceFind$Words" ⟨"DeviceFind$Words", "addCharacter", "(IC)V"⟩ ⟨"DeviceFind$Words", "addCharacter", "(IC)V"⟩ ∈ lw_tbl := List.mem_of_getElem? (i := 0) (by decide +kernel)
theorem q_125 : (Cond.fieldLink "DeviceFind$Words" (29 : Nat) "DeviceFind$Tape" "characters" "[C") ∈ lw_tbl := List.mem_of_getElem? (i := 125) (by decide +kernel)
theorem q_127 : (Cond.fieldLink "DeviceFind$Words" (26 : Nat) "DeviceFind$Tape" "length" "I") ∈ lw_tbl := List.mem_of_getElem? (i := 127) (by decide +kernel)
theorem q_531 : (Cond.code ({ cls := "DeviceFind$Words", name := "split", desc := "(LDeviceFind$Tape;)V" } : Jvm.MethodName) prog_12_method_2_code (6 : Nat) (Option.none : Option Jvm.ClassFile.FieldType)) ∈ lw_tbl := List.mem_of_getElem? (i := 531) (by decide +kernel)
theorem q_532 : (Cond.methodLink "DeviceFind$Words" (33 : Nat) ({ cls := "DeviceFind$Words", name := "sortOf", desc := "(C)I" } : Jvm.MethodName)) ∈ lw_tbl := List.mem_of_getElem? (i := 532) (by decide +kernel)
theorem q_533 : (Cond.static ({ cls := "DeviceFind$Words", name := "sortOf", desc := "(C)I" } : Jvm.MethodName)) ∈ lw_tbl := List.mem_of_getElem? (i := 533) (by decide +kernel)
theorem q_535 : (Cond.methodLink "DeviceFind$Words" (37 : Nat) ({ cls := "DeviceFind$Words", name := "addCharacter", desc := "(IC)V" } : Jvm.MethodName)) ∈ lw_tbl := List.mem_of_getElem? (i := 535) (by decide +kernel)
theorem q_537 : (Cond.instanceMethod ({ cls := "DeviceFind$Words", name := "addCharacter", desc := "(IC)V" } : Jvm.MethodName)) ∈ lw_tbl := List.mem_of_getElem? (i := 537) (by decide +kernel)
theorem yy_X10_split : zY yX10_split cX10_split 6 none 1 := ⟨q_531, q_79, by decide +kernel, by decide +kernel, by decide +kernel⟩
noncomputable def f_X10_split_63 (k9 : Int32 → Int32 → zI → zL → Option (zI × zL)) (v3 : Int32) (v5 : Int32) (I : zI) (L : zL) : Option (zI × zL) :=
  zlt (v3 + 1) (fun x12 => k9 v5 x12 I L)
noncomputable def f_X10_split_49 (k9 : Int32 → Int32 → zI → zL → Option (zI × zL)) (v3 : Int32) (v4 : Int32) (v5 : Int32) (I : zI) (L : zL) : Option (zI × zL) :=
  if v5 = (4 : Int32) then (f_X10_split_63 k9 v3 v5 I L) else (zb2 (f_X10_addCharacter v5 v4 I L) (fun I10 L11 => f_X10_split_63 k9 v3 v5 I10 L11))
noncomputable def f_X10_split_44 (k9 : Int32 → Int32 → zI → zL → Option (zI × zL)) (v3 : Int32) (v4 : Int32) (v5 : Int32) (I : zI) (L : zL) : Option (zI × zL) :=
  zlt (zu I 4 3 (0 : Int32)) (fun I8 => f_X10_split_49 k9 v3 v4 v5 I8 L)
noncomputable def f_X10_split_9 (k9 : Int32 → Int32 → zI → zL → Option (zI × zL)) (v2 : Int32) (v3 : Int32) (I : zI) (L : zL) : Option (zI × zL) :=
  if (I 1 1) ≤ v3 then (zck (zbd (I 4 2) 801) (zlt (zu I 5 (I 4 2).toNatClampNeg (0 : Int32)) (fun I3 => some (I3, L)))) else (zck (zbd v3 800) (zlt (I 2 v3.toNatClampNeg) (fun x5 => zb1 (f_X10_sortOf x5) (fun x7 => if x7 = (3 : Int32) then (f_X10_split_44 k9 v3 x5 x7 I L) else (if x7 = v2 then (f_X10_split_49 k9 v3 x5 x7 I L) else (f_X10_split_44 k9 v3 x5 x7 I L))))))
noncomputable def f_X10_split (I : zI) (L : zL) : Option (zI × zL) :=
  zlt (zu I 4 2 (0 : Int32)) (fun I1 => zlp4 (f_X10_split_9) zF (4 : Int32) (0 : Int32) I1 L)
set_option maxHeartbeats 4000000 in
set_option maxRecDepth 100000 in
theorem l_X10_split_63 {r : zI × zL} (C : zC p l e R s m args below meth c s0 a0 d cy B0 yX10_split.cls cX10_split 6 none bc bs bc bs 2 45 []) (k9 : Int32 → Int32 → zI → zL → Option (zI × zL)) (hk9 : ∀ (v2 : Int32) (v3 : Int32) (I : zI) (L : zL), k9 v2 v3 I L = some r → zG p l e R s m args below meth c d cy B0 6 bc bs (zQ below s args d cy B0 bc bs (.inl none) zSH zKn bc bs r.1 r.2) 9 [(0, .ref (B0 + 4)), (1, .ref (B0 + 1)), (2, .int v2), (3, .int v3)] [] zSH zKn bc bs I L) (v3 : Int32) (v5 : Int32) (I : zI) (L : zL) (h : f_X10_split_63 k9 v3 v5 I L = some r) : zG p l e R s m args below meth c d cy B0 6 bc bs (zQ below s args d cy B0 bc bs (.inl none) zSH zKn bc bs r.1 r.2) 63 [(0, .ref (B0 + 4)), (1, .ref (B0 + 1)), (3, .int v3), (5, .int v5)] [] zSH zKn bc bs I L := by
  unfold f_X10_split_63 at h
  refine z_iload C 3 rfl dX10_split_63 ?_
  refine z_istore_n C (lv' := [(2, .int v5), (0, .ref (B0 + 4)), (1, .ref (B0 + 1)), (3, .int v3), (5, .int v5)]) rfl (by decide) rfl dX10_split_65 ?_
  obtain ⟨x12, ex12, h⟩ := zlt_e h
  refine z_iinc C (j := 3) (v := x12) (lv' := [(3, .int x12), (2, .int v5), (0, .ref (B0 + 4)), (1, .ref (B0 + 1)), (5, .int v5)]) rfl (by rw [ex12]; rfl) (by decide) rfl dX10_split_66 ?_
  refine z_goto C 9 (by decide) dX10_split_69 ?_
  refine z_lv [2, 3, 1, 0] (lv' := [(0, .ref (B0 + 4)), (1, .ref (B0 + 1)), (2, .int v5), (3, .int x12)]) rfl ?_
  exact hk9 v5 x12 I L h
set_option maxHeartbeats 4000000 in
set_option maxRecDepth 100000 in
theorem l_X10_split_49 {r : zI × zL} (C : zC p l e R s m args below meth c s0 a0 d cy B0 yX10_split.cls cX10_split 6 none bc bs bc bs 2 45 []) (k9 : Int32 → Int32 → zI → zL → Option (zI × zL)) (hk9 : ∀ (v2 : Int32) (v3 : Int32) (I : zI) (L : zL), k9 v2 v3 I L = some r → zG p l e R s m args below meth c d cy B0 6 bc bs (zQ below s args d cy B0 bc bs (.inl none) zSH zKn bc bs r.1 r.2) 9 [(0, .ref (B0 + 4)), (1, .ref (B0 + 1)), (2, .int v2), (3, .int v3)] [] zSH zKn bc bs I L) (v3 : Int32) (v4 : Int32) (v5 : Int32) (I : zI) (L : zL) (h : f_X10_split_49 k9 v3 v4 v5 I L = some r) : zG p l e R s m args below meth c d cy B0 6 bc bs (zQ below s args d cy B0 bc bs (.inl none) zSH zKn bc bs r.1 r.2) 49 [(0, .ref (B0 + 4)), (1, .ref (B0 + 1)), (3, .int v3), (4, .int v4), (5, .int v5)] [] zSH zKn bc bs I L := by
  unfold f_X10_split_49 at h
  refine z_iload C 4 rfl dX10_split_49 ?_
  refine z_iconst C (v := 4) (by decide) dX10_split_51 ?_
  refine z_icmp_eq C 63 (by decide) dX10_split_52 (fun hc => ?_) (fun hc => ?_)
  · have h := zif_t hc h
    refine z_lv [0, 1, 2, 4] (lv' := [(0, .ref (B0 + 4)), (1, .ref (B0 + 1)), (3, .int v3), (5, .int v5)]) rfl ?_
    exact l_X10_split_63 C k9 hk9 v3 v5 I L h
  · have h := zif_f hc h
    refine z_aload_n C rfl 0 rfl dX10_split_55 ?_
    refine z_iload C 4 rfl dX10_split_56 ?_
    refine z_iload C 3 rfl dX10_split_58 ?_
    obtain ⟨I10, L11, hg9, h⟩ := zb2_e h
    refine z_callV C zc_10 rfl (by decide) dX10_split_60 yy_X10_addCharacter (c_X10_addCharacter C.2.2.2.2.1  v5 v4 I L hg9) q_535 q_537 q_0 (by decide) (by decide) rfl rfl (Nat.le_of_ble_eq_true rfl) ⟨Nat.le_refl _, Nat.le_refl _, Nat.le_refl _, Nat.le_refl _⟩ ?_
    refine z_lv [0, 1, 2, 4] (lv' := [(0, .ref (B0 + 4)), (1, .ref (B0 + 1)), (3, .int v3), (5, .int v5)]) rfl ?_
    exact l_X10_split_63 C k9 hk9 v3 v5 I10 L11 h
set_option maxHeartbeats 4000000 in
set_option maxRecDepth 100000 in
theorem l_X10_split_44 {r : zI × zL} (C : zC p l e R s m args below meth c s0 a0 d cy B0 yX10_split.cls cX10_split 6 none bc bs bc bs 2 45 []) (k9 : Int32 → Int32 → zI → zL → Option (zI × zL)) (hk9 : ∀ (v2 : Int32) (v3 : Int32) (I : zI) (L : zL), k9 v2 v3 I L = some r → zG p l e R s m args below meth c d cy B0 6 bc bs (zQ below s args d cy B0 bc bs (.inl none) zSH zKn bc bs r.1 r.2) 9 [(0, .ref (B0 + 4)), (1, .ref (B0 + 1)), (2, .int v2), (3, .int v3)] [] zSH zKn bc bs I L) (v3 : Int32) (v4 : Int32) (v5 : Int32) (I : zI) (L : zL) (h : f_X10_split_44 k9 v3 v4 v5 I L = some r) : zG p l e R s m args below meth c d cy B0 6 bc bs (zQ below s args d cy B0 bc bs (.inl none) zSH zKn bc bs r.1 r.2) 44 [(0, .ref (B0 + 4)), (1, .ref (B0 + 1)), (3, .int v3), (4, .int v4), (5, .int v5)] [] zSH zKn bc bs I L := by
  unfold f_X10_split_44 at h
  refine z_aload_n C rfl 0 rfl dX10_split_44 ?_
  refine z_iconst C (v := 0) (by decide) dX10_split_45 ?_
  refine z_puti C zc_10 dX10_split_46 3 4 rfl (by decide) (by decide) rfl q_152 rfl rfl rfl ?_
  obtain ⟨I8, eI8, h⟩ := zlt_e h
  refine z_eqI C eI8 ?_
  exact l_X10_split_49 C k9 hk9 v3 v4 v5 I8 L h
set_option maxHeartbeats 4000000 in
set_option maxRecDepth 100000 in
theorem l_X10_split_9 {r : zI × zL} (C : zC p l e R s m args below meth c s0 a0 d cy B0 yX10_split.cls cX10_split 6 none bc bs bc bs 2 45 []) (k9 : Int32 → Int32 → zI → zL → Option (zI × zL)) (hk9 : ∀ (v2 : Int32) (v3 : Int32) (I : zI) (L : zL), k9 v2 v3 I L = some r → zG p l e R s m args below meth c d cy B0 6 bc bs (zQ below s args d cy B0 bc bs (.inl none) zSH zKn bc bs r.1 r.2) 9 [(0, .ref (B0 + 4)), (1, .ref (B0 + 1)), (2, .int v2), (3, .int v3)] [] zSH zKn bc bs I L) (v2 : Int32) (v3 : Int32) (I : zI) (L : zL) (h : f_X10_split_9 k9 v2 v3 I L = some r) : zG p l e R s m args below meth c d cy B0 6 bc bs (zQ below s args d cy B0 bc bs (.inl none) zSH zKn bc bs r.1 r.2) 9 [(0, .ref (B0 + 4)), (1, .ref (B0 + 1)), (2, .int v2), (3, .int v3)] [] zSH zKn bc bs I L := by
  unfold f_X10_split_9 at h
  refine z_iload_n C rfl 3 rfl dX10_split_9 ?_
  refine z_aload_n C rfl 1 rfl dX10_split_10 ?_
  refine z_geti C zc_9 dX10_split_11 1 1 rfl (by decide) (by decide) q_127 rfl ?_
  refine z_icmp_ge C 72 (by decide) dX10_split_14 (fun hc => ?_) (fun hc => ?_)
  · have h := zif_t hc h
    refine z_aload_n C rfl 0 rfl dX10_split_72 ?_
    refine z_getr C zc_10 dX10_split_73 0 4 5 rfl (by decide) (by decide) q_147 rfl rfl ?_
    refine z_aload_n C rfl 0 rfl dX10_split_76 ?_
    refine z_geti C zc_10 dX10_split_77 2 4 rfl (by decide) (by decide) q_151 rfl ?_
    refine z_iconst C (v := 0) (by decide) dX10_split_80 ?_
    obtain ⟨hb2, h⟩ := zck_e h
    refine z_iastore C dX10_split_81 rfl rfl (by decide) (zbd_in hb2) ?_
    obtain ⟨I3, eI3, h⟩ := zlt_e h
    refine z_eqI C eI3 ?_
    obtain rfl := Option.some.inj h
    exact z_vret C dX10_split_82 rfl rfl
  · have h := zif_f hc h
    refine z_aload_n C rfl 1 rfl dX10_split_17 ?_
    refine z_getr C zc_9 dX10_split_18 0 1 2 rfl (by decide) (by decide) q_125 rfl rfl ?_
    refine z_iload_n C rfl 3 rfl dX10_split_21 ?_
    obtain ⟨hb4, h⟩ := zck_e h
    refine z_caload C dX10_split_22 rfl rfl (by decide) (zbd_in hb4) ?_
    obtain ⟨x5, ex5, h⟩ := zlt_e h
    refine z_eqi C ex5 ?_
    refine z_istore C (lv' := [(4, .int x5), (0, .ref (B0 + 4)), (1, .ref (B0 + 1)), (2, .int v2), (3, .int v3)]) (by decide) rfl dX10_split_23 ?_
    refine z_iload C 0 rfl dX10_split_25 ?_
    obtain ⟨x7, hg6, h⟩ := zb1_e h
    refine z_callS C dX10_split_27 yy_X10_sortOf (c_X10_sortOf C.2.2.2.2.1  x5 I L hg6) q_532 q_533 (by decide) (by decide) rfl rfl (Nat.le_of_ble_eq_true rfl) ⟨Nat.le_refl _, Nat.le_refl _, Nat.le_refl _, Nat.le_refl _⟩ ?_
    refine z_istore C (lv' := [(5, .int x7), (4, .int x5), (0, .ref (B0 + 4)), (1, .ref (B0 + 1)), (2, .int v2), (3, .int v3)]) (by decide) rfl dX10_split_30 ?_
    refine z_iload C 0 rfl dX10_split_32 ?_
    refine z_iconst C (v := 3) (by decide) dX10_split_34 ?_
    refine z_icmp_eq C 44 (by decide) dX10_split_35 (fun hc => ?_) (fun hc => ?_)
    · have h := zif_t hc h
      refine z_lv [2, 3, 5, 1, 0] (lv' := [(0, .ref (B0 + 4)), (1, .ref (B0 + 1)), (3, .int v3), (4, .int x5), (5, .int x7)]) rfl ?_
      exact l_X10_split_44 C k9 hk9 v3 x5 x7 I L h
    · have h := zif_f hc h
      refine z_iload C 0 rfl dX10_split_38 ?_
      refine z_iload_n C rfl 4 rfl dX10_split_40 ?_
      refine z_icmp_eq C 49 (by decide) dX10_split_41 (fun hc => ?_) (fun hc => ?_)
      · have h := zif_t hc h
        refine z_lv [2, 3, 5, 1, 0] (lv' := [(0, .ref (B0 + 4)), (1, .ref (B0 + 1)), (3, .int v3), (4, .int x5), (5, .int x7)]) rfl ?_
        exact l_X10_split_49 C k9 hk9 v3 x5 x7 I L h
      · have h := zif_f hc h
        refine z_lv [2, 3, 5, 1, 0] (lv' := [(0, .ref (B0 + 4)), (1, .ref (B0 + 1)), (3, .int v3), (4, .int x5), (5, .int x7)]) rfl ?_
        exact l_X10_split_44 C k9 hk9 v3 x5 x7 I L h
set_option maxHeartbeats 4000000 in
set_option maxRecDepth 100000 in
theorem L_X10_split_9 {r : zI × zL} (C : zC p l e R s m args below meth c s0 a0 d cy B0 yX10_split.cls cX10_split 6 none bc bs bc bs 2 45 []) (v2 : Int32) (v3 : Int32) (I : zI) (L : zL) (h : zlp4 (f_X10_split_9) zF v2 v3 I L = some r) : zG p l e R s m args below meth c d cy B0 6 bc bs (zQ below s args d cy B0 bc bs (.inl none) zSH zKn bc bs r.1 r.2) 9 [(0, .ref (B0 + 4)), (1, .ref (B0 + 1)), (2, .int v2), (3, .int v3)] [] zSH zKn bc bs I L :=
 zlp4_e (fun (v2 : Int32) (v3 : Int32) (I : zI) (L : zL) => zG p l e R s m args below meth c d cy B0 6 bc bs (zQ below s args d cy B0 bc bs (.inl none) zSH zKn bc bs r.1 r.2) 9 [(0, .ref (B0 + 4)), (1, .ref (B0 + 1)), (2, .int v2), (3, .int v3)] [] zSH zKn bc bs I L) (fun k9 hk9 v2 v3 I L h => l_X10_split_9 C k9 hk9 v2 v3 I L h) zF v2 v3 I L h
set_option maxHeartbeats 4000000 in
set_option maxRecDepth 100000 in
theorem c_X10_split {r : zI × zL} (hE : zE0 l s0 a0 d cy B0) (I : zI) (L : zL) (h : f_X10_split I L = some r) : zM l s0 d cy B0 yX10_split cX10_split 6 none 2 45 [.ref (B0 + 4), .ref (B0 + 1)] zSH zKn bc bs I L (.inl none) zSH zKn bc bs r.1 r.2 := by
  refine z_meth yy_X10_split hE (Nat.le_of_ble_eq_true rfl) (fun p e R s m args below meth c C => ?_)
  show zG p l e R s m args below meth c d cy B0 6 bc bs (zQ below s args d cy B0 bc bs (.inl none) zSH zKn bc bs r.1 r.2) 0 [(0, .ref (B0 + 4)), (1, .ref (B0 + 1))] [] zSH zKn bc bs I L
  unfold f_X10_split at h
  refine z_aload_n C rfl 0 rfl dX10_split_0 ?_
  refine z_iconst C (v := 0) (by decide) dX10_split_1 ?_
  refine z_puti C zc_10 dX10_split_2 2 4 rfl (by decide) (by decide) rfl q_151 rfl rfl rfl ?_
  obtain ⟨I1, eI1, h⟩ := zlt_e h
  refine z_eqI C eI1 ?_
  refine z_iconst C (v := 4) (by decide) dX10_split_5 ?_
  refine z_istore_n C (lv' := [(2, .int (4 : Int32)), (0, .ref (B0 + 4)), (1, .ref (B0 + 1))]) rfl (by decide) rfl dX10_split_6 ?_
  refine z_iconst C (v := 0) (by decide) dX10_split_7 ?_
  refine z_istore_n C (lv' := [(3, .int (0 : Int32)), (2, .int (4 : Int32)), (0, .ref (B0 + 4)), (1, .ref (B0 + 1))]) rfl (by decide) rfl dX10_split_8 ?_
  refine z_lv [2, 3, 1, 0] (lv' := [(0, .ref (B0 + 4)), (1, .ref (B0 + 1)), (2, .int (4 : Int32)), (3, .int (0 : Int32))]) rfl ?_
  exact L_X10_split_9 C  (4 : Int32) (0 : Int32) I1 L h
theorem q_148 : (Cond.fieldLink "DeviceFind$Reader" (50 : Nat) "DeviceFind$Words" "sorts" "[I") ∈ lw_tbl := List.mem_of_getElem? (i := 148) (by decide +kernel)
theorem q_248 : (Cond.fieldLink "DeviceFind$Reader" (22 : Nat) "DeviceFind$Reader" "words" "LDeviceFind$Words;") ∈ lw_tbl := List.mem_of_getElem? (i := 248) (by decide +kernel)
theorem q_250 : (Cond.fieldLink "DeviceFind$Reader" (33 : Nat) "DeviceFind$Reader" "at" "I") ∈ lw_tbl := List.mem_of_getElem? (i := 250) (by decide +kernel)
theorem q_550 : (Cond.code ({ cls := "DeviceFind$Reader", name := "isAtEnd", desc := "()Z" } : Jvm.MethodName) prog_10_method_4_code (1 : Nat) (Option.some Jvm.ClassFile.FieldType.boolean)) ∈ lw_tbl := List.mem_of_getElem? (i := 550) (by decide +kernel)
theorem yy_X8_isAtEnd : zY yX8_isAtEnd cX8_isAtEnd 1 (some .boolean) 0 := ⟨q_550, q_78, by decide +kernel, by decide +kernel, by decide +kernel⟩
noncomputable def f_X8_isAtEnd_20 (w0 : Int32) (I : zI) : Option Int32 :=
  zck (zbo w0) (some w0)
noncomputable def f_X8_isAtEnd (I : zI) : Option Int32 :=
  zlt (I 3 4) (fun x1 => zck (zbd x1 801) (if (I 5 x1.toNatClampNeg) = 0 then (f_X8_isAtEnd_20 (1 : Int32) I) else (f_X8_isAtEnd_20 (0 : Int32) I)))
set_option maxHeartbeats 4000000 in
set_option maxRecDepth 100000 in
theorem l_X8_isAtEnd_20 {r : Int32} (C : zC p l e R s m args below meth c s0 a0 d cy B0 yX8_isAtEnd.cls cX8_isAtEnd 1 (some .boolean) bc bs bc bs 0 0 []) (L : zL) (w0 : Int32) (I : zI) (h : f_X8_isAtEnd_20 w0 I = some r) : zG p l e R s m args below meth c d cy B0 1 bc bs (zQ below s args d cy B0 bc bs (.inl (some (.int r))) zSH zKn bc bs I L) 20 [] [.int w0] zSH zKn bc bs I L := by
  unfold f_X8_isAtEnd_20 at h
  obtain ⟨hb3, h⟩ := zck_e h
  obtain rfl := Option.some.inj h
  exact z_iret C dX8_isAtEnd_20 .boolean rfl (zbo_n hb3).1 rfl
set_option maxHeartbeats 4000000 in
set_option maxRecDepth 100000 in
theorem c_X8_isAtEnd {r : Int32} (hE : zE0 l s0 a0 d cy B0) (I : zI) (L : zL) (h : f_X8_isAtEnd I = some r) : zM l s0 d cy B0 yX8_isAtEnd cX8_isAtEnd 1 (some .boolean) 0 0 [.ref (B0 + 3)] zSH zKn bc bs I L (.inl (some (.int r))) zSH zKn bc bs I L := by
  refine z_meth yy_X8_isAtEnd hE (Nat.le_of_ble_eq_true rfl) (fun p e R s m args below meth c C => ?_)
  show zG p l e R s m args below meth c d cy B0 1 bc bs (zQ below s args d cy B0 bc bs (.inl (some (.int r))) zSH zKn bc bs I L) 0 [(0, .ref (B0 + 3))] [] zSH zKn bc bs I L
  unfold f_X8_isAtEnd at h
  refine z_aload_n C rfl 0 rfl dX8_isAtEnd_0 ?_
  refine z_getr C zc_8 dX8_isAtEnd_1 2 3 4 rfl (by decide) (by decide) q_248 rfl rfl ?_
  refine z_getr C zc_10 dX8_isAtEnd_4 0 4 5 rfl (by decide) (by decide) q_148 rfl rfl ?_
  refine z_aload_n C rfl 0 rfl dX8_isAtEnd_7 ?_
  refine z_geti C zc_8 dX8_isAtEnd_8 4 3 rfl (by decide) (by decide) q_250 rfl ?_
  obtain ⟨x1, ex1, h⟩ := zlt_e h
  refine z_eqi C ex1 ?_
  obtain ⟨hb2, h⟩ := zck_e h
  refine z_iaload C dX8_isAtEnd_11 rfl rfl (by decide) (zbd_in hb2) ?_
  refine z_if_ne C 19 (by decide) dX8_isAtEnd_12 (fun hc => ?_) (fun hc => ?_)
  · have h := zif_f hc h
    refine z_iconst C (v := 0) (by decide) dX8_isAtEnd_19 ?_
    refine z_lv [] (lv' := []) rfl ?_
    exact l_X8_isAtEnd_20 C L (0 : Int32) I h
  · have h := zif_t hc h
    refine z_iconst C (v := 1) (by decide) dX8_isAtEnd_15 ?_
    refine z_goto C 20 (by decide) dX8_isAtEnd_16 ?_
    refine z_lv [] (lv' := []) rfl ?_
    exact l_X8_isAtEnd_20 C L (1 : Int32) I h
theorem q_89 : (Cond.initialized "java/lang/String") ∈ lw_tbl := List.mem_of_getElem? (i := 89) (by decide +kernel)
theorem q_570 : (Cond.code ({ cls := "java/lang/String", name := "coder", desc := "()B" } : Jvm.MethodName) prog_22_method_152_code (1 : Nat) (Option.some Jvm.ClassFile.FieldType.byte)) ∈ lw_tbl := List.mem_of_getElem? (i := 570) (by decide +kernel)
theorem q_571 : (Cond.fieldLink "java/lang/String" (38 : Nat) "java/lang/String" "COMPACT_STRINGS" "Z") ∈ lw_tbl := List.mem_of_getElem? (i := 571) (by decide +kernel)
theorem q_1556 : (Cond.fieldLink "java/lang/String" (15 : Nat) "java/lang/String" "coder" "B") ∈ lw_tbl := List.mem_of_getElem? (i := 1556) (by decide +kernel)
theorem yy_J0_coder_7d493 : zY yJ0_coder_7d493 cJ0_coder_7d493 1 (some .byte) 0 := ⟨q_570, q_89, by decide +kernel, by decide +kernel, by decide +kernel⟩
noncomputable def f_J0_coder_7d493_14 (t0 : Nat) (w0 : Int32) : Option Int32 :=
  zck (zbyt w0) (some w0)
noncomputable def f_J0_coder_7d493 (t0 : Nat) : Option Int32 :=
  if (1 : Int32) = 0 then (f_J0_coder_7d493_14 t0 (1 : Int32)) else (f_J0_coder_7d493_14 t0 (0 : Int32))
set_option maxHeartbeats 4000000 in
set_option maxRecDepth 100000 in
theorem l_J0_coder_7d493_14 {r : Int32} (C : zC p l e R s m args below meth c s0 a0 d cy B0 yJ0_coder_7d493.cls cJ0_coder_7d493 1 (some .byte) bc bs bc bs 0 0 []) {t0 : Nat} (ht0 : t0 < 10) (I : zI) (L : zL) (w0 : Int32) (h : f_J0_coder_7d493_14 t0 w0 = some r) : zG p l e R s m args below meth c d cy B0 1 bc bs (zQ below s args d cy B0 bc bs (.inl (some (.int r))) zSH zKn bc bs I L) 14 [] [.int w0] zSH zKn bc bs I L := by
  unfold f_J0_coder_7d493_14 at h
  obtain ⟨hb1, h⟩ := zck_e h
  obtain rfl := Option.some.inj h
  exact z_iret C dJ0_coder_7d493_14 .byte rfl (zbyt_n hb1) rfl
set_option maxHeartbeats 4000000 in
set_option maxRecDepth 100000 in
theorem c_J0_coder_7d493 {r : Int32} (hE : zE0 l s0 a0 d cy B0) {t0 : Nat} (ht0 : t0 < 10) (I : zI) (L : zL) (h : f_J0_coder_7d493 t0 = some r) : zM l s0 d cy B0 yJ0_coder_7d493 cJ0_coder_7d493 1 (some .byte) 0 0 [.ref (cy (10 + t0))] zSH zKn bc bs I L (.inl (some (.int r))) zSH zKn bc bs I L := by
  refine z_meth yy_J0_coder_7d493 hE (Nat.le_of_ble_eq_true rfl) (fun p e R s m args below meth c C => ?_)
  show zG p l e R s m args below meth c d cy B0 1 bc bs (zQ below s args d cy B0 bc bs (.inl (some (.int r))) zSH zKn bc bs I L) 0 [(0, .ref (cy (10 + t0)))] [] zSH zKn bc bs I L
  unfold f_J0_coder_7d493 at h
  refine z_compact C dJ0_coder_7d493_0 q_571 ?_
  refine z_if_eq C 13 (by decide) dJ0_coder_7d493_3 (fun hc => ?_) (fun hc => ?_)
  · have h := zif_t hc h
    refine z_iconst C (v := 1) (by decide) dJ0_coder_7d493_13 ?_
    refine z_lv [] (lv' := []) rfl ?_
    exact l_J0_coder_7d493_14 C ht0 I L (1 : Int32) h
  · have h := zif_f hc h
    refine z_aload_n C rfl 0 rfl dJ0_coder_7d493_6 ?_
    refine z_scod C t0 ht0 dJ0_coder_7d493_7 q_1556 ?_
    refine z_goto C 14 (by decide) dJ0_coder_7d493_10 ?_
    refine z_lv [] (lv' := []) rfl ?_
    exact l_J0_coder_7d493_14 C ht0 I L (0 : Int32) h
theorem q_566 : (Cond.code ({ cls := "java/lang/String", name := "length", desc := "()I" } : Jvm.MethodName) prog_22_method_54_code (1 : Nat) (Option.some Jvm.ClassFile.FieldType.int)) ∈ lw_tbl := List.mem_of_getElem? (i := 566) (by decide +kernel)
theorem q_567 : (Cond.methodLink "java/lang/String" (335 : Nat) ({ cls := "java/lang/String", name := "coder", desc := "()B" } : Jvm.MethodName)) ∈ lw_tbl := List.mem_of_getElem? (i := 567) (by decide +kernel)
theorem q_568 : (Cond.instanceMethod ({ cls := "java/lang/String", name := "coder", desc := "()B" } : Jvm.MethodName)) ∈ lw_tbl := List.mem_of_getElem? (i := 568) (by decide +kernel)
theorem q_569 : (Cond.selects "java/lang/String" ({ cls := "java/lang/String", name := "coder", desc := "()B" } : Jvm.MethodName) ({ cls := "java/lang/String", name := "coder", desc := "()B" } : Jvm.MethodName)) ∈ lw_tbl := List.mem_of_getElem? (i := 569) (by decide +kernel)
theorem q_1555 : (Cond.fieldLink "java/lang/String" (9 : Nat) "java/lang/String" "value" "[B") ∈ lw_tbl := List.mem_of_getElem? (i := 1555) (by decide +kernel)
theorem yy_J0_length_8abf5 : zY yJ0_length_8abf5 cJ0_length_8abf5 1 (some .int) 0 := ⟨q_566, q_89, by decide +kernel, by decide +kernel, by decide +kernel⟩
noncomputable def f_J0_length_8abf5 (t0 : Nat) : Option Int32 :=
  zb1 (f_J0_coder_7d493 t0) (fun x2 => zlt ((Int32.ofNat (zsl.getD t0 0)) >>> (x2 &&& 31)) (fun x3 => some x3))
set_option maxHeartbeats 4000000 in
set_option maxRecDepth 100000 in
theorem c_J0_length_8abf5 {r : Int32} (hE : zE0 l s0 a0 d cy B0) {t0 : Nat} (ht0 : t0 < 10) (I : zI) (L : zL) (h : f_J0_length_8abf5 t0 = some r) : zM l s0 d cy B0 yJ0_length_8abf5 cJ0_length_8abf5 1 (some .int) 1 20 [.ref (cy (10 + t0))] zSH zKn bc bs I L (.inl (some (.int r))) zSH zKn bc bs I L := by
  refine z_meth yy_J0_length_8abf5 hE (Nat.le_of_ble_eq_true rfl) (fun p e R s m args below meth c C => ?_)
  show zG p l e R s m args below meth c d cy B0 1 bc bs (zQ below s args d cy B0 bc bs (.inl (some (.int r))) zSH zKn bc bs I L) 0 [(0, .ref (cy (10 + t0)))] [] zSH zKn bc bs I L
  unfold f_J0_length_8abf5 at h
  refine z_aload_n C rfl 0 rfl dJ0_length_8abf5_0 ?_
  refine z_sval C t0 ht0 dJ0_length_8abf5_1 q_1555 ?_
  refine z_slen C t0 ht0 dJ0_length_8abf5_4 ?_
  refine z_aload_n C rfl 0 rfl dJ0_length_8abf5_5 ?_
  obtain ⟨x2, hg1, h⟩ := zb1_e h
  refine z_callVS C t0 ht0 dJ0_length_8abf5_6 yy_J0_coder_7d493 (c_J0_coder_7d493 C.2.2.2.2.1 ht0 I L hg1) q_567 q_568 q_569 (by decide) (by decide) rfl rfl (Nat.le_of_ble_eq_true rfl) ⟨Nat.le_refl _, Nat.le_refl _, Nat.le_refl _, Nat.le_refl _⟩ ?_
  refine z_ishr C dJ0_length_8abf5_9 ?_
  obtain ⟨x3, ex3, h⟩ := zlt_e h
  refine z_eqi C ex3 ?_
  obtain rfl := Option.some.inj h
  exact z_iret C dJ0_length_8abf5_10 .int rfl rfl rfl
theorem q_580 : (Cond.code ({ cls := "java/lang/String", name := "isLatin1", desc := "()Z" } : Jvm.MethodName) prog_22_method_154_code (1 : Nat) (Option.some Jvm.ClassFile.FieldType.boolean)) ∈ lw_tbl := List.mem_of_getElem? (i := 580) (by decide +kernel)
theorem yy_J0_isLatin1_aae02 : zY yJ0_isLatin1_aae02 cJ0_isLatin1_aae02 1 (some .boolean) 0 := ⟨q_580, q_89, by decide +kernel, by decide +kernel, by decide +kernel⟩
noncomputable def f_J0_isLatin1_aae02_18 (t0 : Nat) (w0 : Int32) : Option Int32 :=
  zck (zbo w0) (some w0)
noncomputable def f_J0_isLatin1_aae02_17 (t0 : Nat) : Option Int32 :=
  f_J0_isLatin1_aae02_18 t0 (0 : Int32)
noncomputable def f_J0_isLatin1_aae02 (t0 : Nat) : Option Int32 :=
  if (1 : Int32) = 0 then (f_J0_isLatin1_aae02_17 t0 ) else (if (0 : Int32) = 0 then (f_J0_isLatin1_aae02_18 t0 (1 : Int32)) else (f_J0_isLatin1_aae02_17 t0 ))
set_option maxHeartbeats 4000000 in
set_option maxRecDepth 100000 in
theorem l_J0_isLatin1_aae02_18 {r : Int32} (C : zC p l e R s m args below meth c s0 a0 d cy B0 yJ0_isLatin1_aae02.cls cJ0_isLatin1_aae02 1 (some .boolean) bc bs bc bs 0 0 []) {t0 : Nat} (ht0 : t0 < 10) (I : zI) (L : zL) (w0 : Int32) (h : f_J0_isLatin1_aae02_18 t0 w0 = some r) : zG p l e R s m args below meth c d cy B0 1 bc bs (zQ below s args d cy B0 bc bs (.inl (some (.int r))) zSH zKn bc bs I L) 18 [] [.int w0] zSH zKn bc bs I L := by
  unfold f_J0_isLatin1_aae02_18 at h
  obtain ⟨hb1, h⟩ := zck_e h
  obtain rfl := Option.some.inj h
  exact z_iret C dJ0_isLatin1_aae02_18 .boolean rfl (zbo_n hb1).1 rfl
set_option maxHeartbeats 4000000 in
set_option maxRecDepth 100000 in
theorem l_J0_isLatin1_aae02_17 {r : Int32} (C : zC p l e R s m args below meth c s0 a0 d cy B0 yJ0_isLatin1_aae02.cls cJ0_isLatin1_aae02 1 (some .boolean) bc bs bc bs 0 0 []) {t0 : Nat} (ht0 : t0 < 10) (I : zI) (L : zL) (h : f_J0_isLatin1_aae02_17 t0 = some r) : zG p l e R s m args below meth c d cy B0 1 bc bs (zQ below s args d cy B0 bc bs (.inl (some (.int r))) zSH zKn bc bs I L) 17 [] [] zSH zKn bc bs I L := by
  unfold f_J0_isLatin1_aae02_17 at h
  refine z_iconst C (v := 0) (by decide) dJ0_isLatin1_aae02_17 ?_
  exact l_J0_isLatin1_aae02_18 C ht0 I L (0 : Int32) h
set_option maxHeartbeats 4000000 in
set_option maxRecDepth 100000 in
theorem c_J0_isLatin1_aae02 {r : Int32} (hE : zE0 l s0 a0 d cy B0) {t0 : Nat} (ht0 : t0 < 10) (I : zI) (L : zL) (h : f_J0_isLatin1_aae02 t0 = some r) : zM l s0 d cy B0 yJ0_isLatin1_aae02 cJ0_isLatin1_aae02 1 (some .boolean) 0 0 [.ref (cy (10 + t0))] zSH zKn bc bs I L (.inl (some (.int r))) zSH zKn bc bs I L := by
  refine z_meth yy_J0_isLatin1_aae02 hE (Nat.le_of_ble_eq_true rfl) (fun p e R s m args below meth c C => ?_)
  show zG p l e R s m args below meth c d cy B0 1 bc bs (zQ below s args d cy B0 bc bs (.inl (some (.int r))) zSH zKn bc bs I L) 0 [(0, .ref (cy (10 + t0)))] [] zSH zKn bc bs I L
  unfold f_J0_isLatin1_aae02 at h
  refine z_compact C dJ0_isLatin1_aae02_0 q_571 ?_
  refine z_if_eq C 17 (by decide) dJ0_isLatin1_aae02_3 (fun hc => ?_) (fun hc => ?_)
  · have h := zif_t hc h
    refine z_lv [] (lv' := []) rfl ?_
    exact l_J0_isLatin1_aae02_17 C ht0 I L  h
  · have h := zif_f hc h
    refine z_aload_n C rfl 0 rfl dJ0_isLatin1_aae02_6 ?_
    refine z_scod C t0 ht0 dJ0_isLatin1_aae02_7 q_1556 ?_
    refine z_if_ne C 17 (by decide) dJ0_isLatin1_aae02_10 (fun hc => ?_) (fun hc => ?_)
    · have h := zif_f hc h
      refine z_lv [] (lv' := []) rfl ?_
      exact l_J0_isLatin1_aae02_17 C ht0 I L  h
    · have h := zif_t hc h
      refine z_iconst C (v := 1) (by decide) dJ0_isLatin1_aae02_13 ?_
      refine z_goto C 18 (by decide) dJ0_isLatin1_aae02_14 ?_
      refine z_lv [] (lv' := []) rfl ?_
      exact l_J0_isLatin1_aae02_18 C ht0 I L (1 : Int32) h
theorem q_91 : (Cond.initialized "jdk/internal/util/Preconditions") ∈ lw_tbl := List.mem_of_getElem? (i := 91) (by decide +kernel)
theorem q_591 : (Cond.code ({ cls := "jdk/internal/util/Preconditions", name := "checkIndex", desc := "(IILjava/util/function/BiFunction;)I" } : Jvm.MethodName) prog_29_method_11_code (3 : Nat) (Option.some Jvm.ClassFile.FieldType.int)) ∈ lw_tbl := List.mem_of_getElem? (i := 591) (by decide +kernel)
theorem yy_J3_checkIndex_8e157 : zY yJ3_checkIndex_8e157 cJ3_checkIndex_8e157 3 (some .int) 3 := ⟨q_591, q_91, by decide +kernel, by decide +kernel, by decide +kernel⟩
noncomputable def f_J3_checkIndex_8e157_9 (v0 : Int32) (v1 : Int32) : Option Int32 :=
  none
noncomputable def f_J3_checkIndex_8e157 (a0 : Int32) (a1 : Int32) : Option Int32 :=
  if a0 < 0 then (f_J3_checkIndex_8e157_9 a0 a1) else (if a0 < a1 then (some a0) else (f_J3_checkIndex_8e157_9 a0 a1))
set_option maxHeartbeats 4000000 in
set_option maxRecDepth 100000 in
theorem l_J3_checkIndex_8e157_9 {r : Int32} (C : zC p l e R s m args below meth c s0 a0 d cy B0 yJ3_checkIndex_8e157.cls cJ3_checkIndex_8e157 3 (some .int) bc bs bc bs 0 0 []) (I : zI) (L : zL) (v0 : Int32) (v1 : Int32) (h : f_J3_checkIndex_8e157_9 v0 v1 = some r) : zG p l e R s m args below meth c d cy B0 3 bc bs (zQ below s args d cy B0 bc bs (.inl (some (.int r))) zSH zKn bc bs I L) 9 [(0, .int v0), (1, .int v1), (2, .null)] [] zSH zKn bc bs I L := by
  unfold f_J3_checkIndex_8e157_9 at h
  cases h
set_option maxHeartbeats 4000000 in
set_option maxRecDepth 100000 in
theorem c_J3_checkIndex_8e157n {r : Int32} (hE : zE0 l s0 a0 d cy B0) (a0 : Int32) (a1 : Int32) (I : zI) (L : zL) (h : f_J3_checkIndex_8e157 a0 a1 = some r) : zM l s0 d cy B0 yJ3_checkIndex_8e157 cJ3_checkIndex_8e157 3 (some .int) 0 0 [.int a0, .int a1, .null] zSH zKn bc bs I L (.inl (some (.int r))) zSH zKn bc bs I L := by
  refine z_meth yy_J3_checkIndex_8e157 hE (Nat.le_of_ble_eq_true rfl) (fun p e R s m args below meth c C => ?_)
  show zG p l e R s m args below meth c d cy B0 3 bc bs (zQ below s args d cy B0 bc bs (.inl (some (.int r))) zSH zKn bc bs I L) 0 [(0, .int a0), (1, .int a1), (2, .null)] [] zSH zKn bc bs I L
  unfold f_J3_checkIndex_8e157 at h
  refine z_iload_n C rfl 0 rfl dJ3_checkIndex_8e157_0 ?_
  refine z_if_lt C 9 (by decide) dJ3_checkIndex_8e157_1 (fun hc => ?_) (fun hc => ?_)
  · have h := zif_t hc h
    exact l_J3_checkIndex_8e157_9 C I L a0 a1 h
  · have h := zif_f hc h
    refine z_iload_n C rfl 0 rfl dJ3_checkIndex_8e157_4 ?_
    refine z_iload_n C rfl 1 rfl dJ3_checkIndex_8e157_5 ?_
    refine z_icmp_lt C 16 (by decide) dJ3_checkIndex_8e157_6 (fun hc => ?_) (fun hc => ?_)
    · have h := zif_t hc h
      refine z_iload_n C rfl 0 rfl dJ3_checkIndex_8e157_16 ?_
      obtain rfl := Option.some.inj h
      exact z_iret C dJ3_checkIndex_8e157_17 .int rfl rfl rfl
    · have h := zif_f hc h
      exact l_J3_checkIndex_8e157_9 C I L a0 a1 h
set_option maxHeartbeats 4000000 in
set_option maxRecDepth 100000 in
theorem lr_J3_checkIndex_8e157_9 {t9 : Nat} {r : Int32} (C : zC p l e R s m args below meth c s0 a0 d cy B0 yJ3_checkIndex_8e157.cls cJ3_checkIndex_8e157 3 (some .int) bc bs bc bs 0 0 []) (I : zI) (L : zL) (v0 : Int32) (v1 : Int32) (h : f_J3_checkIndex_8e157_9 v0 v1 = some r) : zG p l e R s m args below meth c d cy B0 3 bc bs (zQ below s args d cy B0 bc bs (.inl (some (.int r))) zSH zKn bc bs I L) 9 [(0, .int v0), (1, .int v1), (2, .ref t9)] [] zSH zKn bc bs I L := by
  unfold f_J3_checkIndex_8e157_9 at h
  cases h
set_option maxHeartbeats 4000000 in
set_option maxRecDepth 100000 in
theorem c_J3_checkIndex_8e157r {r : Int32} (t9 : Nat) (hE : zE0 l s0 a0 d cy B0) (a0 : Int32) (a1 : Int32) (I : zI) (L : zL) (h : f_J3_checkIndex_8e157 a0 a1 = some r) : zM l s0 d cy B0 yJ3_checkIndex_8e157 cJ3_checkIndex_8e157 3 (some .int) 0 0 [.int a0, .int a1, .ref t9] zSH zKn bc bs I L (.inl (some (.int r))) zSH zKn bc bs I L := by
  refine z_meth yy_J3_checkIndex_8e157 hE (Nat.le_of_ble_eq_true rfl) (fun p e R s m args below meth c C => ?_)
  show zG p l e R s m args below meth c d cy B0 3 bc bs (zQ below s args d cy B0 bc bs (.inl (some (.int r))) zSH zKn bc bs I L) 0 [(0, .int a0), (1, .int a1), (2, .ref t9)] [] zSH zKn bc bs I L
  unfold f_J3_checkIndex_8e157 at h
  refine z_iload_n C rfl 0 rfl dJ3_checkIndex_8e157_0 ?_
  refine z_if_lt C 9 (by decide) dJ3_checkIndex_8e157_1 (fun hc => ?_) (fun hc => ?_)
  · have h := zif_t hc h
    exact lr_J3_checkIndex_8e157_9 C I L a0 a1 h
  · have h := zif_f hc h
    refine z_iload_n C rfl 0 rfl dJ3_checkIndex_8e157_4 ?_
    refine z_iload_n C rfl 1 rfl dJ3_checkIndex_8e157_5 ?_
    refine z_icmp_lt C 16 (by decide) dJ3_checkIndex_8e157_6 (fun hc => ?_) (fun hc => ?_)
    · have h := zif_t hc h
      refine z_iload_n C rfl 0 rfl dJ3_checkIndex_8e157_16 ?_
      obtain rfl := Option.some.inj h
      exact z_iret C dJ3_checkIndex_8e157_17 .int rfl rfl rfl
    · have h := zif_f hc h
      exact lr_J3_checkIndex_8e157_9 C I L a0 a1 h
theorem q_586 : (Cond.code ({ cls := "java/lang/String", name := "checkIndex", desc := "(II)V" } : Jvm.MethodName) prog_22_method_155_code (2 : Nat) (Option.none : Option Jvm.ClassFile.FieldType)) ∈ lw_tbl := List.mem_of_getElem? (i := 586) (by decide +kernel)
theorem q_587 : (Cond.fieldLink "java/lang/String" (1053 : Nat) "jdk/internal/util/Preconditions" "SIOOBE_FORMATTER" "Ljava/util/function/BiFunction;") ∈ lw_tbl := List.mem_of_getElem? (i := 587) (by decide +kernel)
theorem q_589 : (Cond.methodLink "java/lang/String" (1059 : Nat) ({ cls := "jdk/internal/util/Preconditions", name := "checkIndex", desc := "(IILjava/util/function/BiFunction;)I" } : Jvm.MethodName)) ∈ lw_tbl := List.mem_of_getElem? (i := 589) (by decide +kernel)
theorem q_590 : (Cond.static ({ cls := "jdk/internal/util/Preconditions", name := "checkIndex", desc := "(IILjava/util/function/BiFunction;)I" } : Jvm.MethodName)) ∈ lw_tbl := List.mem_of_getElem? (i := 590) (by decide +kernel)
theorem yy_J0_checkIndex_df160 : zY yJ0_checkIndex_df160 cJ0_checkIndex_df160 2 none 2 := ⟨q_586, q_89, by decide +kernel, by decide +kernel, by decide +kernel⟩
noncomputable def f_J0_checkIndex_df160 (a0 : Int32) (a1 : Int32) : Option Unit :=
  zb1 (f_J3_checkIndex_8e157 a0 a1) (fun x2 => some ())
set_option maxHeartbeats 4000000 in
set_option maxRecDepth 100000 in
theorem c_J0_checkIndex_df160 {r : Unit} (hE : zE0 l s0 a0 d cy B0) (a0 : Int32) (a1 : Int32) (I : zI) (L : zL) (h : f_J0_checkIndex_df160 a0 a1 = some r) : zM l s0 d cy B0 yJ0_checkIndex_df160 cJ0_checkIndex_df160 2 none 1 22 [.int a0, .int a1] zSH zKn bc bs I L (.inl none) zSH zKn bc bs I L := by
  refine z_meth yy_J0_checkIndex_df160 hE (Nat.le_of_ble_eq_true rfl) (fun p e R s m args below meth c C => ?_)
  show zG p l e R s m args below meth c d cy B0 2 bc bs (zQ below s args d cy B0 bc bs (.inl none) zSH zKn bc bs I L) 0 [(0, .int a0), (1, .int a1)] [] zSH zKn bc bs I L
  unfold f_J0_checkIndex_df160 at h
  refine z_iload_n C rfl 0 rfl dJ0_checkIndex_df160_0 ?_
  refine z_iload_n C rfl 1 rfl dJ0_checkIndex_df160_1 ?_
  refine z_siob C dJ0_checkIndex_df160_2 q_587 ?_ (fun t9 => ?_)
  · obtain ⟨x2, hg1, h⟩ := zb1_e h
    refine z_callS C dJ0_checkIndex_df160_5 yy_J3_checkIndex_8e157 (c_J3_checkIndex_8e157n C.2.2.2.2.1  a0 a1 I L hg1) q_589 q_590 (by decide) (by decide) rfl rfl (Nat.le_of_ble_eq_true rfl) ⟨Nat.le_refl _, Nat.le_refl _, Nat.le_refl _, Nat.le_refl _⟩ ?_
    refine z_pop C rfl dJ0_checkIndex_df160_8 ?_
    obtain rfl := Option.some.inj h
    exact z_vret C dJ0_checkIndex_df160_9 rfl rfl
  · obtain ⟨x2, hg1, h⟩ := zb1_e h
    refine z_callS C dJ0_checkIndex_df160_5 yy_J3_checkIndex_8e157 (c_J3_checkIndex_8e157r t9 C.2.2.2.2.1  a0 a1 I L hg1) q_589 q_590 (by decide) (by decide) rfl rfl (Nat.le_of_ble_eq_true rfl) ⟨Nat.le_refl _, Nat.le_refl _, Nat.le_refl _, Nat.le_refl _⟩ ?_
    refine z_pop C rfl dJ0_checkIndex_df160_8 ?_
    obtain rfl := Option.some.inj h
    exact z_vret C dJ0_checkIndex_df160_9 rfl rfl
theorem q_90 : (Cond.initialized "java/lang/StringLatin1") ∈ lw_tbl := List.mem_of_getElem? (i := 90) (by decide +kernel)
theorem q_583 : (Cond.code ({ cls := "java/lang/StringLatin1", name := "charAt", desc := "([BI)C" } : Jvm.MethodName) prog_23_method_2_code (2 : Nat) (Option.some Jvm.ClassFile.FieldType.char)) ∈ lw_tbl := List.mem_of_getElem? (i := 583) (by decide +kernel)
theorem q_584 : (Cond.methodLink "java/lang/StringLatin1" (9 : Nat) ({ cls := "java/lang/String", name := "checkIndex", desc := "(II)V" } : Jvm.MethodName)) ∈ lw_tbl := List.mem_of_getElem? (i := 584) (by decide +kernel)
theorem q_585 : (Cond.static ({ cls := "java/lang/String", name := "checkIndex", desc := "(II)V" } : Jvm.MethodName)) ∈ lw_tbl := List.mem_of_getElem? (i := 585) (by decide +kernel)
theorem yy_J1_charAt_3b067 : zY yJ1_charAt_3b067 cJ1_charAt_3b067 2 (some .char) 2 := ⟨q_583, q_90, by decide +kernel, by decide +kernel, by decide +kernel⟩
noncomputable def f_J1_charAt_3b067 (t0 : Nat) (a1 : Int32) : Option Int32 :=
  zb1 (f_J0_checkIndex_df160 a1 (Int32.ofNat (zsl.getD t0 0))) (fun u2 => zck (zbd a1 (zsl.getD t0 0)) (zlt (((zsb.getD t0 []).getD a1.toNatClampNeg 0) &&& (255 : Int32)) (fun x4 => zlt ((x4.toUInt32 % 65536).toInt32) (fun x5 => zck (zchr x5) (some x5)))))
set_option maxHeartbeats 4000000 in
set_option maxRecDepth 100000 in
theorem c_J1_charAt_3b067 {r : Int32} (hE : zE0 l s0 a0 d cy B0) {t0 : Nat} (ht0 : t0 < 10) (a1 : Int32) (I : zI) (L : zL) (h : f_J1_charAt_3b067 t0 a1 = some r) : zM l s0 d cy B0 yJ1_charAt_3b067 cJ1_charAt_3b067 2 (some .char) 2 43 [.ref (cy (30 + t0)), .int a1] zSH zKn bc bs I L (.inl (some (.int r))) zSH zKn bc bs I L := by
  refine z_meth yy_J1_charAt_3b067 hE (Nat.le_of_ble_eq_true rfl) (fun p e R s m args below meth c C => ?_)
  show zG p l e R s m args below meth c d cy B0 2 bc bs (zQ below s args d cy B0 bc bs (.inl (some (.int r))) zSH zKn bc bs I L) 0 [(0, .ref (cy (30 + t0))), (1, .int a1)] [] zSH zKn bc bs I L
  unfold f_J1_charAt_3b067 at h
  refine z_iload_n C rfl 1 rfl dJ1_charAt_3b067_0 ?_
  refine z_aload_n C rfl 0 rfl dJ1_charAt_3b067_1 ?_
  refine z_slen C t0 ht0 dJ1_charAt_3b067_2 ?_
  obtain ⟨u2, hg1, h⟩ := zb1_e h
  refine z_callS C dJ1_charAt_3b067_3 yy_J0_checkIndex_df160 (c_J0_checkIndex_df160 C.2.2.2.2.1  a1 (Int32.ofNat (zsl.getD t0 0)) I L hg1) q_584 q_585 (by decide) (by decide) rfl rfl (Nat.le_of_ble_eq_true rfl) ⟨Nat.le_refl _, Nat.le_refl _, Nat.le_refl _, Nat.le_refl _⟩ ?_
  refine z_aload_n C rfl 0 rfl dJ1_charAt_3b067_6 ?_
  refine z_iload_n C rfl 1 rfl dJ1_charAt_3b067_7 ?_
  obtain ⟨hb3, h⟩ := zck_e h
  refine z_sbyt C t0 ht0 dJ1_charAt_3b067_8 (zbd_in hb3) ?_
  refine z_sipush C (v := 255) (by decide) dJ1_charAt_3b067_9 ?_
  refine z_iand C dJ1_charAt_3b067_12 ?_
  obtain ⟨x4, ex4, h⟩ := zlt_e h
  refine z_eqi C ex4 ?_
  refine z_i2c C dJ1_charAt_3b067_13 ?_
  obtain ⟨x5, ex5, h⟩ := zlt_e h
  refine z_eqi C ex5 ?_
  obtain ⟨hb6, h⟩ := zck_e h
  obtain rfl := Option.some.inj h
  exact z_iret C dJ1_charAt_3b067_14 .char rfl (zchr_n hb6) rfl
theorem q_576 : (Cond.code ({ cls := "java/lang/String", name := "charAt", desc := "(I)C" } : Jvm.MethodName) prog_22_method_56_code (2 : Nat) (Option.some Jvm.ClassFile.FieldType.char)) ∈ lw_tbl := List.mem_of_getElem? (i := 576) (by decide +kernel)
theorem q_577 : (Cond.methodLink "java/lang/String" (492 : Nat) ({ cls := "java/lang/String", name := "isLatin1", desc := "()Z" } : Jvm.MethodName)) ∈ lw_tbl := List.mem_of_getElem? (i := 577) (by decide +kernel)
theorem q_578 : (Cond.instanceMethod ({ cls := "java/lang/String", name := "isLatin1", desc := "()Z" } : Jvm.MethodName)) ∈ lw_tbl := List.mem_of_getElem? (i := 578) (by decide +kernel)
theorem q_579 : (Cond.selects "java/lang/String" ({ cls := "java/lang/String", name := "isLatin1", desc := "()Z" } : Jvm.MethodName) ({ cls := "java/lang/String", name := "isLatin1", desc := "()Z" } : Jvm.MethodName)) ∈ lw_tbl := List.mem_of_getElem? (i := 579) (by decide +kernel)
theorem q_581 : (Cond.methodLink "java/lang/String" (495 : Nat) ({ cls := "java/lang/StringLatin1", name := "charAt", desc := "([BI)C" } : Jvm.MethodName)) ∈ lw_tbl := List.mem_of_getElem? (i := 581) (by decide +kernel)
theorem q_582 : (Cond.static ({ cls := "java/lang/StringLatin1", name := "charAt", desc := "([BI)C" } : Jvm.MethodName)) ∈ lw_tbl := List.mem_of_getElem? (i := 582) (by decide +kernel)
theorem yy_J0_charAt_5068e : zY yJ0_charAt_5068e cJ0_charAt_5068e 2 (some .char) 1 := ⟨q_576, q_89, by decide +kernel, by decide +kernel, by decide +kernel⟩
noncomputable def f_J0_charAt_5068e (t0 : Nat) (a1 : Int32) : Option Int32 :=
  zb1 (f_J0_isLatin1_aae02 t0) (fun x2 => if x2 = 0 then (none) else (zb1 (f_J1_charAt_3b067 t0 a1) (fun x4 => zck (zchr x4) (some x4))))
set_option maxHeartbeats 4000000 in
set_option maxRecDepth 100000 in
theorem c_J0_charAt_5068e {r : Int32} (hE : zE0 l s0 a0 d cy B0) {t0 : Nat} (ht0 : t0 < 10) (a1 : Int32) (I : zI) (L : zL) (h : f_J0_charAt_5068e t0 a1 = some r) : zM l s0 d cy B0 yJ0_charAt_5068e cJ0_charAt_5068e 2 (some .char) 4 85 [.ref (cy (10 + t0)), .int a1] zSH zKn bc bs I L (.inl (some (.int r))) zSH zKn bc bs I L := by
  refine z_meth yy_J0_charAt_5068e hE (Nat.le_of_ble_eq_true rfl) (fun p e R s m args below meth c C => ?_)
  show zG p l e R s m args below meth c d cy B0 2 bc bs (zQ below s args d cy B0 bc bs (.inl (some (.int r))) zSH zKn bc bs I L) 0 [(0, .ref (cy (10 + t0))), (1, .int a1)] [] zSH zKn bc bs I L
  unfold f_J0_charAt_5068e at h
  refine z_aload_n C rfl 0 rfl dJ0_charAt_5068e_0 ?_
  obtain ⟨x2, hg1, h⟩ := zb1_e h
  refine z_callVS C t0 ht0 dJ0_charAt_5068e_1 yy_J0_isLatin1_aae02 (c_J0_isLatin1_aae02 C.2.2.2.2.1 ht0 I L hg1) q_577 q_578 q_579 (by decide) (by decide) rfl rfl (Nat.le_of_ble_eq_true rfl) ⟨Nat.le_refl _, Nat.le_refl _, Nat.le_refl _, Nat.le_refl _⟩ ?_
  refine z_if_eq C 16 (by decide) dJ0_charAt_5068e_4 (fun hc => ?_) (fun hc => ?_)
  · have h := zif_t hc h
    cases h
  · have h := zif_f hc h
    refine z_aload_n C rfl 0 rfl dJ0_charAt_5068e_7 ?_
    refine z_sval C t0 ht0 dJ0_charAt_5068e_8 q_1555 ?_
    refine z_iload_n C rfl 1 rfl dJ0_charAt_5068e_11 ?_
    obtain ⟨x4, hg3, h⟩ := zb1_e h
    refine z_callS C dJ0_charAt_5068e_12 yy_J1_charAt_3b067 (c_J1_charAt_3b067 C.2.2.2.2.1 ht0 a1 I L hg3) q_581 q_582 (by decide) (by decide) rfl rfl (Nat.le_of_ble_eq_true rfl) ⟨Nat.le_refl _, Nat.le_refl _, Nat.le_refl _, Nat.le_refl _⟩ ?_
    obtain ⟨hb5, h⟩ := zck_e h
    obtain rfl := Option.some.inj h
    exact z_iret C dJ0_charAt_5068e_15 .char rfl (zchr_n hb5) rfl
theorem q_562 : (Cond.code ({ cls := "DeviceFind$Words", name := "codeOf", desc := "(Ljava/lang/String;)J" } : Jvm.MethodName) prog_12_method_5_code (4 : Nat) (Option.some Jvm.ClassFile.FieldType.long)) ∈ lw_tbl := List.mem_of_getElem? (i := 562) (by decide +kernel)
theorem q_563 : (Cond.methodLink "DeviceFind$Words" (47 : Nat) ({ cls := "java/lang/String", name := "length", desc := "()I" } : Jvm.MethodName)) ∈ lw_tbl := List.mem_of_getElem? (i := 563) (by decide +kernel)
theorem q_564 : (Cond.instanceMethod ({ cls := "java/lang/String", name := "length", desc := "()I" } : Jvm.MethodName)) ∈ lw_tbl := List.mem_of_getElem? (i := 564) (by decide +kernel)
theorem q_565 : (Cond.selects "java/lang/String" ({ cls := "java/lang/String", name := "length", desc := "()I" } : Jvm.MethodName) ({ cls := "java/lang/String", name := "length", desc := "()I" } : Jvm.MethodName)) ∈ lw_tbl := List.mem_of_getElem? (i := 565) (by decide +kernel)
theorem q_573 : (Cond.methodLink "DeviceFind$Words" (52 : Nat) ({ cls := "java/lang/String", name := "charAt", desc := "(I)C" } : Jvm.MethodName)) ∈ lw_tbl := List.mem_of_getElem? (i := 573) (by decide +kernel)
theorem q_574 : (Cond.instanceMethod ({ cls := "java/lang/String", name := "charAt", desc := "(I)C" } : Jvm.MethodName)) ∈ lw_tbl := List.mem_of_getElem? (i := 574) (by decide +kernel)
theorem q_575 : (Cond.selects "java/lang/String" ({ cls := "java/lang/String", name := "charAt", desc := "(I)C" } : Jvm.MethodName) ({ cls := "java/lang/String", name := "charAt", desc := "(I)C" } : Jvm.MethodName)) ∈ lw_tbl := List.mem_of_getElem? (i := 575) (by decide +kernel)
theorem yy_X10_codeOf : zY yX10_codeOf cX10_codeOf 4 (some .long) 1 := ⟨q_562, q_79, by decide +kernel, by decide +kernel, by decide +kernel⟩
noncomputable def f_X10_codeOf_4 (t0 : Nat) (k4 : Int64 → Int32 → Option Int64) (v1 : Int64) (v3 : Int32) : Option Int64 :=
  zb1 (f_J0_length_8abf5 t0) (fun x2 => if x2 ≤ v3 then (some v1) else (zb1 (f_J0_charAt_5068e t0 v3) (fun x4 => zb1 (f_X10_withLetter v1 x4) (fun x6 => zlt (v3 + 1) (fun x7 => k4 x6 x7)))))
noncomputable def f_X10_codeOf (t0 : Nat) : Option Int64 :=
  zlp2 (f_X10_codeOf_4 t0) zF (0 : Int64) (0 : Int32)
set_option maxHeartbeats 4000000 in
set_option maxRecDepth 100000 in
theorem l_X10_codeOf_4 {r : Int64} (C : zC p l e R s m args below meth c s0 a0 d cy B0 yX10_codeOf.cls cX10_codeOf 4 (some .long) bc bs bc bs 5 106 []) {t0 : Nat} (ht0 : t0 < 10) (I : zI) (L : zL) (k4 : Int64 → Int32 → Option Int64) (hk4 : ∀ (v1 : Int64) (v3 : Int32), k4 v1 v3 = some r → zG p l e R s m args below meth c d cy B0 4 bc bs (zQ below s args d cy B0 bc bs (.inl (some (.long r))) zSH zKn bc bs I L) 4 [(0, .ref (cy (10 + t0))), (1, .long v1), (3, .int v3)] [] zSH zKn bc bs I L) (v1 : Int64) (v3 : Int32) (h : f_X10_codeOf_4 t0 k4 v1 v3 = some r) : zG p l e R s m args below meth c d cy B0 4 bc bs (zQ below s args d cy B0 bc bs (.inl (some (.long r))) zSH zKn bc bs I L) 4 [(0, .ref (cy (10 + t0))), (1, .long v1), (3, .int v3)] [] zSH zKn bc bs I L := by
  unfold f_X10_codeOf_4 at h
  refine z_iload_n C rfl 2 rfl dX10_codeOf_4 ?_
  refine z_aload_n C rfl 0 rfl dX10_codeOf_5 ?_
  obtain ⟨x2, hg1, h⟩ := zb1_e h
  refine z_callVS C t0 ht0 dX10_codeOf_6 yy_J0_length_8abf5 (c_J0_length_8abf5 C.2.2.2.2.1 ht0 I L hg1) q_563 q_564 q_565 (by decide) (by decide) rfl rfl (Nat.le_of_ble_eq_true rfl) ⟨Nat.le_refl _, Nat.le_refl _, Nat.le_refl _, Nat.le_refl _⟩ ?_
  refine z_icmp_ge C 28 (by decide) dX10_codeOf_9 (fun hc => ?_) (fun hc => ?_)
  · have h := zif_t hc h
    refine z_lload_n C rfl 1 rfl dX10_codeOf_28 ?_
    obtain rfl := Option.some.inj h
    exact z_lret C dX10_codeOf_29 rfl rfl
  · have h := zif_f hc h
    refine z_lload_n C rfl 1 rfl dX10_codeOf_12 ?_
    refine z_aload_n C rfl 0 rfl dX10_codeOf_13 ?_
    refine z_iload_n C rfl 2 rfl dX10_codeOf_14 ?_
    obtain ⟨x4, hg3, h⟩ := zb1_e h
    refine z_callVS C t0 ht0 dX10_codeOf_15 yy_J0_charAt_5068e (c_J0_charAt_5068e C.2.2.2.2.1 ht0 v3 I L hg3) q_573 q_574 q_575 (by decide) (by decide) rfl rfl (Nat.le_of_ble_eq_true rfl) ⟨Nat.le_refl _, Nat.le_refl _, Nat.le_refl _, Nat.le_refl _⟩ ?_
    obtain ⟨x6, hg5, h⟩ := zb1_e h
    refine z_callS C dX10_codeOf_18 yy_X10_withLetter (c_X10_withLetter C.2.2.2.2.1  v1 x4 I L hg5) q_539 q_540 (by decide) (by decide) rfl rfl (Nat.le_of_ble_eq_true rfl) ⟨Nat.le_refl _, Nat.le_refl _, Nat.le_refl _, Nat.le_refl _⟩ ?_
    refine z_lstore_n C (lv' := [(1, .long x6), (0, .ref (cy (10 + t0))), (3, .int v3)]) rfl (by decide) rfl dX10_codeOf_21 ?_
    obtain ⟨x7, ex7, h⟩ := zlt_e h
    refine z_iinc C (j := 2) (v := x7) (lv' := [(3, .int x7), (1, .long x6), (0, .ref (cy (10 + t0)))]) rfl (by rw [ex7]; rfl) (by decide) rfl dX10_codeOf_22 ?_
    refine z_goto C 4 (by decide) dX10_codeOf_25 ?_
    refine z_lv [2, 1, 0] (lv' := [(0, .ref (cy (10 + t0))), (1, .long x6), (3, .int x7)]) rfl ?_
    exact hk4 x6 x7 h
set_option maxHeartbeats 4000000 in
set_option maxRecDepth 100000 in
theorem L_X10_codeOf_4 {r : Int64} (C : zC p l e R s m args below meth c s0 a0 d cy B0 yX10_codeOf.cls cX10_codeOf 4 (some .long) bc bs bc bs 5 106 []) {t0 : Nat} (ht0 : t0 < 10) (I : zI) (L : zL) (v1 : Int64) (v3 : Int32) (h : zlp2 (f_X10_codeOf_4 t0) zF v1 v3 = some r) : zG p l e R s m args below meth c d cy B0 4 bc bs (zQ below s args d cy B0 bc bs (.inl (some (.long r))) zSH zKn bc bs I L) 4 [(0, .ref (cy (10 + t0))), (1, .long v1), (3, .int v3)] [] zSH zKn bc bs I L :=
 zlp2_e (fun (v1 : Int64) (v3 : Int32) => zG p l e R s m args below meth c d cy B0 4 bc bs (zQ below s args d cy B0 bc bs (.inl (some (.long r))) zSH zKn bc bs I L) 4 [(0, .ref (cy (10 + t0))), (1, .long v1), (3, .int v3)] [] zSH zKn bc bs I L) (fun k9 hk9 v1 v3 h => l_X10_codeOf_4 C ht0 I L k9 hk9 v1 v3 h) zF v1 v3 h
set_option maxHeartbeats 4000000 in
set_option maxRecDepth 100000 in
theorem c_X10_codeOf {r : Int64} (hE : zE0 l s0 a0 d cy B0) {t0 : Nat} (ht0 : t0 < 10) (I : zI) (L : zL) (h : f_X10_codeOf t0 = some r) : zM l s0 d cy B0 yX10_codeOf cX10_codeOf 4 (some .long) 5 106 [.ref (cy (10 + t0))] zSH zKn bc bs I L (.inl (some (.long r))) zSH zKn bc bs I L := by
  refine z_meth yy_X10_codeOf hE (Nat.le_of_ble_eq_true rfl) (fun p e R s m args below meth c C => ?_)
  show zG p l e R s m args below meth c d cy B0 4 bc bs (zQ below s args d cy B0 bc bs (.inl (some (.long r))) zSH zKn bc bs I L) 0 [(0, .ref (cy (10 + t0)))] [] zSH zKn bc bs I L
  unfold f_X10_codeOf at h
  refine z_lconst C (v := 0) (by decide) dX10_codeOf_0 ?_
  refine z_lstore_n C (lv' := [(1, .long (0 : Int64)), (0, .ref (cy (10 + t0)))]) rfl (by decide) rfl dX10_codeOf_1 ?_
  refine z_iconst C (v := 0) (by decide) dX10_codeOf_2 ?_
  refine z_istore_n C (lv' := [(3, .int (0 : Int32)), (1, .long (0 : Int64)), (0, .ref (cy (10 + t0)))]) rfl (by decide) rfl dX10_codeOf_3 ?_
  refine z_lv [2, 1, 0] (lv' := [(0, .ref (cy (10 + t0))), (1, .long (0 : Int64)), (3, .int (0 : Int32))]) rfl ?_
  exact L_X10_codeOf_4 C ht0 I L (0 : Int64) (0 : Int32) h
theorem q_150 : (Cond.fieldLink "DeviceFind$Reader" (157 : Nat) "DeviceFind$Words" "values" "[J") ∈ lw_tbl := List.mem_of_getElem? (i := 150) (by decide +kernel)
theorem q_559 : (Cond.code ({ cls := "DeviceFind$Reader", name := "isWord", desc := "(Ljava/lang/String;)Z" } : Jvm.MethodName) prog_10_method_20_code (2 : Nat) (Option.some Jvm.ClassFile.FieldType.boolean)) ∈ lw_tbl := List.mem_of_getElem? (i := 559) (by decide +kernel)
theorem q_560 : (Cond.methodLink "DeviceFind$Reader" (175 : Nat) ({ cls := "DeviceFind$Words", name := "codeOf", desc := "(Ljava/lang/String;)J" } : Jvm.MethodName)) ∈ lw_tbl := List.mem_of_getElem? (i := 560) (by decide +kernel)
theorem q_561 : (Cond.static ({ cls := "DeviceFind$Words", name := "codeOf", desc := "(Ljava/lang/String;)J" } : Jvm.MethodName)) ∈ lw_tbl := List.mem_of_getElem? (i := 561) (by decide +kernel)
theorem yy_X8_isWord : zY yX8_isWord cX8_isWord 2 (some .boolean) 1 := ⟨q_559, q_78, by decide +kernel, by decide +kernel, by decide +kernel⟩
noncomputable def f_X8_isWord_41 (t1 : Nat) (w0 : Int32) (I : zI) (L : zL) : Option Int32 :=
  zck (zbo w0) (some w0)
noncomputable def f_X8_isWord_40 (t1 : Nat) (I : zI) (L : zL) : Option Int32 :=
  f_X8_isWord_41 t1 (0 : Int32) I L
noncomputable def f_X8_isWord (t1 : Nat) (I : zI) (L : zL) : Option Int32 :=
  zlt (I 3 4) (fun x1 => zck (zbd x1 801) (if (I 5 x1.toNatClampNeg) = (1 : Int32) then (zlt (I 3 4) (fun x3 => zck (zbd x3 801) (zb1 (f_X10_codeOf t1) (fun x6 => if (L 6 x3.toNatClampNeg) = x6 then (f_X8_isWord_41 t1 (1 : Int32) I L) else (f_X8_isWord_40 t1 I L))))) else (f_X8_isWord_40 t1 I L)))
set_option maxHeartbeats 4000000 in
set_option maxRecDepth 100000 in
theorem l_X8_isWord_41 {r : Int32} (C : zC p l e R s m args below meth c s0 a0 d cy B0 yX8_isWord.cls cX8_isWord 2 (some .boolean) bc bs bc bs 6 129 []) {t1 : Nat} (ht1 : t1 < 10) (w0 : Int32) (I : zI) (L : zL) (h : f_X8_isWord_41 t1 w0 I L = some r) : zG p l e R s m args below meth c d cy B0 2 bc bs (zQ below s args d cy B0 bc bs (.inl (some (.int r))) zSH zKn bc bs I L) 41 [] [.int w0] zSH zKn bc bs I L := by
  unfold f_X8_isWord_41 at h
  obtain ⟨hb7, h⟩ := zck_e h
  obtain rfl := Option.some.inj h
  exact z_iret C dX8_isWord_41 .boolean rfl (zbo_n hb7).1 rfl
set_option maxHeartbeats 4000000 in
set_option maxRecDepth 100000 in
theorem l_X8_isWord_40 {r : Int32} (C : zC p l e R s m args below meth c s0 a0 d cy B0 yX8_isWord.cls cX8_isWord 2 (some .boolean) bc bs bc bs 6 129 []) {t1 : Nat} (ht1 : t1 < 10) (I : zI) (L : zL) (h : f_X8_isWord_40 t1 I L = some r) : zG p l e R s m args below meth c d cy B0 2 bc bs (zQ below s args d cy B0 bc bs (.inl (some (.int r))) zSH zKn bc bs I L) 40 [] [] zSH zKn bc bs I L := by
  unfold f_X8_isWord_40 at h
  refine z_iconst C (v := 0) (by decide) dX8_isWord_40 ?_
  exact l_X8_isWord_41 C ht1 (0 : Int32) I L h
set_option maxHeartbeats 4000000 in
set_option maxRecDepth 100000 in
theorem c_X8_isWord {r : Int32} (hE : zE0 l s0 a0 d cy B0) {t1 : Nat} (ht1 : t1 < 10) (I : zI) (L : zL) (h : f_X8_isWord t1 I L = some r) : zM l s0 d cy B0 yX8_isWord cX8_isWord 2 (some .boolean) 6 129 [.ref (B0 + 3), .ref (cy (10 + t1))] zSH zKn bc bs I L (.inl (some (.int r))) zSH zKn bc bs I L := by
  refine z_meth yy_X8_isWord hE (Nat.le_of_ble_eq_true rfl) (fun p e R s m args below meth c C => ?_)
  show zG p l e R s m args below meth c d cy B0 2 bc bs (zQ below s args d cy B0 bc bs (.inl (some (.int r))) zSH zKn bc bs I L) 0 [(0, .ref (B0 + 3)), (1, .ref (cy (10 + t1)))] [] zSH zKn bc bs I L
  unfold f_X8_isWord at h
  refine z_aload_n C rfl 0 rfl dX8_isWord_0 ?_
  refine z_getr C zc_8 dX8_isWord_1 2 3 4 rfl (by decide) (by decide) q_248 rfl rfl ?_
  refine z_getr C zc_10 dX8_isWord_4 0 4 5 rfl (by decide) (by decide) q_148 rfl rfl ?_
  refine z_aload_n C rfl 0 rfl dX8_isWord_7 ?_
  refine z_geti C zc_8 dX8_isWord_8 4 3 rfl (by decide) (by decide) q_250 rfl ?_
  obtain ⟨x1, ex1, h⟩ := zlt_e h
  refine z_eqi C ex1 ?_
  obtain ⟨hb2, h⟩ := zck_e h
  refine z_iaload C dX8_isWord_11 rfl rfl (by decide) (zbd_in hb2) ?_
  refine z_iconst C (v := 1) (by decide) dX8_isWord_12 ?_
  refine z_icmp_ne C 40 (by decide) dX8_isWord_13 (fun hc => ?_) (fun hc => ?_)
  · have h := zif_f hc h
    refine z_lv [] (lv' := []) rfl ?_
    exact l_X8_isWord_40 C ht1 I L h
  · have h := zif_t hc h
    refine z_aload_n C rfl 0 rfl dX8_isWord_16 ?_
    refine z_getr C zc_8 dX8_isWord_17 2 3 4 rfl (by decide) (by decide) q_248 rfl rfl ?_
    refine z_getr C zc_10 dX8_isWord_20 1 4 6 rfl (by decide) (by decide) q_150 rfl rfl ?_
    refine z_aload_n C rfl 0 rfl dX8_isWord_23 ?_
    refine z_geti C zc_8 dX8_isWord_24 4 3 rfl (by decide) (by decide) q_250 rfl ?_
    obtain ⟨x3, ex3, h⟩ := zlt_e h
    refine z_eqi C ex3 ?_
    obtain ⟨hb4, h⟩ := zck_e h
    refine z_laload C dX8_isWord_27 rfl rfl (by decide) (zbd_in hb4) ?_
    refine z_aload_n C rfl 1 rfl dX8_isWord_28 ?_
    obtain ⟨x6, hg5, h⟩ := zb1_e h
    refine z_callS C dX8_isWord_29 yy_X10_codeOf (c_X10_codeOf C.2.2.2.2.1 ht1 I L hg5) q_560 q_561 (by decide) (by decide) rfl rfl (Nat.le_of_ble_eq_true rfl) ⟨Nat.le_refl _, Nat.le_refl _, Nat.le_refl _, Nat.le_refl _⟩ ?_
    refine z_lif_ne C 40 (by decide) dX8_isWord_32 dX8_isWord_33 (fun hc => ?_) (fun hc => ?_)
    · have h := zif_f hc h
      refine z_lv [] (lv' := []) rfl ?_
      exact l_X8_isWord_40 C ht1 I L h
    · have h := zif_t hc h
      refine z_iconst C (v := 1) (by decide) dX8_isWord_36 ?_
      refine z_goto C 41 (by decide) dX8_isWord_37 ?_
      refine z_lv [] (lv' := []) rfl ?_
      exact l_X8_isWord_41 C ht1 (1 : Int32) I L h
theorem q_618 : (Cond.code ({ cls := "DeviceFind$Reader", name := "takeNewLayer", desc := "()J" } : Jvm.MethodName) prog_10_method_12_code (1 : Nat) (Option.some Jvm.ClassFile.FieldType.long)) ∈ lw_tbl := List.mem_of_getElem? (i := 618) (by decide +kernel)
theorem q_619 : (Cond.methodLink "DeviceFind$Reader" (161 : Nat) ({ cls := "DeviceFind$Plan", name := "layerNamed", desc := "(J)I" } : Jvm.MethodName)) ∈ lw_tbl := List.mem_of_getElem? (i := 619) (by decide +kernel)
theorem q_620 : (Cond.instanceMethod ({ cls := "DeviceFind$Plan", name := "layerNamed", desc := "(J)I" } : Jvm.MethodName)) ∈ lw_tbl := List.mem_of_getElem? (i := 620) (by decide +kernel)
theorem q_621 : (Cond.selects "DeviceFind$Plan" ({ cls := "DeviceFind$Plan", name := "layerNamed", desc := "(J)I" } : Jvm.MethodName) ({ cls := "DeviceFind$Plan", name := "layerNamed", desc := "(J)I" } : Jvm.MethodName)) ∈ lw_tbl := List.mem_of_getElem? (i := 621) (by decide +kernel)
theorem q_623 : (Cond.constantLong "DeviceFind$Reader" (99 : Nat) (-1 : Int64)) ∈ lw_tbl := List.mem_of_getElem? (i := 623) (by decide +kernel)
theorem yy_X8_takeNewLayer : zY yX8_takeNewLayer cX8_takeNewLayer 1 (some .long) 0 := ⟨q_618, q_78, by decide +kernel, by decide +kernel, by decide +kernel⟩
noncomputable def f_X8_takeNewLayer_39 (Q : Nat) (I : zI) (L : zL) : Option (Int64 × zI) :=
  some ((-1 : Int64), I)
noncomputable def f_X8_takeNewLayer (Q : Nat) (I : zI) (L : zL) : Option (Int64 × zI) :=
  zlt (I 3 4) (fun x1 => zck (zbd x1 801) (if (I 5 x1.toNatClampNeg) = (1 : Int32) then (zck (decide (I 3 3 = nI (Q + 1))) (zlt (I 3 4) (fun x4 => zck (zbd x4 801) (zb1 (f_X7_layerNamed Q (L 6 x4.toNatClampNeg) I L) (fun x7 => if x7 = (-1 : Int32) then (zlt ((I 3 4) + (1 : Int32)) (fun x8 => zlt (zu I 3 4 x8) (fun I9 => zlt ((I9 3 4) - (1 : Int32)) (fun x10 => zck (zbd x10 801) (zlt (L 6 x10.toNatClampNeg) (fun x12 => some (x12, I9))))))) else (f_X8_takeNewLayer_39 Q I L)))))) else (f_X8_takeNewLayer_39 Q I L)))
set_option maxHeartbeats 4000000 in
set_option maxRecDepth 100000 in
theorem l_X8_takeNewLayer_39 {r : Int64 × zI} (C : zC p l e R s m args below meth c s0 a0 d cy B0 yX8_takeNewLayer.cls cX8_takeNewLayer 1 (some .long) bc bs bc bs 1 23 []) {Q : Nat} (hQ : zpl Q) (I : zI) (L : zL) (h : f_X8_takeNewLayer_39 Q I L = some r) : zG p l e R s m args below meth c d cy B0 1 bc bs (zQ below s args d cy B0 bc bs (.inl (some (.long r.1))) zSH zKn bc bs r.2 L) 39 [] [] zSH zKn bc bs I L := by
  unfold f_X8_takeNewLayer_39 at h
  refine z_ldc2 C dX8_takeNewLayer_39 q_623 ?_
  obtain rfl := Option.some.inj h
  exact z_lret C dX8_takeNewLayer_42 rfl rfl
set_option maxHeartbeats 4000000 in
set_option maxRecDepth 100000 in
theorem c_X8_takeNewLayer {r : Int64 × zI} (hE : zE0 l s0 a0 d cy B0) {Q : Nat} (hQ : zpl Q) (I : zI) (L : zL) (h : f_X8_takeNewLayer Q I L = some r) : zM l s0 d cy B0 yX8_takeNewLayer cX8_takeNewLayer 1 (some .long) 1 23 [.ref (B0 + 3)] zSH zKn bc bs I L (.inl (some (.long r.1))) zSH zKn bc bs r.2 L := by
  refine z_meth yy_X8_takeNewLayer hE (Nat.le_of_ble_eq_true rfl) (fun p e R s m args below meth c C => ?_)
  show zG p l e R s m args below meth c d cy B0 1 bc bs (zQ below s args d cy B0 bc bs (.inl (some (.long r.1))) zSH zKn bc bs r.2 L) 0 [(0, .ref (B0 + 3))] [] zSH zKn bc bs I L
  unfold f_X8_takeNewLayer at h
  refine z_aload_n C rfl 0 rfl dX8_takeNewLayer_0 ?_
  refine z_getr C zc_8 dX8_takeNewLayer_1 2 3 4 rfl (by decide) (by decide) q_248 rfl rfl ?_
  refine z_getr C zc_10 dX8_takeNewLayer_4 0 4 5 rfl (by decide) (by decide) q_148 rfl rfl ?_
  refine z_aload_n C rfl 0 rfl dX8_takeNewLayer_7 ?_
  refine z_geti C zc_8 dX8_takeNewLayer_8 4 3 rfl (by decide) (by decide) q_250 rfl ?_
  obtain ⟨x1, ex1, h⟩ := zlt_e h
  refine z_eqi C ex1 ?_
  obtain ⟨hb2, h⟩ := zck_e h
  refine z_iaload C dX8_takeNewLayer_11 rfl rfl (by decide) (zbd_in hb2) ?_
  refine z_iconst C (v := 1) (by decide) dX8_takeNewLayer_12 ?_
  refine z_icmp_ne C 39 (by decide) dX8_takeNewLayer_13 (fun hc => ?_) (fun hc => ?_)
  · have h := zif_f hc h
    refine z_lv [] (lv' := []) rfl ?_
    exact l_X8_takeNewLayer_39 C hQ I L h
  · have h := zif_t hc h
    refine z_aload_n C rfl 0 rfl dX8_takeNewLayer_16 ?_
    obtain ⟨hb3, h⟩ := zck_e h
    refine z_getm C zc_8 dX8_takeNewLayer_17 3 3 Q rfl (by decide) (by decide) q_249 rfl (of_decide_eq_true hb3) (zpl_lt2 hQ) ?_
    refine z_aload_n C rfl 0 rfl dX8_takeNewLayer_20 ?_
    refine z_getr C zc_8 dX8_takeNewLayer_21 2 3 4 rfl (by decide) (by decide) q_248 rfl rfl ?_
    refine z_getr C zc_10 dX8_takeNewLayer_24 1 4 6 rfl (by decide) (by decide) q_150 rfl rfl ?_
    refine z_aload_n C rfl 0 rfl dX8_takeNewLayer_27 ?_
    refine z_geti C zc_8 dX8_takeNewLayer_28 4 3 rfl (by decide) (by decide) q_250 rfl ?_
    obtain ⟨x4, ex4, h⟩ := zlt_e h
    refine z_eqi C ex4 ?_
    obtain ⟨hb5, h⟩ := zck_e h
    refine z_laload C dX8_takeNewLayer_31 rfl rfl (by decide) (zbd_in hb5) ?_
    obtain ⟨x7, hg6, h⟩ := zb1_e h
    refine z_callV C zc_7 (zpl_k hQ) (zpl_lt hQ) dX8_takeNewLayer_32 yy_X7_layerNamed (c_X7_layerNamed C.2.2.2.2.1 hQ (L 6 x4.toNatClampNeg) I L hg6) q_619 q_620 q_621 (by decide) (by decide) rfl rfl (Nat.le_of_ble_eq_true rfl) ⟨Nat.le_refl _, Nat.le_refl _, Nat.le_refl _, Nat.le_refl _⟩ ?_
    refine z_iconst C (v := -1) (by decide) dX8_takeNewLayer_35 ?_
    refine z_icmp_eq C 43 (by decide) dX8_takeNewLayer_36 (fun hc => ?_) (fun hc => ?_)
    · have h := zif_t hc h
      refine z_aload_n C rfl 0 rfl dX8_takeNewLayer_43 ?_
      refine z_dup C rfl dX8_takeNewLayer_44 ?_
      refine z_geti C zc_8 dX8_takeNewLayer_45 4 3 rfl (by decide) (by decide) q_250 rfl ?_
      refine z_iconst C (v := 1) (by decide) dX8_takeNewLayer_48 ?_
      refine z_iadd C dX8_takeNewLayer_49 ?_
      obtain ⟨x8, ex8, h⟩ := zlt_e h
      refine z_eqi C ex8 ?_
      refine z_puti C zc_8 dX8_takeNewLayer_50 4 3 rfl (by decide) (by decide) rfl q_250 rfl rfl rfl ?_
      obtain ⟨I9, eI9, h⟩ := zlt_e h
      refine z_eqI C eI9 ?_
      refine z_aload_n C rfl 0 rfl dX8_takeNewLayer_53 ?_
      refine z_getr C zc_8 dX8_takeNewLayer_54 2 3 4 rfl (by decide) (by decide) q_248 rfl rfl ?_
      refine z_getr C zc_10 dX8_takeNewLayer_57 1 4 6 rfl (by decide) (by decide) q_150 rfl rfl ?_
      refine z_aload_n C rfl 0 rfl dX8_takeNewLayer_60 ?_
      refine z_geti C zc_8 dX8_takeNewLayer_61 4 3 rfl (by decide) (by decide) q_250 rfl ?_
      refine z_iconst C (v := 1) (by decide) dX8_takeNewLayer_64 ?_
      refine z_isub C dX8_takeNewLayer_65 ?_
      obtain ⟨x10, ex10, h⟩ := zlt_e h
      refine z_eqi C ex10 ?_
      obtain ⟨hb11, h⟩ := zck_e h
      refine z_laload C dX8_takeNewLayer_66 rfl rfl (by decide) (zbd_in hb11) ?_
      obtain ⟨x12, ex12, h⟩ := zlt_e h
      refine z_eql C ex12 ?_
      obtain rfl := Option.some.inj h
      exact z_lret C dX8_takeNewLayer_67 rfl rfl
    · have h := zif_f hc h
      refine z_lv [] (lv' := []) rfl ?_
      exact l_X8_takeNewLayer_39 C hQ I L h
theorem q_627 : (Cond.code ({ cls := "DeviceFind$Reader", name := "takeSign", desc := "(C)Z" } : Jvm.MethodName) prog_10_method_19_code (2 : Nat) (Option.some Jvm.ClassFile.FieldType.boolean)) ∈ lw_tbl := List.mem_of_getElem? (i := 627) (by decide +kernel)
theorem yy_X8_takeSign : zY yX8_takeSign cX8_takeSign 2 (some .boolean) 1 := ⟨q_627, q_78, by decide +kernel, by decide +kernel, by decide +kernel⟩
noncomputable def f_X8_takeSign_34 (I : zI) (L : zL) : Option (Int32 × zI) :=
  some ((0 : Int32), I)
noncomputable def f_X8_takeSign (a1 : Int32) (I : zI) (L : zL) : Option (Int32 × zI) :=
  zlt (I 3 4) (fun x1 => zck (zbd x1 801) (if (I 5 x1.toNatClampNeg) = (3 : Int32) then (zlt (I 3 4) (fun x3 => zck (zbd x3 801) (if (L 6 x3.toNatClampNeg) = a1.toInt64 then (zlt ((I 3 4) + (1 : Int32)) (fun x5 => zlt (zu I 3 4 x5) (fun I6 => some ((1 : Int32), I6)))) else (f_X8_takeSign_34 I L)))) else (f_X8_takeSign_34 I L)))
set_option maxHeartbeats 4000000 in
set_option maxRecDepth 100000 in
theorem l_X8_takeSign_34 {r : Int32 × zI} (C : zC p l e R s m args below meth c s0 a0 d cy B0 yX8_takeSign.cls cX8_takeSign 2 (some .boolean) bc bs bc bs 0 0 []) (I : zI) (L : zL) (h : f_X8_takeSign_34 I L = some r) : zG p l e R s m args below meth c d cy B0 2 bc bs (zQ below s args d cy B0 bc bs (.inl (some (.int r.1))) zSH zKn bc bs r.2 L) 34 [] [] zSH zKn bc bs I L := by
  unfold f_X8_takeSign_34 at h
  refine z_iconst C (v := 0) (by decide) dX8_takeSign_34 ?_
  obtain rfl := Option.some.inj h
  exact z_iret C dX8_takeSign_35 .boolean rfl rfl rfl
set_option maxHeartbeats 4000000 in
set_option maxRecDepth 100000 in
theorem c_X8_takeSign {r : Int32 × zI} (hE : zE0 l s0 a0 d cy B0) (a1 : Int32) (I : zI) (L : zL) (h : f_X8_takeSign a1 I L = some r) : zM l s0 d cy B0 yX8_takeSign cX8_takeSign 2 (some .boolean) 0 0 [.ref (B0 + 3), .int a1] zSH zKn bc bs I L (.inl (some (.int r.1))) zSH zKn bc bs r.2 L := by
  refine z_meth yy_X8_takeSign hE (Nat.le_of_ble_eq_true rfl) (fun p e R s m args below meth c C => ?_)
  show zG p l e R s m args below meth c d cy B0 2 bc bs (zQ below s args d cy B0 bc bs (.inl (some (.int r.1))) zSH zKn bc bs r.2 L) 0 [(0, .ref (B0 + 3)), (1, .int a1)] [] zSH zKn bc bs I L
  unfold f_X8_takeSign at h
  refine z_aload_n C rfl 0 rfl dX8_takeSign_0 ?_
  refine z_getr C zc_8 dX8_takeSign_1 2 3 4 rfl (by decide) (by decide) q_248 rfl rfl ?_
  refine z_getr C zc_10 dX8_takeSign_4 0 4 5 rfl (by decide) (by decide) q_148 rfl rfl ?_
  refine z_aload_n C rfl 0 rfl dX8_takeSign_7 ?_
  refine z_geti C zc_8 dX8_takeSign_8 4 3 rfl (by decide) (by decide) q_250 rfl ?_
  obtain ⟨x1, ex1, h⟩ := zlt_e h
  refine z_eqi C ex1 ?_
  obtain ⟨hb2, h⟩ := zck_e h
  refine z_iaload C dX8_takeSign_11 rfl rfl (by decide) (zbd_in hb2) ?_
  refine z_iconst C (v := 3) (by decide) dX8_takeSign_12 ?_
  refine z_icmp_ne C 34 (by decide) dX8_takeSign_13 (fun hc => ?_) (fun hc => ?_)
  · have h := zif_f hc h
    refine z_lv [] (lv' := []) rfl ?_
    exact l_X8_takeSign_34 C  I L h
  · have h := zif_t hc h
    refine z_aload_n C rfl 0 rfl dX8_takeSign_16 ?_
    refine z_getr C zc_8 dX8_takeSign_17 2 3 4 rfl (by decide) (by decide) q_248 rfl rfl ?_
    refine z_getr C zc_10 dX8_takeSign_20 1 4 6 rfl (by decide) (by decide) q_150 rfl rfl ?_
    refine z_aload_n C rfl 0 rfl dX8_takeSign_23 ?_
    refine z_geti C zc_8 dX8_takeSign_24 4 3 rfl (by decide) (by decide) q_250 rfl ?_
    obtain ⟨x3, ex3, h⟩ := zlt_e h
    refine z_eqi C ex3 ?_
    obtain ⟨hb4, h⟩ := zck_e h
    refine z_laload C dX8_takeSign_27 rfl rfl (by decide) (zbd_in hb4) ?_
    refine z_iload_n C rfl 1 rfl dX8_takeSign_28 ?_
    refine z_i2l C dX8_takeSign_29 ?_
    refine z_lif_eq C 36 (by decide) dX8_takeSign_30 dX8_takeSign_31 (fun hc => ?_) (fun hc => ?_)
    · have h := zif_t hc h
      refine z_aload_n C rfl 0 rfl dX8_takeSign_36 ?_
      refine z_dup C rfl dX8_takeSign_37 ?_
      refine z_geti C zc_8 dX8_takeSign_38 4 3 rfl (by decide) (by decide) q_250 rfl ?_
      refine z_iconst C (v := 1) (by decide) dX8_takeSign_41 ?_
      refine z_iadd C dX8_takeSign_42 ?_
      obtain ⟨x5, ex5, h⟩ := zlt_e h
      refine z_eqi C ex5 ?_
      refine z_puti C zc_8 dX8_takeSign_43 4 3 rfl (by decide) (by decide) rfl q_250 rfl rfl rfl ?_
      obtain ⟨I6, eI6, h⟩ := zlt_e h
      refine z_eqI C eI6 ?_
      refine z_iconst C (v := 1) (by decide) dX8_takeSign_46 ?_
      obtain rfl := Option.some.inj h
      exact z_iret C dX8_takeSign_47 .boolean rfl rfl rfl
    · have h := zif_f hc h
      refine z_lv [] (lv' := []) rfl ?_
      exact l_X8_takeSign_34 C  I L h
theorem q_247 : (Cond.fieldLink "DeviceFind$Reader" (15 : Nat) "DeviceFind$Reader" "inputs" "I") ∈ lw_tbl := List.mem_of_getElem? (i := 247) (by decide +kernel)
theorem q_631 : (Cond.code ({ cls := "DeviceFind$Reader", name := "takeInput", desc := "()I" } : Jvm.MethodName) prog_10_method_16_code (1 : Nat) (Option.some Jvm.ClassFile.FieldType.int)) ∈ lw_tbl := List.mem_of_getElem? (i := 631) (by decide +kernel)
theorem yy_X8_takeInput : zY yX8_takeInput cX8_takeInput 1 (some .int) 0 := ⟨q_631, q_78, by decide +kernel, by decide +kernel, by decide +kernel⟩
noncomputable def f_X8_takeInput_37 (I : zI) (L : zL) : Option (Int32 × zI) :=
  some ((-1 : Int32), I)
noncomputable def f_X8_takeInput (I : zI) (L : zL) : Option (Int32 × zI) :=
  zlt (I 3 4) (fun x1 => zck (zbd x1 801) (if (I 5 x1.toNatClampNeg) = (2 : Int32) then (zlt (I 3 4) (fun x3 => zck (zbd x3 801) (zlt ((I 3 1).toInt64) (fun x5 => if (L 6 x3.toNatClampNeg) < x5 then (zlt ((I 3 4) + (1 : Int32)) (fun x6 => zlt (zu I 3 4 x6) (fun I7 => zlt ((I7 3 4) - (1 : Int32)) (fun x8 => zck (zbd x8 801) (zlt ((L 6 x8.toNatClampNeg).toInt32) (fun x10 => some (x10, I7))))))) else (f_X8_takeInput_37 I L))))) else (f_X8_takeInput_37 I L)))
set_option maxHeartbeats 4000000 in
set_option maxRecDepth 100000 in
theorem l_X8_takeInput_37 {r : Int32 × zI} (C : zC p l e R s m args below meth c s0 a0 d cy B0 yX8_takeInput.cls cX8_takeInput 1 (some .int) bc bs bc bs 0 0 []) (I : zI) (L : zL) (h : f_X8_takeInput_37 I L = some r) : zG p l e R s m args below meth c d cy B0 1 bc bs (zQ below s args d cy B0 bc bs (.inl (some (.int r.1))) zSH zKn bc bs r.2 L) 37 [] [] zSH zKn bc bs I L := by
  unfold f_X8_takeInput_37 at h
  refine z_iconst C (v := -1) (by decide) dX8_takeInput_37 ?_
  obtain rfl := Option.some.inj h
  exact z_iret C dX8_takeInput_38 .int rfl rfl rfl
set_option maxHeartbeats 4000000 in
set_option maxRecDepth 100000 in
theorem c_X8_takeInput {r : Int32 × zI} (hE : zE0 l s0 a0 d cy B0) (I : zI) (L : zL) (h : f_X8_takeInput I L = some r) : zM l s0 d cy B0 yX8_takeInput cX8_takeInput 1 (some .int) 0 0 [.ref (B0 + 3)] zSH zKn bc bs I L (.inl (some (.int r.1))) zSH zKn bc bs r.2 L := by
  refine z_meth yy_X8_takeInput hE (Nat.le_of_ble_eq_true rfl) (fun p e R s m args below meth c C => ?_)
  show zG p l e R s m args below meth c d cy B0 1 bc bs (zQ below s args d cy B0 bc bs (.inl (some (.int r.1))) zSH zKn bc bs r.2 L) 0 [(0, .ref (B0 + 3))] [] zSH zKn bc bs I L
  unfold f_X8_takeInput at h
  refine z_aload_n C rfl 0 rfl dX8_takeInput_0 ?_
  refine z_getr C zc_8 dX8_takeInput_1 2 3 4 rfl (by decide) (by decide) q_248 rfl rfl ?_
  refine z_getr C zc_10 dX8_takeInput_4 0 4 5 rfl (by decide) (by decide) q_148 rfl rfl ?_
  refine z_aload_n C rfl 0 rfl dX8_takeInput_7 ?_
  refine z_geti C zc_8 dX8_takeInput_8 4 3 rfl (by decide) (by decide) q_250 rfl ?_
  obtain ⟨x1, ex1, h⟩ := zlt_e h
  refine z_eqi C ex1 ?_
  obtain ⟨hb2, h⟩ := zck_e h
  refine z_iaload C dX8_takeInput_11 rfl rfl (by decide) (zbd_in hb2) ?_
  refine z_iconst C (v := 2) (by decide) dX8_takeInput_12 ?_
  refine z_icmp_ne C 37 (by decide) dX8_takeInput_13 (fun hc => ?_) (fun hc => ?_)
  · have h := zif_f hc h
    refine z_lv [] (lv' := []) rfl ?_
    exact l_X8_takeInput_37 C  I L h
  · have h := zif_t hc h
    refine z_aload_n C rfl 0 rfl dX8_takeInput_16 ?_
    refine z_getr C zc_8 dX8_takeInput_17 2 3 4 rfl (by decide) (by decide) q_248 rfl rfl ?_
    refine z_getr C zc_10 dX8_takeInput_20 1 4 6 rfl (by decide) (by decide) q_150 rfl rfl ?_
    refine z_aload_n C rfl 0 rfl dX8_takeInput_23 ?_
    refine z_geti C zc_8 dX8_takeInput_24 4 3 rfl (by decide) (by decide) q_250 rfl ?_
    obtain ⟨x3, ex3, h⟩ := zlt_e h
    refine z_eqi C ex3 ?_
    obtain ⟨hb4, h⟩ := zck_e h
    refine z_laload C dX8_takeInput_27 rfl rfl (by decide) (zbd_in hb4) ?_
    refine z_aload_n C rfl 0 rfl dX8_takeInput_28 ?_
    refine z_geti C zc_8 dX8_takeInput_29 1 3 rfl (by decide) (by decide) q_247 rfl ?_
    refine z_i2l C dX8_takeInput_32 ?_
    obtain ⟨x5, ex5, h⟩ := zlt_e h
    refine z_eql C ex5 ?_
    refine z_lif_lt C 39 (by decide) dX8_takeInput_33 dX8_takeInput_34 (fun hc => ?_) (fun hc => ?_)
    · have h := zif_t hc h
      refine z_aload_n C rfl 0 rfl dX8_takeInput_39 ?_
      refine z_dup C rfl dX8_takeInput_40 ?_
      refine z_geti C zc_8 dX8_takeInput_41 4 3 rfl (by decide) (by decide) q_250 rfl ?_
      refine z_iconst C (v := 1) (by decide) dX8_takeInput_44 ?_
      refine z_iadd C dX8_takeInput_45 ?_
      obtain ⟨x6, ex6, h⟩ := zlt_e h
      refine z_eqi C ex6 ?_
      refine z_puti C zc_8 dX8_takeInput_46 4 3 rfl (by decide) (by decide) rfl q_250 rfl rfl rfl ?_
      obtain ⟨I7, eI7, h⟩ := zlt_e h
      refine z_eqI C eI7 ?_
      refine z_aload_n C rfl 0 rfl dX8_takeInput_49 ?_
      refine z_getr C zc_8 dX8_takeInput_50 2 3 4 rfl (by decide) (by decide) q_248 rfl rfl ?_
      refine z_getr C zc_10 dX8_takeInput_53 1 4 6 rfl (by decide) (by decide) q_150 rfl rfl ?_
      refine z_aload_n C rfl 0 rfl dX8_takeInput_56 ?_
      refine z_geti C zc_8 dX8_takeInput_57 4 3 rfl (by decide) (by decide) q_250 rfl ?_
      refine z_iconst C (v := 1) (by decide) dX8_takeInput_60 ?_
      refine z_isub C dX8_takeInput_61 ?_
      obtain ⟨x8, ex8, h⟩ := zlt_e h
      refine z_eqi C ex8 ?_
      obtain ⟨hb9, h⟩ := zck_e h
      refine z_laload C dX8_takeInput_62 rfl rfl (by decide) (zbd_in hb9) ?_
      refine z_l2i C dX8_takeInput_63 ?_
      obtain ⟨x10, ex10, h⟩ := zlt_e h
      refine z_eqi C ex10 ?_
      obtain rfl := Option.some.inj h
      exact z_iret C dX8_takeInput_64 .int rfl rfl rfl
    · have h := zif_f hc h
      refine z_lv [] (lv' := []) rfl ?_
      exact l_X8_takeInput_37 C  I L h
theorem q_5 : Cond.selects "DeviceFind$Reader" ⟨"DeviceFind$Reader", "takeNewLayer", "()J"⟩ ⟨"DeviceFind$Reader", "takeNewLayer", "()J"⟩ ∈ lw_tbl := List.mem_of_getElem? (i := 5) (by decide +kernel)
theorem q_6 : Cond.selects "DeviceFind$Reader" ⟨"DeviceFind$Reader", "takeSign", "(C)Z"⟩ ⟨"DeviceFind$Reader", "takeSign", "(C)Z"⟩ ∈ lw_tbl := List.mem_of_getElem? (i := 6) (by decide +kernel)
theorem q_7 : Cond.selects "DeviceFind$Reader" ⟨"DeviceFind$Reader", "takeInput", "()I"⟩ ⟨"DeviceFind$Reader", "takeInput", "()I"⟩ ∈ lw_tbl := List.mem_of_getElem? (i := 7) (by decide +kernel)
theorem q_614 : (Cond.code ({ cls := "DeviceFind$Reader", name := "takeInputSentence", desc := "()Z" } : Jvm.MethodName) prog_10_method_6_code (4 : Nat) (Option.some Jvm.ClassFile.FieldType.boolean)) ∈ lw_tbl := List.mem_of_getElem? (i := 614) (by decide +kernel)
theorem q_615 : (Cond.methodLink "DeviceFind$Reader" (95 : Nat) ({ cls := "DeviceFind$Reader", name := "takeNewLayer", desc := "()J" } : Jvm.MethodName)) ∈ lw_tbl := List.mem_of_getElem? (i := 615) (by decide +kernel)
theorem q_617 : (Cond.instanceMethod ({ cls := "DeviceFind$Reader", name := "takeNewLayer", desc := "()J" } : Jvm.MethodName)) ∈ lw_tbl := List.mem_of_getElem? (i := 617) (by decide +kernel)
theorem q_624 : (Cond.methodLink "DeviceFind$Reader" (101 : Nat) ({ cls := "DeviceFind$Reader", name := "takeSign", desc := "(C)Z" } : Jvm.MethodName)) ∈ lw_tbl := List.mem_of_getElem? (i := 624) (by decide +kernel)
theorem q_626 : (Cond.instanceMethod ({ cls := "DeviceFind$Reader", name := "takeSign", desc := "(C)Z" } : Jvm.MethodName)) ∈ lw_tbl := List.mem_of_getElem? (i := 626) (by decide +kernel)
theorem q_628 : (Cond.methodLink "DeviceFind$Reader" (105 : Nat) ({ cls := "DeviceFind$Reader", name := "takeInput", desc := "()I" } : Jvm.MethodName)) ∈ lw_tbl := List.mem_of_getElem? (i := 628) (by decide +kernel)
theorem q_630 : (Cond.instanceMethod ({ cls := "DeviceFind$Reader", name := "takeInput", desc := "()I" } : Jvm.MethodName)) ∈ lw_tbl := List.mem_of_getElem? (i := 630) (by decide +kernel)
theorem q_632 : (Cond.methodLink "DeviceFind$Reader" (109 : Nat) ({ cls := "DeviceFind$Plan", name := "addLayer", desc := "(JIII)V" } : Jvm.MethodName)) ∈ lw_tbl := List.mem_of_getElem? (i := 632) (by decide +kernel)
theorem q_633 : (Cond.instanceMethod ({ cls := "DeviceFind$Plan", name := "addLayer", desc := "(JIII)V" } : Jvm.MethodName)) ∈ lw_tbl := List.mem_of_getElem? (i := 633) (by decide +kernel)
theorem q_634 : (Cond.selects "DeviceFind$Plan" ({ cls := "DeviceFind$Plan", name := "addLayer", desc := "(JIII)V" } : Jvm.MethodName) ({ cls := "DeviceFind$Plan", name := "addLayer", desc := "(JIII)V" } : Jvm.MethodName)) ∈ lw_tbl := List.mem_of_getElem? (i := 634) (by decide +kernel)
theorem yy_X8_takeInputSentence : zY yX8_takeInputSentence cX8_takeInputSentence 4 (some .boolean) 0 := ⟨q_614, q_78, by decide +kernel, by decide +kernel, by decide +kernel⟩
noncomputable def f_X8_takeInputSentence_32 (Q : Nat) (I : zI) (L : zL) : Option (Int32 × zI × zL) :=
  some ((0 : Int32), I, L)
noncomputable def f_X8_takeInputSentence_53 (Q : Nat) (I : zI) (L : zL) : Option (Int32 × zI × zL) :=
  some ((0 : Int32), I, L)
noncomputable def f_X8_takeInputSentence (Q : Nat) (I : zI) (L : zL) : Option (Int32 × zI × zL) :=
  zlt ((I 3 4) + (1 : Int32)) (fun x1 => zlt (zu I 3 4 x1) (fun I2 => zb2 (f_X8_takeNewLayer Q I2 L) (fun x4 I5 => if x4 = (-1 : Int64) then (f_X8_takeInputSentence_32 Q I5 L) else (zb2 (f_X8_takeSign (61 : Int32) I5 L) (fun x7 I8 => if x7 = 0 then (f_X8_takeInputSentence_32 Q I8 L) else (zb2 (f_X8_takeInput I8 L) (fun x10 I11 => if x10 = (-1 : Int32) then (f_X8_takeInputSentence_53 Q I11 L) else (zb2 (f_X8_takeSign (59 : Int32) I11 L) (fun x13 I14 => if x13 = 0 then (f_X8_takeInputSentence_53 Q I14 L) else (zck (decide (I14 3 3 = nI (Q + 1))) (zb2 (f_X7_addLayer Q x4 (0 : Int32) x10 (-1 : Int32) I14 L) (fun I17 L18 => some ((1 : Int32), I17, L18)))))))))))))
set_option maxHeartbeats 4000000 in
set_option maxRecDepth 100000 in
theorem l_X8_takeInputSentence_32 {r : Int32 × zI × zL} (C : zC p l e R s m args below meth c s0 a0 d cy B0 yX8_takeInputSentence.cls cX8_takeInputSentence 4 (some .boolean) bc bs bc bs 2 43 []) {Q : Nat} (hQ : zpl Q) (I : zI) (L : zL) (h : f_X8_takeInputSentence_32 Q I L = some r) : zG p l e R s m args below meth c d cy B0 4 bc bs (zQ below s args d cy B0 bc bs (.inl (some (.int r.1))) zSH zKn bc bs r.2.1 r.2.2) 32 [] [] zSH zKn bc bs I L := by
  unfold f_X8_takeInputSentence_32 at h
  refine z_iconst C (v := 0) (by decide) dX8_takeInputSentence_32 ?_
  obtain rfl := Option.some.inj h
  exact z_iret C dX8_takeInputSentence_33 .boolean rfl rfl rfl
set_option maxHeartbeats 4000000 in
set_option maxRecDepth 100000 in
theorem l_X8_takeInputSentence_53 {r : Int32 × zI × zL} (C : zC p l e R s m args below meth c s0 a0 d cy B0 yX8_takeInputSentence.cls cX8_takeInputSentence 4 (some .boolean) bc bs bc bs 2 43 []) {Q : Nat} (hQ : zpl Q) (I : zI) (L : zL) (h : f_X8_takeInputSentence_53 Q I L = some r) : zG p l e R s m args below meth c d cy B0 4 bc bs (zQ below s args d cy B0 bc bs (.inl (some (.int r.1))) zSH zKn bc bs r.2.1 r.2.2) 53 [] [] zSH zKn bc bs I L := by
  unfold f_X8_takeInputSentence_53 at h
  refine z_iconst C (v := 0) (by decide) dX8_takeInputSentence_53 ?_
  obtain rfl := Option.some.inj h
  exact z_iret C dX8_takeInputSentence_54 .boolean rfl rfl rfl
set_option maxHeartbeats 4000000 in
set_option maxRecDepth 100000 in
theorem c_X8_takeInputSentence {r : Int32 × zI × zL} (hE : zE0 l s0 a0 d cy B0) {Q : Nat} (hQ : zpl Q) (I : zI) (L : zL) (h : f_X8_takeInputSentence Q I L = some r) : zM l s0 d cy B0 yX8_takeInputSentence cX8_takeInputSentence 4 (some .boolean) 2 43 [.ref (B0 + 3)] zSH zKn bc bs I L (.inl (some (.int r.1))) zSH zKn bc bs r.2.1 r.2.2 := by
  refine z_meth yy_X8_takeInputSentence hE (Nat.le_of_ble_eq_true rfl) (fun p e R s m args below meth c C => ?_)
  show zG p l e R s m args below meth c d cy B0 4 bc bs (zQ below s args d cy B0 bc bs (.inl (some (.int r.1))) zSH zKn bc bs r.2.1 r.2.2) 0 [(0, .ref (B0 + 3))] [] zSH zKn bc bs I L
  unfold f_X8_takeInputSentence at h
  refine z_aload_n C rfl 0 rfl dX8_takeInputSentence_0 ?_
  refine z_dup C rfl dX8_takeInputSentence_1 ?_
  refine z_geti C zc_8 dX8_takeInputSentence_2 4 3 rfl (by decide) (by decide) q_250 rfl ?_
  refine z_iconst C (v := 1) (by decide) dX8_takeInputSentence_5 ?_
  refine z_iadd C dX8_takeInputSentence_6 ?_
  obtain ⟨x1, ex1, h⟩ := zlt_e h
  refine z_eqi C ex1 ?_
  refine z_puti C zc_8 dX8_takeInputSentence_7 4 3 rfl (by decide) (by decide) rfl q_250 rfl rfl rfl ?_
  obtain ⟨I2, eI2, h⟩ := zlt_e h
  refine z_eqI C eI2 ?_
  refine z_aload_n C rfl 0 rfl dX8_takeInputSentence_10 ?_
  obtain ⟨x4, I5, hg3, h⟩ := zb2_e h
  refine z_callV C zc_8 rfl (by decide) dX8_takeInputSentence_11 yy_X8_takeNewLayer (c_X8_takeNewLayer C.2.2.2.2.1 hQ I2 L hg3) q_615 q_617 q_5 (by decide) (by decide) rfl rfl (Nat.le_of_ble_eq_true rfl) ⟨Nat.le_refl _, Nat.le_refl _, Nat.le_refl _, Nat.le_refl _⟩ ?_
  refine z_lstore_n C (lv' := [(1, .long x4), (0, .ref (B0 + 3))]) rfl (by decide) rfl dX8_takeInputSentence_14 ?_
  refine z_lload_n C rfl 0 rfl dX8_takeInputSentence_15 ?_
  refine z_ldc2 C dX8_takeInputSentence_16 q_623 ?_
  refine z_lif_eq C 32 (by decide) dX8_takeInputSentence_19 dX8_takeInputSentence_20 (fun hc => ?_) (fun hc => ?_)
  · have h := zif_t hc h
    refine z_lv [] (lv' := []) rfl ?_
    exact l_X8_takeInputSentence_32 C hQ I5 L h
  · have h := zif_f hc h
    refine z_aload_n C rfl 1 rfl dX8_takeInputSentence_23 ?_
    refine z_bipush C (v := 61) (by decide) dX8_takeInputSentence_24 ?_
    obtain ⟨x7, I8, hg6, h⟩ := zb2_e h
    refine z_callV C zc_8 rfl (by decide) dX8_takeInputSentence_26 yy_X8_takeSign (c_X8_takeSign C.2.2.2.2.1  (61 : Int32) I5 L hg6) q_624 q_626 q_6 (by decide) (by decide) rfl rfl (Nat.le_of_ble_eq_true rfl) ⟨Nat.le_refl _, Nat.le_refl _, Nat.le_refl _, Nat.le_refl _⟩ ?_
    refine z_if_ne C 34 (by decide) dX8_takeInputSentence_29 (fun hc => ?_) (fun hc => ?_)
    · have h := zif_f hc h
      refine z_aload_n C rfl 1 rfl dX8_takeInputSentence_34 ?_
      obtain ⟨x10, I11, hg9, h⟩ := zb2_e h
      refine z_callV C zc_8 rfl (by decide) dX8_takeInputSentence_35 yy_X8_takeInput (c_X8_takeInput C.2.2.2.2.1  I8 L hg9) q_628 q_630 q_7 (by decide) (by decide) rfl rfl (Nat.le_of_ble_eq_true rfl) ⟨Nat.le_refl _, Nat.le_refl _, Nat.le_refl _, Nat.le_refl _⟩ ?_
      refine z_istore_n C (lv' := [(3, .int x10), (1, .long x4), (0, .ref (B0 + 3))]) rfl (by decide) rfl dX8_takeInputSentence_38 ?_
      refine z_iload_n C rfl 0 rfl dX8_takeInputSentence_39 ?_
      refine z_iconst C (v := -1) (by decide) dX8_takeInputSentence_40 ?_
      refine z_icmp_eq C 53 (by decide) dX8_takeInputSentence_41 (fun hc => ?_) (fun hc => ?_)
      · have h := zif_t hc h
        refine z_lv [] (lv' := []) rfl ?_
        exact l_X8_takeInputSentence_53 C hQ I11 L h
      · have h := zif_f hc h
        refine z_aload_n C rfl 2 rfl dX8_takeInputSentence_44 ?_
        refine z_bipush C (v := 59) (by decide) dX8_takeInputSentence_45 ?_
        obtain ⟨x13, I14, hg12, h⟩ := zb2_e h
        refine z_callV C zc_8 rfl (by decide) dX8_takeInputSentence_47 yy_X8_takeSign (c_X8_takeSign C.2.2.2.2.1  (59 : Int32) I11 L hg12) q_624 q_626 q_6 (by decide) (by decide) rfl rfl (Nat.le_of_ble_eq_true rfl) ⟨Nat.le_refl _, Nat.le_refl _, Nat.le_refl _, Nat.le_refl _⟩ ?_
        refine z_if_ne C 55 (by decide) dX8_takeInputSentence_50 (fun hc => ?_) (fun hc => ?_)
        · have h := zif_f hc h
          refine z_aload_n C rfl 2 rfl dX8_takeInputSentence_55 ?_
          obtain ⟨hb15, h⟩ := zck_e h
          refine z_getm C zc_8 dX8_takeInputSentence_56 3 3 Q rfl (by decide) (by decide) q_249 rfl (of_decide_eq_true hb15) (zpl_lt2 hQ) ?_
          refine z_lload_n C rfl 1 rfl dX8_takeInputSentence_59 ?_
          refine z_iconst C (v := 0) (by decide) dX8_takeInputSentence_60 ?_
          refine z_iload_n C rfl 0 rfl dX8_takeInputSentence_61 ?_
          refine z_iconst C (v := -1) (by decide) dX8_takeInputSentence_62 ?_
          obtain ⟨I17, L18, hg16, h⟩ := zb2_e h
          refine z_callV C zc_7 (zpl_k hQ) (zpl_lt hQ) dX8_takeInputSentence_63 yy_X7_addLayer (c_X7_addLayer C.2.2.2.2.1 hQ x4 (0 : Int32) x10 (-1 : Int32) I14 L hg16) q_632 q_633 q_634 (by decide) (by decide) rfl rfl (Nat.le_of_ble_eq_true rfl) ⟨Nat.le_refl _, Nat.le_refl _, Nat.le_refl _, Nat.le_refl _⟩ ?_
          refine z_iconst C (v := 1) (by decide) dX8_takeInputSentence_66 ?_
          obtain rfl := Option.some.inj h
          exact z_iret C dX8_takeInputSentence_67 .boolean rfl rfl rfl
        · have h := zif_t hc h
          refine z_lv [] (lv' := []) rfl ?_
          exact l_X8_takeInputSentence_53 C hQ I14 L h
    · have h := zif_t hc h
      refine z_lv [] (lv' := []) rfl ?_
      exact l_X8_takeInputSentence_32 C hQ I8 L h
theorem q_648 : (Cond.code ({ cls := "DeviceFind$Reader", name := "layerAtHand", desc := "()I" } : Jvm.MethodName) prog_10_method_21_code (1 : Nat) (Option.some Jvm.ClassFile.FieldType.int)) ∈ lw_tbl := List.mem_of_getElem? (i := 648) (by decide +kernel)
theorem yy_X8_layerAtHand : zY yX8_layerAtHand cX8_layerAtHand 1 (some .int) 0 := ⟨q_648, q_78, by decide +kernel, by decide +kernel, by decide +kernel⟩
noncomputable def f_X8_layerAtHand_39 (Q : Nat) (w0 : Int32) (I : zI) (L : zL) : Option Int32 :=
  some w0
noncomputable def f_X8_layerAtHand (Q : Nat) (I : zI) (L : zL) : Option Int32 :=
  zlt (I 3 4) (fun x1 => zck (zbd x1 801) (if (I 5 x1.toNatClampNeg) = (1 : Int32) then (zck (decide (I 3 3 = nI (Q + 1))) (zlt (I 3 4) (fun x4 => zck (zbd x4 801) (zb1 (f_X7_layerNamed Q (L 6 x4.toNatClampNeg) I L) (fun x7 => f_X8_layerAtHand_39 Q x7 I L))))) else (f_X8_layerAtHand_39 Q (-1 : Int32) I L)))
set_option maxHeartbeats 4000000 in
set_option maxRecDepth 100000 in
theorem l_X8_layerAtHand_39 {r : Int32} (C : zC p l e R s m args below meth c s0 a0 d cy B0 yX8_layerAtHand.cls cX8_layerAtHand 1 (some .int) bc bs bc bs 1 23 []) {Q : Nat} (hQ : zpl Q) (w0 : Int32) (I : zI) (L : zL) (h : f_X8_layerAtHand_39 Q w0 I L = some r) : zG p l e R s m args below meth c d cy B0 1 bc bs (zQ below s args d cy B0 bc bs (.inl (some (.int r))) zSH zKn bc bs I L) 39 [] [.int w0] zSH zKn bc bs I L := by
  unfold f_X8_layerAtHand_39 at h
  obtain rfl := Option.some.inj h
  exact z_iret C dX8_layerAtHand_39 .int rfl rfl rfl
set_option maxHeartbeats 4000000 in
set_option maxRecDepth 100000 in
theorem c_X8_layerAtHand {r : Int32} (hE : zE0 l s0 a0 d cy B0) {Q : Nat} (hQ : zpl Q) (I : zI) (L : zL) (h : f_X8_layerAtHand Q I L = some r) : zM l s0 d cy B0 yX8_layerAtHand cX8_layerAtHand 1 (some .int) 1 23 [.ref (B0 + 3)] zSH zKn bc bs I L (.inl (some (.int r))) zSH zKn bc bs I L := by
  refine z_meth yy_X8_layerAtHand hE (Nat.le_of_ble_eq_true rfl) (fun p e R s m args below meth c C => ?_)
  show zG p l e R s m args below meth c d cy B0 1 bc bs (zQ below s args d cy B0 bc bs (.inl (some (.int r))) zSH zKn bc bs I L) 0 [(0, .ref (B0 + 3))] [] zSH zKn bc bs I L
  unfold f_X8_layerAtHand at h
  refine z_aload_n C rfl 0 rfl dX8_layerAtHand_0 ?_
  refine z_getr C zc_8 dX8_layerAtHand_1 2 3 4 rfl (by decide) (by decide) q_248 rfl rfl ?_
  refine z_getr C zc_10 dX8_layerAtHand_4 0 4 5 rfl (by decide) (by decide) q_148 rfl rfl ?_
  refine z_aload_n C rfl 0 rfl dX8_layerAtHand_7 ?_
  refine z_geti C zc_8 dX8_layerAtHand_8 4 3 rfl (by decide) (by decide) q_250 rfl ?_
  obtain ⟨x1, ex1, h⟩ := zlt_e h
  refine z_eqi C ex1 ?_
  obtain ⟨hb2, h⟩ := zck_e h
  refine z_iaload C dX8_layerAtHand_11 rfl rfl (by decide) (zbd_in hb2) ?_
  refine z_iconst C (v := 1) (by decide) dX8_layerAtHand_12 ?_
  refine z_icmp_ne C 38 (by decide) dX8_layerAtHand_13 (fun hc => ?_) (fun hc => ?_)
  · have h := zif_f hc h
    refine z_iconst C (v := -1) (by decide) dX8_layerAtHand_38 ?_
    refine z_lv [] (lv' := []) rfl ?_
    exact l_X8_layerAtHand_39 C hQ (-1 : Int32) I L h
  · have h := zif_t hc h
    refine z_aload_n C rfl 0 rfl dX8_layerAtHand_16 ?_
    obtain ⟨hb3, h⟩ := zck_e h
    refine z_getm C zc_8 dX8_layerAtHand_17 3 3 Q rfl (by decide) (by decide) q_249 rfl (of_decide_eq_true hb3) (zpl_lt2 hQ) ?_
    refine z_aload_n C rfl 0 rfl dX8_layerAtHand_20 ?_
    refine z_getr C zc_8 dX8_layerAtHand_21 2 3 4 rfl (by decide) (by decide) q_248 rfl rfl ?_
    refine z_getr C zc_10 dX8_layerAtHand_24 1 4 6 rfl (by decide) (by decide) q_150 rfl rfl ?_
    refine z_aload_n C rfl 0 rfl dX8_layerAtHand_27 ?_
    refine z_geti C zc_8 dX8_layerAtHand_28 4 3 rfl (by decide) (by decide) q_250 rfl ?_
    obtain ⟨x4, ex4, h⟩ := zlt_e h
    refine z_eqi C ex4 ?_
    obtain ⟨hb5, h⟩ := zck_e h
    refine z_laload C dX8_layerAtHand_31 rfl rfl (by decide) (zbd_in hb5) ?_
    obtain ⟨x7, hg6, h⟩ := zb1_e h
    refine z_callV C zc_7 (zpl_k hQ) (zpl_lt hQ) dX8_layerAtHand_32 yy_X7_layerNamed (c_X7_layerNamed C.2.2.2.2.1 hQ (L 6 x4.toNatClampNeg) I L hg6) q_619 q_620 q_621 (by decide) (by decide) rfl rfl (Nat.le_of_ble_eq_true rfl) ⟨Nat.le_refl _, Nat.le_refl _, Nat.le_refl _, Nat.le_refl _⟩ ?_
    refine z_goto C 39 (by decide) dX8_layerAtHand_35 ?_
    refine z_lv [] (lv' := []) rfl ?_
    exact l_X8_layerAtHand_39 C hQ x7 I L h
theorem q_10 : Cond.selects "DeviceFind$Reader" ⟨"DeviceFind$Reader", "layerAtHand", "()I"⟩ ⟨"DeviceFind$Reader", "layerAtHand", "()I"⟩ ∈ lw_tbl := List.mem_of_getElem? (i := 10) (by decide +kernel)
theorem q_644 : (Cond.code ({ cls := "DeviceFind$Reader", name := "takeLayer", desc := "()I" } : Jvm.MethodName) prog_10_method_14_code (2 : Nat) (Option.some Jvm.ClassFile.FieldType.int)) ∈ lw_tbl := List.mem_of_getElem? (i := 644) (by decide +kernel)
theorem q_645 : (Cond.methodLink "DeviceFind$Reader" (119 : Nat) ({ cls := "DeviceFind$Reader", name := "layerAtHand", desc := "()I" } : Jvm.MethodName)) ∈ lw_tbl := List.mem_of_getElem? (i := 645) (by decide +kernel)
theorem q_647 : (Cond.instanceMethod ({ cls := "DeviceFind$Reader", name := "layerAtHand", desc := "()I" } : Jvm.MethodName)) ∈ lw_tbl := List.mem_of_getElem? (i := 647) (by decide +kernel)
theorem yy_X8_takeLayer : zY yX8_takeLayer cX8_takeLayer 2 (some .int) 0 := ⟨q_644, q_78, by decide +kernel, by decide +kernel, by decide +kernel⟩
noncomputable def f_X8_takeLayer_20 (Q : Nat) (v1 : Int32) (I : zI) (L : zL) : Option (Int32 × zI) :=
  some (v1, I)
noncomputable def f_X8_takeLayer (Q : Nat) (I : zI) (L : zL) : Option (Int32 × zI) :=
  zb1 (f_X8_layerAtHand Q I L) (fun x2 => if x2 = (-1 : Int32) then (f_X8_takeLayer_20 Q x2 I L) else (zlt ((I 3 4) + (1 : Int32)) (fun x3 => zlt (zu I 3 4 x3) (fun I4 => f_X8_takeLayer_20 Q x2 I4 L))))
set_option maxHeartbeats 4000000 in
set_option maxRecDepth 100000 in
theorem l_X8_takeLayer_20 {r : Int32 × zI} (C : zC p l e R s m args below meth c s0 a0 d cy B0 yX8_takeLayer.cls cX8_takeLayer 2 (some .int) bc bs bc bs 2 43 []) {Q : Nat} (hQ : zpl Q) (v1 : Int32) (I : zI) (L : zL) (h : f_X8_takeLayer_20 Q v1 I L = some r) : zG p l e R s m args below meth c d cy B0 2 bc bs (zQ below s args d cy B0 bc bs (.inl (some (.int r.1))) zSH zKn bc bs r.2 L) 20 [(1, .int v1)] [] zSH zKn bc bs I L := by
  unfold f_X8_takeLayer_20 at h
  refine z_iload_n C rfl 0 rfl dX8_takeLayer_20 ?_
  obtain rfl := Option.some.inj h
  exact z_iret C dX8_takeLayer_21 .int rfl rfl rfl
set_option maxHeartbeats 4000000 in
set_option maxRecDepth 100000 in
theorem c_X8_takeLayer {r : Int32 × zI} (hE : zE0 l s0 a0 d cy B0) {Q : Nat} (hQ : zpl Q) (I : zI) (L : zL) (h : f_X8_takeLayer Q I L = some r) : zM l s0 d cy B0 yX8_takeLayer cX8_takeLayer 2 (some .int) 2 43 [.ref (B0 + 3)] zSH zKn bc bs I L (.inl (some (.int r.1))) zSH zKn bc bs r.2 L := by
  refine z_meth yy_X8_takeLayer hE (Nat.le_of_ble_eq_true rfl) (fun p e R s m args below meth c C => ?_)
  show zG p l e R s m args below meth c d cy B0 2 bc bs (zQ below s args d cy B0 bc bs (.inl (some (.int r.1))) zSH zKn bc bs r.2 L) 0 [(0, .ref (B0 + 3))] [] zSH zKn bc bs I L
  unfold f_X8_takeLayer at h
  refine z_aload_n C rfl 0 rfl dX8_takeLayer_0 ?_
  obtain ⟨x2, hg1, h⟩ := zb1_e h
  refine z_callV C zc_8 rfl (by decide) dX8_takeLayer_1 yy_X8_layerAtHand (c_X8_layerAtHand C.2.2.2.2.1 hQ I L hg1) q_645 q_647 q_10 (by decide) (by decide) rfl rfl (Nat.le_of_ble_eq_true rfl) ⟨Nat.le_refl _, Nat.le_refl _, Nat.le_refl _, Nat.le_refl _⟩ ?_
  refine z_istore_n C (lv' := [(1, .int x2), (0, .ref (B0 + 3))]) rfl (by decide) rfl dX8_takeLayer_4 ?_
  refine z_iload_n C rfl 0 rfl dX8_takeLayer_5 ?_
  refine z_iconst C (v := -1) (by decide) dX8_takeLayer_6 ?_
  refine z_icmp_eq C 20 (by decide) dX8_takeLayer_7 (fun hc => ?_) (fun hc => ?_)
  · have h := zif_t hc h
    refine z_lv [0] (lv' := [(1, .int x2)]) rfl ?_
    exact l_X8_takeLayer_20 C hQ x2 I L h
  · have h := zif_f hc h
    refine z_aload_n C rfl 1 rfl dX8_takeLayer_10 ?_
    refine z_dup C rfl dX8_takeLayer_11 ?_
    refine z_geti C zc_8 dX8_takeLayer_12 4 3 rfl (by decide) (by decide) q_250 rfl ?_
    refine z_iconst C (v := 1) (by decide) dX8_takeLayer_15 ?_
    refine z_iadd C dX8_takeLayer_16 ?_
    obtain ⟨x3, ex3, h⟩ := zlt_e h
    refine z_eqi C ex3 ?_
    refine z_puti C zc_8 dX8_takeLayer_17 4 3 rfl (by decide) (by decide) rfl q_250 rfl rfl rfl ?_
    obtain ⟨I4, eI4, h⟩ := zlt_e h
    refine z_eqI C eI4 ?_
    refine z_lv [0] (lv' := [(1, .int x2)]) rfl ?_
    exact l_X8_takeLayer_20 C hQ x2 I4 L h
end Zp05_07_walk
