section Zp05_11_walk
variable {p : Program} {l : Launch} {e : Env} {R : Room} {s : State} {m : MethodId} {args : Array Value} {below : List Frame} {meth : Method} {c : Code} {s0 : State} {a0 : Array Value} {d : va_G} {cy : Nat → ClassId} {B0 : Nat} {bc bs : Nat}
theorem q_51 : Cond.selects "DeviceFindModel" ⟨"DeviceFindModel", "is", "(I)Z"⟩ ⟨"DeviceFindModel", "is", "(I)Z"⟩ ∈ lw_tbl := List.mem_of_getElem? (i := 51) (by decide +kernel)
theorem q_1411 : (Cond.code ({ cls := "DeviceFindModel", name := "takeNew", desc := "()V" } : Jvm.MethodName) prog_14_method_22_code (3 : Nat) (Option.none : Option Jvm.ClassFile.FieldType)) ∈ lw_tbl := List.mem_of_getElem? (i := 1411) (by decide +kernel)
theorem q_1416 : (Cond.methodLink "DeviceFindModel" (193 : Nat) ({ cls := "DeviceFindModel", name := "is", desc := "(I)Z" } : Jvm.MethodName)) ∈ lw_tbl := List.mem_of_getElem? (i := 1416) (by decide +kernel)
theorem q_1418 : (Cond.instanceMethod ({ cls := "DeviceFindModel", name := "is", desc := "(I)Z" } : Jvm.MethodName)) ∈ lw_tbl := List.mem_of_getElem? (i := 1418) (by decide +kernel)
theorem yy_X12_takeNew : zY yX12_takeNew cX12_takeNew 3 none 0 := ⟨q_1411, q_88, by decide +kernel, by decide +kernel, by decide +kernel⟩
def f_X12_takeNew_48 (I : zI) (L : zL) : Option (zI × zL) :=
  zb1 (f_X12_is (61 : Int32) I) (fun x11 => zb1 (f_X12_take x11 I) (fun I13 => some (I13, L)))
def f_X12_takeNew_25 (v1 : Int64) (w1 : Int32) (I : zI) (L : zL) : Option (zI × zL) :=
  zb1 (f_X12_take w1 I) (fun I6 => if (I6 97 49) = 0 then (f_X12_takeNew_48 I6 L) else (zlt ((24 : Int32) + (I6 97 50)) (fun x7 => zck (zbd x7 48) (zlt (zul L 105 x7.toNatClampNeg v1) (fun L9 => f_X12_takeNew_48 I6 L9)))))
def f_X12_takeNew_24 (v1 : Int64) (I : zI) (L : zL) : Option (zI × zL) :=
  f_X12_takeNew_25 v1 (0 : Int32) I L
def f_X12_takeNew (I : zI) (L : zL) : Option (zI × zL) :=
  zb1 (f_X12_name I) (fun x2 => if x2 ≤ (0 : Int64) then (f_X12_takeNew_24 x2 I L) else (zb1 (f_X12_layerAt I L) (fun x4 => if x4 = (-1 : Int32) then (f_X12_takeNew_25 x2 (1 : Int32) I L) else (f_X12_takeNew_24 x2 I L))))
set_option maxHeartbeats 4000000 in
set_option maxRecDepth 100000 in
theorem l_X12_takeNew_48 {r : zI × zL} (C : zC p l e R s m args below meth c s0 a0 d cy B0 yX12_takeNew.cls cX12_takeNew 3 none bc bs bc bs 3 67 []) (I : zI) (L : zL) (h : f_X12_takeNew_48 I L = some r) : zG p l e R s m args below meth c d cy B0 3 bc bs (zQ below s args d cy B0 bc bs (.inl none) zSH zKn bc bs r.1 r.2) 48 [(0, .ref (B0 + 97))] [] zSH zKn bc bs I L := by
  unfold f_X12_takeNew_48 at h
  refine z_aload_n C rfl 0 rfl dX12_takeNew_48 ?_
  refine z_aload_n C rfl 0 rfl dX12_takeNew_49 ?_
  refine z_bipush C (v := 61) (by decide) dX12_takeNew_50 ?_
  obtain ⟨x11, hg10, h⟩ := zb1_e h
  refine z_callV C zc_12 rfl (by decide) dX12_takeNew_52 yy_X12_is (c_X12_is C.2.2.2.2.1  (61 : Int32) I L hg10) q_1416 q_1418 q_51 (by decide) (by decide) rfl rfl (Nat.le_of_ble_eq_true rfl) ⟨Nat.le_refl _, Nat.le_refl _, Nat.le_refl _, Nat.le_refl _⟩ ?_
  obtain ⟨I13, hg12, h⟩ := zb1_e h
  refine z_callV C zc_12 rfl (by decide) dX12_takeNew_55 yy_X12_take (c_X12_take C.2.2.2.2.1  x11 I L hg12) q_1404 q_1406 q_48 (by decide) (by decide) rfl rfl (Nat.le_of_ble_eq_true rfl) ⟨Nat.le_refl _, Nat.le_refl _, Nat.le_refl _, Nat.le_refl _⟩ ?_
  obtain rfl := Option.some.inj h
  exact z_vret C dX12_takeNew_58 rfl rfl
set_option maxHeartbeats 4000000 in
set_option maxRecDepth 100000 in
theorem l_X12_takeNew_25 {r : zI × zL} (C : zC p l e R s m args below meth c s0 a0 d cy B0 yX12_takeNew.cls cX12_takeNew 3 none bc bs bc bs 3 67 []) (v1 : Int64) (w1 : Int32) (I : zI) (L : zL) (h : f_X12_takeNew_25 v1 w1 I L = some r) : zG p l e R s m args below meth c d cy B0 3 bc bs (zQ below s args d cy B0 bc bs (.inl none) zSH zKn bc bs r.1 r.2) 25 [(0, .ref (B0 + 97)), (1, .long v1)] [.int w1, .ref (B0 + 97)] zSH zKn bc bs I L := by
  unfold f_X12_takeNew_25 at h
  obtain ⟨I6, hg5, h⟩ := zb1_e h
  refine z_callV C zc_12 rfl (by decide) dX12_takeNew_25 yy_X12_take (c_X12_take C.2.2.2.2.1  w1 I L hg5) q_1404 q_1406 q_48 (by decide) (by decide) rfl rfl (Nat.le_of_ble_eq_true rfl) ⟨Nat.le_refl _, Nat.le_refl _, Nat.le_refl _, Nat.le_refl _⟩ ?_
  refine z_aload_n C rfl 0 rfl dX12_takeNew_28 ?_
  refine z_geti C zc_12 dX12_takeNew_29 49 97 rfl (by decide) (by decide) q_1218 rfl ?_
  refine z_if_eq C 48 (by decide) dX12_takeNew_32 (fun hc => ?_) (fun hc => ?_)
  · have h := zif_t hc h
    refine z_lv [0] (lv' := [(0, .ref (B0 + 97))]) rfl ?_
    exact l_X12_takeNew_48 C  I6 L h
  · have h := zif_f hc h
    refine z_aload_n C rfl 0 rfl dX12_takeNew_35 ?_
    refine z_getr C zc_12 dX12_takeNew_36 16 97 105 rfl (by decide) (by decide) q_1185 rfl rfl ?_
    refine z_bipush C (v := 24) (by decide) dX12_takeNew_39 ?_
    refine z_aload_n C rfl 0 rfl dX12_takeNew_41 ?_
    refine z_geti C zc_12 dX12_takeNew_42 50 97 rfl (by decide) (by decide) q_1219 rfl ?_
    refine z_iadd C dX12_takeNew_45 ?_
    obtain ⟨x7, ex7, h⟩ := zlt_e h
    refine z_eqi C ex7 ?_
    refine z_lload_n C rfl 1 rfl dX12_takeNew_46 ?_
    obtain ⟨hb8, h⟩ := zck_e h
    refine z_lastore C dX12_takeNew_47 rfl rfl (by decide) (zbd_in hb8) ?_
    obtain ⟨L9, eL9, h⟩ := zlt_e h
    refine z_eqL C eL9 ?_
    refine z_lv [0] (lv' := [(0, .ref (B0 + 97))]) rfl ?_
    exact l_X12_takeNew_48 C  I6 L9 h
set_option maxHeartbeats 4000000 in
set_option maxRecDepth 100000 in
theorem l_X12_takeNew_24 {r : zI × zL} (C : zC p l e R s m args below meth c s0 a0 d cy B0 yX12_takeNew.cls cX12_takeNew 3 none bc bs bc bs 3 67 []) (v1 : Int64) (I : zI) (L : zL) (h : f_X12_takeNew_24 v1 I L = some r) : zG p l e R s m args below meth c d cy B0 3 bc bs (zQ below s args d cy B0 bc bs (.inl none) zSH zKn bc bs r.1 r.2) 24 [(0, .ref (B0 + 97)), (1, .long v1)] [.ref (B0 + 97)] zSH zKn bc bs I L := by
  unfold f_X12_takeNew_24 at h
  refine z_iconst C (v := 0) (by decide) dX12_takeNew_24 ?_
  exact l_X12_takeNew_25 C  v1 (0 : Int32) I L h
set_option maxHeartbeats 4000000 in
set_option maxRecDepth 100000 in
theorem c_X12_takeNew {r : zI × zL} (hE : zE0 l s0 a0 d cy B0) (I : zI) (L : zL) (h : f_X12_takeNew I L = some r) : zM l s0 d cy B0 yX12_takeNew cX12_takeNew 3 none 3 67 [.ref (B0 + 97)] zSH zKn bc bs I L (.inl none) zSH zKn bc bs r.1 r.2 := by
  refine z_meth yy_X12_takeNew hE (Nat.le_of_ble_eq_true rfl) (fun p e R s m args below meth c C => ?_)
  show zG p l e R s m args below meth c d cy B0 3 bc bs (zQ below s args d cy B0 bc bs (.inl none) zSH zKn bc bs r.1 r.2) 0 [(0, .ref (B0 + 97))] [] zSH zKn bc bs I L
  unfold f_X12_takeNew at h
  refine z_aload_n C rfl 0 rfl dX12_takeNew_0 ?_
  obtain ⟨x2, hg1, h⟩ := zb1_e h
  refine z_callV C zc_12 rfl (by decide) dX12_takeNew_1 yy_X12_name (c_X12_name C.2.2.2.2.1  I L hg1) q_1391 q_1393 q_46 (by decide) (by decide) rfl rfl (Nat.le_of_ble_eq_true rfl) ⟨Nat.le_refl _, Nat.le_refl _, Nat.le_refl _, Nat.le_refl _⟩ ?_
  refine z_lstore_n C (lv' := [(1, .long x2), (0, .ref (B0 + 97))]) rfl (by decide) rfl dX12_takeNew_4 ?_
  refine z_aload_n C rfl 1 rfl dX12_takeNew_5 ?_
  refine z_lload_n C rfl 0 rfl dX12_takeNew_6 ?_
  refine z_lconst C (v := 0) (by decide) dX12_takeNew_7 ?_
  refine z_lif_le C 24 (by decide) dX12_takeNew_8 dX12_takeNew_9 (fun hc => ?_) (fun hc => ?_)
  · have h := zif_t hc h
    refine z_lv [1, 0] (lv' := [(0, .ref (B0 + 97)), (1, .long x2)]) rfl ?_
    exact l_X12_takeNew_24 C  x2 I L h
  · have h := zif_f hc h
    refine z_aload_n C rfl 1 rfl dX12_takeNew_12 ?_
    obtain ⟨x4, hg3, h⟩ := zb1_e h
    refine z_callV C zc_12 rfl (by decide) dX12_takeNew_13 yy_X12_layerAt (c_X12_layerAt C.2.2.2.2.1  I L hg3) q_1412 q_1414 q_50 (by decide) (by decide) rfl rfl (Nat.le_of_ble_eq_true rfl) ⟨Nat.le_refl _, Nat.le_refl _, Nat.le_refl _, Nat.le_refl _⟩ ?_
    refine z_iconst C (v := -1) (by decide) dX12_takeNew_16 ?_
    refine z_icmp_ne C 24 (by decide) dX12_takeNew_17 (fun hc => ?_) (fun hc => ?_)
    · have h := zif_f hc h
      refine z_lv [1, 0] (lv' := [(0, .ref (B0 + 97)), (1, .long x2)]) rfl ?_
      exact l_X12_takeNew_24 C  x2 I L h
    · have h := zif_t hc h
      refine z_iconst C (v := 1) (by decide) dX12_takeNew_20 ?_
      refine z_goto C 25 (by decide) dX12_takeNew_21 ?_
      refine z_lv [1, 0] (lv' := [(0, .ref (B0 + 97)), (1, .long x2)]) rfl ?_
      exact l_X12_takeNew_25 C  x2 (1 : Int32) I L h
theorem q_49 : Cond.selects "DeviceFindModel" ⟨"DeviceFindModel", "takeNew", "()V"⟩ ⟨"DeviceFindModel", "takeNew", "()V"⟩ ∈ lw_tbl := List.mem_of_getElem? (i := 49) (by decide +kernel)
theorem q_1186 : (Cond.fieldLink "DeviceFindModel" (35 : Nat) "DeviceFindModel" "how" "[I") ∈ lw_tbl := List.mem_of_getElem? (i := 1186) (by decide +kernel)
theorem q_1187 : (Cond.fieldLink "DeviceFindModel" (38 : Nat) "DeviceFindModel" "one" "[I") ∈ lw_tbl := List.mem_of_getElem? (i := 1187) (by decide +kernel)
theorem q_1403 : (Cond.code ({ cls := "DeviceFindModel", name := "readInput", desc := "()V" } : Jvm.MethodName) prog_14_method_23_code (4 : Nat) (Option.none : Option Jvm.ClassFile.FieldType)) ∈ lw_tbl := List.mem_of_getElem? (i := 1403) (by decide +kernel)
theorem q_1408 : (Cond.methodLink "DeviceFindModel" (196 : Nat) ({ cls := "DeviceFindModel", name := "takeNew", desc := "()V" } : Jvm.MethodName)) ∈ lw_tbl := List.mem_of_getElem? (i := 1408) (by decide +kernel)
theorem q_1410 : (Cond.instanceMethod ({ cls := "DeviceFindModel", name := "takeNew", desc := "()V" } : Jvm.MethodName)) ∈ lw_tbl := List.mem_of_getElem? (i := 1410) (by decide +kernel)
theorem yy_X12_readInput : zY yX12_readInput cX12_readInput 4 none 0 := ⟨q_1403, q_88, by decide +kernel, by decide +kernel, by decide +kernel⟩
def f_X12_readInput_182 (I : zI) (L : zL) : Option (zI × zL) :=
  some (I, L)
def f_X12_readInput_126 (v2 : Int32) (w1 : Int32) (I : zI) (L : zL) : Option (zI × zL) :=
  zb1 (f_X12_take w1 I) (fun I17 => zb1 (f_X12_is (59 : Int32) I17) (fun x19 => zb1 (f_X12_take x19 I17) (fun I21 => if (I21 97 49) = 0 then (f_X12_readInput_182 I21 L) else (zlt ((24 : Int32) + (I21 97 50)) (fun x22 => zck (zbd x22 48) (zlt (zu I21 106 x22.toNatClampNeg (0 : Int32)) (fun I24 => zlt ((24 : Int32) + (I24 97 50)) (fun x25 => zck (zbd x25 48) (zlt (zu I24 107 x25.toNatClampNeg v2) (fun I27 => zlt ((I27 97 50) + (1 : Int32)) (fun x28 => zlt (zu I27 97 50 x28) (fun I29 => f_X12_readInput_182 I29 L))))))))))))
def f_X12_readInput_125 (v2 : Int32) (I : zI) (L : zL) : Option (zI × zL) :=
  f_X12_readInput_126 v2 (0 : Int32) I L
def f_X12_readInput_108 (v1 : Int32) (v2 : Int32) (I : zI) (L : zL) : Option (zI × zL) :=
  if v1 = 0 then (f_X12_readInput_125 v2 I L) else (if (I 97 1) ≤ v2 then (f_X12_readInput_125 v2 I L) else (f_X12_readInput_126 v2 (1 : Int32) I L))
def f_X12_readInput_75 (k75 : Int32 → Int32 → Int32 → zI → zL → Option (zI × zL)) (v1 : Int32) (v2 : Int32) (v3 : Int32) (I : zI) (L : zL) : Option (zI × zL) :=
  if (I 97 47) ≤ v3 then (f_X12_readInput_108 v1 v2 I L) else (if v1 = 0 then (f_X12_readInput_108 v1 v2 I L) else (zck (zbd v3 800) (zlt (((10 : Int32) * v2) + (I 117 v3.toNatClampNeg)) (fun x13 => zlt (x13 - (48 : Int32)) (fun x14 => zlt (v3 + 1) (fun x15 => k75 v1 x14 x15 I L))))))
def f_X12_readInput_67 (w0 : Int32) (I : zI) (L : zL) : Option (zI × zL) :=
  zlt (I 97 46) (fun x11 => zlp5 (f_X12_readInput_75) zF w0 (0 : Int32) x11 I L)
def f_X12_readInput_66 (I : zI) (L : zL) : Option (zI × zL) :=
  f_X12_readInput_67 (0 : Int32) I L
def f_X12_readInput_15 (w1 : Int32) (I : zI) (L : zL) : Option (zI × zL) :=
  zb1 (f_X12_take w1 I) (fun I2 => zb2 (f_X12_takeNew I2 L) (fun I4 L5 => if (I4 97 47) ≤ (I4 97 46) then (f_X12_readInput_66 I4 L5) else (zlt (I4 97 46) (fun x6 => zck (zbd x6 800) (zb1 (f_X12_isDigit (I4 117 x6.toNatClampNeg)) (fun x9 => if x9 = 0 then (f_X12_readInput_66 I4 L5) else (zlt ((I4 97 47) - (I4 97 46)) (fun x10 => if (6 : Int32) < x10 then (f_X12_readInput_66 I4 L5) else (f_X12_readInput_67 (1 : Int32) I4 L5)))))))))
def f_X12_readInput (I : zI) (L : zL) : Option (zI × zL) :=
  if (24 : Int32) ≤ (I 97 50) then (f_X12_readInput_15 (0 : Int32) I L) else (f_X12_readInput_15 (1 : Int32) I L)
set_option maxHeartbeats 4000000 in
set_option maxRecDepth 100000 in
theorem l_X12_readInput_182 {r : zI × zL} (C : zC p l e R s m args below meth c s0 a0 d cy B0 yX12_readInput.cls cX12_readInput 4 none bc bs bc bs 4 89 []) (I : zI) (L : zL) (h : f_X12_readInput_182 I L = some r) : zG p l e R s m args below meth c d cy B0 4 bc bs (zQ below s args d cy B0 bc bs (.inl none) zSH zKn bc bs r.1 r.2) 182 [] [] zSH zKn bc bs I L := by
  unfold f_X12_readInput_182 at h
  obtain rfl := Option.some.inj h
  exact z_vret C dX12_readInput_182 rfl rfl
set_option maxHeartbeats 4000000 in
set_option maxRecDepth 100000 in
theorem l_X12_readInput_126 {r : zI × zL} (C : zC p l e R s m args below meth c s0 a0 d cy B0 yX12_readInput.cls cX12_readInput 4 none bc bs bc bs 4 89 []) (v2 : Int32) (w1 : Int32) (I : zI) (L : zL) (h : f_X12_readInput_126 v2 w1 I L = some r) : zG p l e R s m args below meth c d cy B0 4 bc bs (zQ below s args d cy B0 bc bs (.inl none) zSH zKn bc bs r.1 r.2) 126 [(0, .ref (B0 + 97)), (2, .int v2)] [.int w1, .ref (B0 + 97)] zSH zKn bc bs I L := by
  unfold f_X12_readInput_126 at h
  obtain ⟨I17, hg16, h⟩ := zb1_e h
  refine z_callV C zc_12 rfl (by decide) dX12_readInput_126 yy_X12_take (c_X12_take C.2.2.2.2.1  w1 I L hg16) q_1404 q_1406 q_48 (by decide) (by decide) rfl rfl (Nat.le_of_ble_eq_true rfl) ⟨Nat.le_refl _, Nat.le_refl _, Nat.le_refl _, Nat.le_refl _⟩ ?_
  refine z_aload_n C rfl 0 rfl dX12_readInput_129 ?_
  refine z_aload_n C rfl 0 rfl dX12_readInput_130 ?_
  refine z_bipush C (v := 59) (by decide) dX12_readInput_131 ?_
  obtain ⟨x19, hg18, h⟩ := zb1_e h
  refine z_callV C zc_12 rfl (by decide) dX12_readInput_133 yy_X12_is (c_X12_is C.2.2.2.2.1  (59 : Int32) I17 L hg18) q_1416 q_1418 q_51 (by decide) (by decide) rfl rfl (Nat.le_of_ble_eq_true rfl) ⟨Nat.le_refl _, Nat.le_refl _, Nat.le_refl _, Nat.le_refl _⟩ ?_
  obtain ⟨I21, hg20, h⟩ := zb1_e h
  refine z_callV C zc_12 rfl (by decide) dX12_readInput_136 yy_X12_take (c_X12_take C.2.2.2.2.1  x19 I17 L hg20) q_1404 q_1406 q_48 (by decide) (by decide) rfl rfl (Nat.le_of_ble_eq_true rfl) ⟨Nat.le_refl _, Nat.le_refl _, Nat.le_refl _, Nat.le_refl _⟩ ?_
  refine z_aload_n C rfl 0 rfl dX12_readInput_139 ?_
  refine z_geti C zc_12 dX12_readInput_140 49 97 rfl (by decide) (by decide) q_1218 rfl ?_
  refine z_if_eq C 182 (by decide) dX12_readInput_143 (fun hc => ?_) (fun hc => ?_)
  · have h := zif_t hc h
    refine z_lv [] (lv' := []) rfl ?_
    exact l_X12_readInput_182 C  I21 L h
  · have h := zif_f hc h
    refine z_aload_n C rfl 0 rfl dX12_readInput_146 ?_
    refine z_getr C zc_12 dX12_readInput_147 17 97 106 rfl (by decide) (by decide) q_1186 rfl rfl ?_
    refine z_bipush C (v := 24) (by decide) dX12_readInput_150 ?_
    refine z_aload_n C rfl 0 rfl dX12_readInput_152 ?_
    refine z_geti C zc_12 dX12_readInput_153 50 97 rfl (by decide) (by decide) q_1219 rfl ?_
    refine z_iadd C dX12_readInput_156 ?_
    obtain ⟨x22, ex22, h⟩ := zlt_e h
    refine z_eqi C ex22 ?_
    refine z_iconst C (v := 0) (by decide) dX12_readInput_157 ?_
    obtain ⟨hb23, h⟩ := zck_e h
    refine z_iastore C dX12_readInput_158 rfl rfl (by decide) (zbd_in hb23) ?_
    obtain ⟨I24, eI24, h⟩ := zlt_e h
    refine z_eqI C eI24 ?_
    refine z_aload_n C rfl 0 rfl dX12_readInput_159 ?_
    refine z_getr C zc_12 dX12_readInput_160 18 97 107 rfl (by decide) (by decide) q_1187 rfl rfl ?_
    refine z_bipush C (v := 24) (by decide) dX12_readInput_163 ?_
    refine z_aload_n C rfl 0 rfl dX12_readInput_165 ?_
    refine z_geti C zc_12 dX12_readInput_166 50 97 rfl (by decide) (by decide) q_1219 rfl ?_
    refine z_iadd C dX12_readInput_169 ?_
    obtain ⟨x25, ex25, h⟩ := zlt_e h
    refine z_eqi C ex25 ?_
    refine z_iload_n C rfl 1 rfl dX12_readInput_170 ?_
    obtain ⟨hb26, h⟩ := zck_e h
    refine z_iastore C dX12_readInput_171 rfl rfl (by decide) (zbd_in hb26) ?_
    obtain ⟨I27, eI27, h⟩ := zlt_e h
    refine z_eqI C eI27 ?_
    refine z_aload_n C rfl 0 rfl dX12_readInput_172 ?_
    refine z_dup C rfl dX12_readInput_173 ?_
    refine z_geti C zc_12 dX12_readInput_174 50 97 rfl (by decide) (by decide) q_1219 rfl ?_
    refine z_iconst C (v := 1) (by decide) dX12_readInput_177 ?_
    refine z_iadd C dX12_readInput_178 ?_
    obtain ⟨x28, ex28, h⟩ := zlt_e h
    refine z_eqi C ex28 ?_
    refine z_puti C zc_12 dX12_readInput_179 50 97 rfl (by decide) (by decide) rfl q_1219 rfl rfl rfl ?_
    obtain ⟨I29, eI29, h⟩ := zlt_e h
    refine z_eqI C eI29 ?_
    refine z_lv [] (lv' := []) rfl ?_
    exact l_X12_readInput_182 C  I29 L h
set_option maxHeartbeats 4000000 in
set_option maxRecDepth 100000 in
theorem l_X12_readInput_125 {r : zI × zL} (C : zC p l e R s m args below meth c s0 a0 d cy B0 yX12_readInput.cls cX12_readInput 4 none bc bs bc bs 4 89 []) (v2 : Int32) (I : zI) (L : zL) (h : f_X12_readInput_125 v2 I L = some r) : zG p l e R s m args below meth c d cy B0 4 bc bs (zQ below s args d cy B0 bc bs (.inl none) zSH zKn bc bs r.1 r.2) 125 [(0, .ref (B0 + 97)), (2, .int v2)] [.ref (B0 + 97)] zSH zKn bc bs I L := by
  unfold f_X12_readInput_125 at h
  refine z_iconst C (v := 0) (by decide) dX12_readInput_125 ?_
  exact l_X12_readInput_126 C  v2 (0 : Int32) I L h
set_option maxHeartbeats 4000000 in
set_option maxRecDepth 100000 in
theorem l_X12_readInput_108 {r : zI × zL} (C : zC p l e R s m args below meth c s0 a0 d cy B0 yX12_readInput.cls cX12_readInput 4 none bc bs bc bs 4 89 []) (v1 : Int32) (v2 : Int32) (I : zI) (L : zL) (h : f_X12_readInput_108 v1 v2 I L = some r) : zG p l e R s m args below meth c d cy B0 4 bc bs (zQ below s args d cy B0 bc bs (.inl none) zSH zKn bc bs r.1 r.2) 108 [(0, .ref (B0 + 97)), (1, .int v1), (2, .int v2)] [] zSH zKn bc bs I L := by
  unfold f_X12_readInput_108 at h
  refine z_aload_n C rfl 0 rfl dX12_readInput_108 ?_
  refine z_iload_n C rfl 1 rfl dX12_readInput_109 ?_
  refine z_if_eq C 125 (by decide) dX12_readInput_110 (fun hc => ?_) (fun hc => ?_)
  · have h := zif_t hc h
    refine z_lv [0, 2] (lv' := [(0, .ref (B0 + 97)), (2, .int v2)]) rfl ?_
    exact l_X12_readInput_125 C  v2 I L h
  · have h := zif_f hc h
    refine z_iload_n C rfl 2 rfl dX12_readInput_113 ?_
    refine z_aload_n C rfl 0 rfl dX12_readInput_114 ?_
    refine z_geti C zc_12 dX12_readInput_115 1 97 rfl (by decide) (by decide) q_1170 rfl ?_
    refine z_icmp_ge C 125 (by decide) dX12_readInput_118 (fun hc => ?_) (fun hc => ?_)
    · have h := zif_t hc h
      refine z_lv [0, 2] (lv' := [(0, .ref (B0 + 97)), (2, .int v2)]) rfl ?_
      exact l_X12_readInput_125 C  v2 I L h
    · have h := zif_f hc h
      refine z_iconst C (v := 1) (by decide) dX12_readInput_121 ?_
      refine z_goto C 126 (by decide) dX12_readInput_122 ?_
      refine z_lv [0, 2] (lv' := [(0, .ref (B0 + 97)), (2, .int v2)]) rfl ?_
      exact l_X12_readInput_126 C  v2 (1 : Int32) I L h
set_option maxHeartbeats 4000000 in
set_option maxRecDepth 100000 in
theorem l_X12_readInput_75 {r : zI × zL} (C : zC p l e R s m args below meth c s0 a0 d cy B0 yX12_readInput.cls cX12_readInput 4 none bc bs bc bs 4 89 []) (k75 : Int32 → Int32 → Int32 → zI → zL → Option (zI × zL)) (hk75 : ∀ (v1 : Int32) (v2 : Int32) (v3 : Int32) (I : zI) (L : zL), k75 v1 v2 v3 I L = some r → zG p l e R s m args below meth c d cy B0 4 bc bs (zQ below s args d cy B0 bc bs (.inl none) zSH zKn bc bs r.1 r.2) 75 [(0, .ref (B0 + 97)), (1, .int v1), (2, .int v2), (3, .int v3)] [] zSH zKn bc bs I L) (v1 : Int32) (v2 : Int32) (v3 : Int32) (I : zI) (L : zL) (h : f_X12_readInput_75 k75 v1 v2 v3 I L = some r) : zG p l e R s m args below meth c d cy B0 4 bc bs (zQ below s args d cy B0 bc bs (.inl none) zSH zKn bc bs r.1 r.2) 75 [(0, .ref (B0 + 97)), (1, .int v1), (2, .int v2), (3, .int v3)] [] zSH zKn bc bs I L := by
  unfold f_X12_readInput_75 at h
  refine z_iload_n C rfl 3 rfl dX12_readInput_75 ?_
  refine z_aload_n C rfl 0 rfl dX12_readInput_76 ?_
  refine z_geti C zc_12 dX12_readInput_77 47 97 rfl (by decide) (by decide) q_1216 rfl ?_
  refine z_icmp_ge C 108 (by decide) dX12_readInput_80 (fun hc => ?_) (fun hc => ?_)
  · have h := zif_t hc h
    refine z_lv [0, 1, 2] (lv' := [(0, .ref (B0 + 97)), (1, .int v1), (2, .int v2)]) rfl ?_
    exact l_X12_readInput_108 C  v1 v2 I L h
  · have h := zif_f hc h
    refine z_iload_n C rfl 1 rfl dX12_readInput_83 ?_
    refine z_if_eq C 108 (by decide) dX12_readInput_84 (fun hc => ?_) (fun hc => ?_)
    · have h := zif_t hc h
      refine z_lv [0, 1, 2] (lv' := [(0, .ref (B0 + 97)), (1, .int v1), (2, .int v2)]) rfl ?_
      exact l_X12_readInput_108 C  v1 v2 I L h
    · have h := zif_f hc h
      refine z_bipush C (v := 10) (by decide) dX12_readInput_87 ?_
      refine z_iload_n C rfl 2 rfl dX12_readInput_89 ?_
      refine z_imul C dX12_readInput_90 ?_
      refine z_aload_n C rfl 0 rfl dX12_readInput_91 ?_
      refine z_getr C zc_12 dX12_readInput_92 28 97 117 rfl (by decide) (by decide) q_1197 rfl rfl ?_
      refine z_iload_n C rfl 3 rfl dX12_readInput_95 ?_
      obtain ⟨hb12, h⟩ := zck_e h
      refine z_iaload C dX12_readInput_96 rfl rfl (by decide) (zbd_in hb12) ?_
      refine z_iadd C dX12_readInput_97 ?_
      obtain ⟨x13, ex13, h⟩ := zlt_e h
      refine z_eqi C ex13 ?_
      refine z_bipush C (v := 48) (by decide) dX12_readInput_98 ?_
      refine z_isub C dX12_readInput_100 ?_
      obtain ⟨x14, ex14, h⟩ := zlt_e h
      refine z_eqi C ex14 ?_
      refine z_istore_n C (lv' := [(2, .int x14), (0, .ref (B0 + 97)), (1, .int v1), (3, .int v3)]) rfl (by decide) rfl dX12_readInput_101 ?_
      obtain ⟨x15, ex15, h⟩ := zlt_e h
      refine z_iinc C (j := 3) (v := x15) (lv' := [(3, .int x15), (2, .int x14), (0, .ref (B0 + 97)), (1, .int v1)]) rfl (by rw [ex15]; rfl) (by decide) rfl dX12_readInput_102 ?_
      refine z_goto C 75 (by decide) dX12_readInput_105 ?_
      refine z_lv [2, 3, 1, 0] (lv' := [(0, .ref (B0 + 97)), (1, .int v1), (2, .int x14), (3, .int x15)]) rfl ?_
      exact hk75 v1 x14 x15 I L h
set_option maxHeartbeats 4000000 in
set_option maxRecDepth 100000 in
theorem L_X12_readInput_75 {r : zI × zL} (C : zC p l e R s m args below meth c s0 a0 d cy B0 yX12_readInput.cls cX12_readInput 4 none bc bs bc bs 4 89 []) (v1 : Int32) (v2 : Int32) (v3 : Int32) (I : zI) (L : zL) (h : zlp5 (f_X12_readInput_75) zF v1 v2 v3 I L = some r) : zG p l e R s m args below meth c d cy B0 4 bc bs (zQ below s args d cy B0 bc bs (.inl none) zSH zKn bc bs r.1 r.2) 75 [(0, .ref (B0 + 97)), (1, .int v1), (2, .int v2), (3, .int v3)] [] zSH zKn bc bs I L :=
 zlp5_e (fun (v1 : Int32) (v2 : Int32) (v3 : Int32) (I : zI) (L : zL) => zG p l e R s m args below meth c d cy B0 4 bc bs (zQ below s args d cy B0 bc bs (.inl none) zSH zKn bc bs r.1 r.2) 75 [(0, .ref (B0 + 97)), (1, .int v1), (2, .int v2), (3, .int v3)] [] zSH zKn bc bs I L) (fun k9 hk9 v1 v2 v3 I L h => l_X12_readInput_75 C k9 hk9 v1 v2 v3 I L h) zF v1 v2 v3 I L h
set_option maxHeartbeats 4000000 in
set_option maxRecDepth 100000 in
theorem l_X12_readInput_67 {r : zI × zL} (C : zC p l e R s m args below meth c s0 a0 d cy B0 yX12_readInput.cls cX12_readInput 4 none bc bs bc bs 4 89 []) (w0 : Int32) (I : zI) (L : zL) (h : f_X12_readInput_67 w0 I L = some r) : zG p l e R s m args below meth c d cy B0 4 bc bs (zQ below s args d cy B0 bc bs (.inl none) zSH zKn bc bs r.1 r.2) 67 [(0, .ref (B0 + 97))] [.int w0] zSH zKn bc bs I L := by
  unfold f_X12_readInput_67 at h
  refine z_istore_n C (lv' := [(1, .int w0), (0, .ref (B0 + 97))]) rfl (by decide) rfl dX12_readInput_67 ?_
  refine z_iconst C (v := 0) (by decide) dX12_readInput_68 ?_
  refine z_istore_n C (lv' := [(2, .int (0 : Int32)), (1, .int w0), (0, .ref (B0 + 97))]) rfl (by decide) rfl dX12_readInput_69 ?_
  refine z_aload_n C rfl 2 rfl dX12_readInput_70 ?_
  refine z_geti C zc_12 dX12_readInput_71 46 97 rfl (by decide) (by decide) q_1215 rfl ?_
  obtain ⟨x11, ex11, h⟩ := zlt_e h
  refine z_eqi C ex11 ?_
  refine z_istore_n C (lv' := [(3, .int x11), (2, .int (0 : Int32)), (1, .int w0), (0, .ref (B0 + 97))]) rfl (by decide) rfl dX12_readInput_74 ?_
  refine z_lv [3, 2, 1, 0] (lv' := [(0, .ref (B0 + 97)), (1, .int w0), (2, .int (0 : Int32)), (3, .int x11)]) rfl ?_
  exact L_X12_readInput_75 C  w0 (0 : Int32) x11 I L h
set_option maxHeartbeats 4000000 in
set_option maxRecDepth 100000 in
theorem l_X12_readInput_66 {r : zI × zL} (C : zC p l e R s m args below meth c s0 a0 d cy B0 yX12_readInput.cls cX12_readInput 4 none bc bs bc bs 4 89 []) (I : zI) (L : zL) (h : f_X12_readInput_66 I L = some r) : zG p l e R s m args below meth c d cy B0 4 bc bs (zQ below s args d cy B0 bc bs (.inl none) zSH zKn bc bs r.1 r.2) 66 [(0, .ref (B0 + 97))] [] zSH zKn bc bs I L := by
  unfold f_X12_readInput_66 at h
  refine z_iconst C (v := 0) (by decide) dX12_readInput_66 ?_
  exact l_X12_readInput_67 C  (0 : Int32) I L h
set_option maxHeartbeats 4000000 in
set_option maxRecDepth 100000 in
theorem l_X12_readInput_15 {r : zI × zL} (C : zC p l e R s m args below meth c s0 a0 d cy B0 yX12_readInput.cls cX12_readInput 4 none bc bs bc bs 4 89 []) (w1 : Int32) (I : zI) (L : zL) (h : f_X12_readInput_15 w1 I L = some r) : zG p l e R s m args below meth c d cy B0 4 bc bs (zQ below s args d cy B0 bc bs (.inl none) zSH zKn bc bs r.1 r.2) 15 [(0, .ref (B0 + 97))] [.int w1, .ref (B0 + 97)] zSH zKn bc bs I L := by
  unfold f_X12_readInput_15 at h
  obtain ⟨I2, hg1, h⟩ := zb1_e h
  refine z_callV C zc_12 rfl (by decide) dX12_readInput_15 yy_X12_take (c_X12_take C.2.2.2.2.1  w1 I L hg1) q_1404 q_1406 q_48 (by decide) (by decide) rfl rfl (Nat.le_of_ble_eq_true rfl) ⟨Nat.le_refl _, Nat.le_refl _, Nat.le_refl _, Nat.le_refl _⟩ ?_
  refine z_aload_n C rfl 0 rfl dX12_readInput_18 ?_
  obtain ⟨I4, L5, hg3, h⟩ := zb2_e h
  refine z_callV C zc_12 rfl (by decide) dX12_readInput_19 yy_X12_takeNew (c_X12_takeNew C.2.2.2.2.1  I2 L hg3) q_1408 q_1410 q_49 (by decide) (by decide) rfl rfl (Nat.le_of_ble_eq_true rfl) ⟨Nat.le_refl _, Nat.le_refl _, Nat.le_refl _, Nat.le_refl _⟩ ?_
  refine z_aload_n C rfl 0 rfl dX12_readInput_22 ?_
  refine z_geti C zc_12 dX12_readInput_23 46 97 rfl (by decide) (by decide) q_1215 rfl ?_
  refine z_aload_n C rfl 0 rfl dX12_readInput_26 ?_
  refine z_geti C zc_12 dX12_readInput_27 47 97 rfl (by decide) (by decide) q_1216 rfl ?_
  refine z_icmp_ge C 66 (by decide) dX12_readInput_30 (fun hc => ?_) (fun hc => ?_)
  · have h := zif_t hc h
    exact l_X12_readInput_66 C  I4 L5 h
  · have h := zif_f hc h
    refine z_aload_n C rfl 0 rfl dX12_readInput_33 ?_
    refine z_getr C zc_12 dX12_readInput_34 28 97 117 rfl (by decide) (by decide) q_1197 rfl rfl ?_
    refine z_aload_n C rfl 0 rfl dX12_readInput_37 ?_
    refine z_geti C zc_12 dX12_readInput_38 46 97 rfl (by decide) (by decide) q_1215 rfl ?_
    obtain ⟨x6, ex6, h⟩ := zlt_e h
    refine z_eqi C ex6 ?_
    obtain ⟨hb7, h⟩ := zck_e h
    refine z_iaload C dX12_readInput_41 rfl rfl (by decide) (zbd_in hb7) ?_
    obtain ⟨x9, hg8, h⟩ := zb1_e h
    refine z_callS C dX12_readInput_42 yy_X12_isDigit (c_X12_isDigit C.2.2.2.2.1  (I4 117 x6.toNatClampNeg) I4 L5 hg8) q_1384 q_1385 (by decide) (by decide) rfl rfl (Nat.le_of_ble_eq_true rfl) ⟨Nat.le_refl _, Nat.le_refl _, Nat.le_refl _, Nat.le_refl _⟩ ?_
    refine z_if_eq C 66 (by decide) dX12_readInput_45 (fun hc => ?_) (fun hc => ?_)
    · have h := zif_t hc h
      exact l_X12_readInput_66 C  I4 L5 h
    · have h := zif_f hc h
      refine z_aload_n C rfl 0 rfl dX12_readInput_48 ?_
      refine z_geti C zc_12 dX12_readInput_49 47 97 rfl (by decide) (by decide) q_1216 rfl ?_
      refine z_aload_n C rfl 0 rfl dX12_readInput_52 ?_
      refine z_geti C zc_12 dX12_readInput_53 46 97 rfl (by decide) (by decide) q_1215 rfl ?_
      refine z_isub C dX12_readInput_56 ?_
      obtain ⟨x10, ex10, h⟩ := zlt_e h
      refine z_eqi C ex10 ?_
      refine z_bipush C (v := 6) (by decide) dX12_readInput_57 ?_
      refine z_icmp_gt C 66 (by decide) dX12_readInput_59 (fun hc => ?_) (fun hc => ?_)
      · have h := zif_t hc h
        exact l_X12_readInput_66 C  I4 L5 h
      · have h := zif_f hc h
        refine z_iconst C (v := 1) (by decide) dX12_readInput_62 ?_
        refine z_goto C 67 (by decide) dX12_readInput_63 ?_
        exact l_X12_readInput_67 C  (1 : Int32) I4 L5 h
set_option maxHeartbeats 4000000 in
set_option maxRecDepth 100000 in
theorem c_X12_readInput {r : zI × zL} (hE : zE0 l s0 a0 d cy B0) (I : zI) (L : zL) (h : f_X12_readInput I L = some r) : zM l s0 d cy B0 yX12_readInput cX12_readInput 4 none 4 89 [.ref (B0 + 97)] zSH zKn bc bs I L (.inl none) zSH zKn bc bs r.1 r.2 := by
  refine z_meth yy_X12_readInput hE (Nat.le_of_ble_eq_true rfl) (fun p e R s m args below meth c C => ?_)
  show zG p l e R s m args below meth c d cy B0 4 bc bs (zQ below s args d cy B0 bc bs (.inl none) zSH zKn bc bs r.1 r.2) 0 [(0, .ref (B0 + 97))] [] zSH zKn bc bs I L
  unfold f_X12_readInput at h
  refine z_aload_n C rfl 0 rfl dX12_readInput_0 ?_
  refine z_aload_n C rfl 0 rfl dX12_readInput_1 ?_
  refine z_geti C zc_12 dX12_readInput_2 50 97 rfl (by decide) (by decide) q_1219 rfl ?_
  refine z_bipush C (v := 24) (by decide) dX12_readInput_5 ?_
  refine z_icmp_ge C 14 (by decide) dX12_readInput_7 (fun hc => ?_) (fun hc => ?_)
  · have h := zif_t hc h
    refine z_iconst C (v := 0) (by decide) dX12_readInput_14 ?_
    exact l_X12_readInput_15 C  (0 : Int32) I L h
  · have h := zif_f hc h
    refine z_iconst C (v := 1) (by decide) dX12_readInput_10 ?_
    refine z_goto C 15 (by decide) dX12_readInput_11 ?_
    exact l_X12_readInput_15 C  (1 : Int32) I L h
theorem q_53 : Cond.selects "DeviceFindModel" ⟨"DeviceFindModel", "takeLayer", "()I"⟩ ⟨"DeviceFindModel", "takeLayer", "()I"⟩ ∈ lw_tbl := List.mem_of_getElem? (i := 53) (by decide +kernel)
theorem q_1188 : (Cond.fieldLink "DeviceFindModel" (41 : Nat) "DeviceFindModel" "two" "[I") ∈ lw_tbl := List.mem_of_getElem? (i := 1188) (by decide +kernel)
theorem q_1397 : (Cond.methodLink "DeviceFindModel" (202 : Nat) ({ cls := "DeviceFindModel", name := "word", desc := "(IIIII)J" } : Jvm.MethodName)) ∈ lw_tbl := List.mem_of_getElem? (i := 1397) (by decide +kernel)
theorem q_1398 : (Cond.static ({ cls := "DeviceFindModel", name := "word", desc := "(IIIII)J" } : Jvm.MethodName)) ∈ lw_tbl := List.mem_of_getElem? (i := 1398) (by decide +kernel)
theorem q_1423 : (Cond.code ({ cls := "DeviceFindModel", name := "readMake", desc := "()V" } : Jvm.MethodName) prog_14_method_24_code (6 : Nat) (Option.none : Option Jvm.ClassFile.FieldType)) ∈ lw_tbl := List.mem_of_getElem? (i := 1423) (by decide +kernel)
theorem q_1424 : (Cond.methodLink "DeviceFindModel" (199 : Nat) ({ cls := "DeviceFindModel", name := "takeLayer", desc := "()I" } : Jvm.MethodName)) ∈ lw_tbl := List.mem_of_getElem? (i := 1424) (by decide +kernel)
theorem q_1426 : (Cond.instanceMethod ({ cls := "DeviceFindModel", name := "takeLayer", desc := "()I" } : Jvm.MethodName)) ∈ lw_tbl := List.mem_of_getElem? (i := 1426) (by decide +kernel)
theorem yy_X12_readMake : zY yX12_readMake cX12_readMake 6 none 0 := ⟨q_1423, q_88, by decide +kernel, by decide +kernel, by decide +kernel⟩
def f_X12_readMake_183 (I : zI) (L : zL) : Option (zI × zL) :=
  some (I, L)
def f_X12_readMake_106 (v1 : Int32) (v4 : Int32) (w1 : Int32) (I : zI) (L : zL) : Option (zI × zL) :=
  zb1 (f_X12_take w1 I) (fun I18 => zb2 (f_X12_takeLayer I18 L) (fun x20 I21 => zb1 (f_X12_is (59 : Int32) I21) (fun x23 => zb1 (f_X12_take x23 I21) (fun I25 => if (I25 97 49) = 0 then (f_X12_readMake_183 I25 L) else (zlt ((24 : Int32) + (I25 97 50)) (fun x26 => zck (zbd x26 48) (zlt (zu I25 106 x26.toNatClampNeg v4) (fun I28 => zlt ((24 : Int32) + (I28 97 50)) (fun x29 => zck (zbd x29 48) (zlt (zu I28 107 x29.toNatClampNeg v1) (fun I31 => zlt ((24 : Int32) + (I31 97 50)) (fun x32 => zck (zbd x32 48) (zlt (zu I31 108 x32.toNatClampNeg x20) (fun I34 => zlt ((I34 97 50) + (1 : Int32)) (fun x35 => zlt (zu I34 97 50 x35) (fun I36 => f_X12_readMake_183 I36 L))))))))))))))))
def f_X12_readMake_93 (v1 : Int32) (w0 : Int32) (I : zI) (L : zL) : Option (zI × zL) :=
  if w0 ≤ 0 then (f_X12_readMake_106 v1 w0 (0 : Int32) I L) else (f_X12_readMake_106 v1 w0 (1 : Int32) I L)
def f_X12_readMake_15 (w1 : Int32) (I : zI) (L : zL) : Option (zI × zL) :=
  zb1 (f_X12_take w1 I) (fun I2 => zb2 (f_X12_takeNew I2 L) (fun I4 L5 => zb2 (f_X12_takeLayer I4 L5) (fun x7 I8 => zb1 (f_X12_name I8) (fun x10 => zb1 (f_X12_word (97 : Int32) (110 : Int32) (100 : Int32) (0 : Int32) (0 : Int32)) (fun x12 => if x10 = x12 then (f_X12_readMake_93 x7 (1 : Int32) I8 L5) else (zb1 (f_X12_word (111 : Int32) (114 : Int32) (0 : Int32) (0 : Int32) (0 : Int32)) (fun x14 => if x10 = x14 then (f_X12_readMake_93 x7 (2 : Int32) I8 L5) else (zb1 (f_X12_word (108 : Int32) (101 : Int32) (115 : Int32) (115 : Int32) (0 : Int32)) (fun x16 => if x10 = x16 then (f_X12_readMake_93 x7 (3 : Int32) I8 L5) else (f_X12_readMake_93 x7 (0 : Int32) I8 L5))))))))))
def f_X12_readMake (I : zI) (L : zL) : Option (zI × zL) :=
  if (24 : Int32) ≤ (I 97 50) then (f_X12_readMake_15 (0 : Int32) I L) else (f_X12_readMake_15 (1 : Int32) I L)
set_option maxHeartbeats 4000000 in
set_option maxRecDepth 100000 in
theorem l_X12_readMake_183 {r : zI × zL} (C : zC p l e R s m args below meth c s0 a0 d cy B0 yX12_readMake.cls cX12_readMake 6 none bc bs bc bs 4 89 []) (I : zI) (L : zL) (h : f_X12_readMake_183 I L = some r) : zG p l e R s m args below meth c d cy B0 6 bc bs (zQ below s args d cy B0 bc bs (.inl none) zSH zKn bc bs r.1 r.2) 183 [] [] zSH zKn bc bs I L := by
  unfold f_X12_readMake_183 at h
  obtain rfl := Option.some.inj h
  exact z_vret C dX12_readMake_183 rfl rfl
set_option maxHeartbeats 4000000 in
set_option maxRecDepth 100000 in
theorem l_X12_readMake_106 {r : zI × zL} (C : zC p l e R s m args below meth c s0 a0 d cy B0 yX12_readMake.cls cX12_readMake 6 none bc bs bc bs 4 89 []) (v1 : Int32) (v4 : Int32) (w1 : Int32) (I : zI) (L : zL) (h : f_X12_readMake_106 v1 v4 w1 I L = some r) : zG p l e R s m args below meth c d cy B0 6 bc bs (zQ below s args d cy B0 bc bs (.inl none) zSH zKn bc bs r.1 r.2) 106 [(0, .ref (B0 + 97)), (1, .int v1), (4, .int v4)] [.int w1, .ref (B0 + 97)] zSH zKn bc bs I L := by
  unfold f_X12_readMake_106 at h
  obtain ⟨I18, hg17, h⟩ := zb1_e h
  refine z_callV C zc_12 rfl (by decide) dX12_readMake_106 yy_X12_take (c_X12_take C.2.2.2.2.1  w1 I L hg17) q_1404 q_1406 q_48 (by decide) (by decide) rfl rfl (Nat.le_of_ble_eq_true rfl) ⟨Nat.le_refl _, Nat.le_refl _, Nat.le_refl _, Nat.le_refl _⟩ ?_
  refine z_aload_n C rfl 0 rfl dX12_readMake_109 ?_
  obtain ⟨x20, I21, hg19, h⟩ := zb2_e h
  refine z_callV C zc_12 rfl (by decide) dX12_readMake_110 yy_X12_takeLayer (c_X12_takeLayer C.2.2.2.2.1  I18 L hg19) q_1424 q_1426 q_53 (by decide) (by decide) rfl rfl (Nat.le_of_ble_eq_true rfl) ⟨Nat.le_refl _, Nat.le_refl _, Nat.le_refl _, Nat.le_refl _⟩ ?_
  refine z_istore C (lv' := [(5, .int x20), (0, .ref (B0 + 97)), (1, .int v1), (4, .int v4)]) (by decide) rfl dX12_readMake_113 ?_
  refine z_aload_n C rfl 1 rfl dX12_readMake_115 ?_
  refine z_aload_n C rfl 1 rfl dX12_readMake_116 ?_
  refine z_bipush C (v := 59) (by decide) dX12_readMake_117 ?_
  obtain ⟨x23, hg22, h⟩ := zb1_e h
  refine z_callV C zc_12 rfl (by decide) dX12_readMake_119 yy_X12_is (c_X12_is C.2.2.2.2.1  (59 : Int32) I21 L hg22) q_1416 q_1418 q_51 (by decide) (by decide) rfl rfl (Nat.le_of_ble_eq_true rfl) ⟨Nat.le_refl _, Nat.le_refl _, Nat.le_refl _, Nat.le_refl _⟩ ?_
  obtain ⟨I25, hg24, h⟩ := zb1_e h
  refine z_callV C zc_12 rfl (by decide) dX12_readMake_122 yy_X12_take (c_X12_take C.2.2.2.2.1  x23 I21 L hg24) q_1404 q_1406 q_48 (by decide) (by decide) rfl rfl (Nat.le_of_ble_eq_true rfl) ⟨Nat.le_refl _, Nat.le_refl _, Nat.le_refl _, Nat.le_refl _⟩ ?_
  refine z_aload_n C rfl 1 rfl dX12_readMake_125 ?_
  refine z_geti C zc_12 dX12_readMake_126 49 97 rfl (by decide) (by decide) q_1218 rfl ?_
  refine z_if_eq C 183 (by decide) dX12_readMake_129 (fun hc => ?_) (fun hc => ?_)
  · have h := zif_t hc h
    refine z_lv [] (lv' := []) rfl ?_
    exact l_X12_readMake_183 C  I25 L h
  · have h := zif_f hc h
    refine z_aload_n C rfl 1 rfl dX12_readMake_132 ?_
    refine z_getr C zc_12 dX12_readMake_133 17 97 106 rfl (by decide) (by decide) q_1186 rfl rfl ?_
    refine z_bipush C (v := 24) (by decide) dX12_readMake_136 ?_
    refine z_aload_n C rfl 1 rfl dX12_readMake_138 ?_
    refine z_geti C zc_12 dX12_readMake_139 50 97 rfl (by decide) (by decide) q_1219 rfl ?_
    refine z_iadd C dX12_readMake_142 ?_
    obtain ⟨x26, ex26, h⟩ := zlt_e h
    refine z_eqi C ex26 ?_
    refine z_iload C 3 rfl dX12_readMake_143 ?_
    obtain ⟨hb27, h⟩ := zck_e h
    refine z_iastore C dX12_readMake_145 rfl rfl (by decide) (zbd_in hb27) ?_
    obtain ⟨I28, eI28, h⟩ := zlt_e h
    refine z_eqI C eI28 ?_
    refine z_aload_n C rfl 1 rfl dX12_readMake_146 ?_
    refine z_getr C zc_12 dX12_readMake_147 18 97 107 rfl (by decide) (by decide) q_1187 rfl rfl ?_
    refine z_bipush C (v := 24) (by decide) dX12_readMake_150 ?_
    refine z_aload_n C rfl 1 rfl dX12_readMake_152 ?_
    refine z_geti C zc_12 dX12_readMake_153 50 97 rfl (by decide) (by decide) q_1219 rfl ?_
    refine z_iadd C dX12_readMake_156 ?_
    obtain ⟨x29, ex29, h⟩ := zlt_e h
    refine z_eqi C ex29 ?_
    refine z_iload_n C rfl 2 rfl dX12_readMake_157 ?_
    obtain ⟨hb30, h⟩ := zck_e h
    refine z_iastore C dX12_readMake_158 rfl rfl (by decide) (zbd_in hb30) ?_
    obtain ⟨I31, eI31, h⟩ := zlt_e h
    refine z_eqI C eI31 ?_
    refine z_aload_n C rfl 1 rfl dX12_readMake_159 ?_
    refine z_getr C zc_12 dX12_readMake_160 19 97 108 rfl (by decide) (by decide) q_1188 rfl rfl ?_
    refine z_bipush C (v := 24) (by decide) dX12_readMake_163 ?_
    refine z_aload_n C rfl 1 rfl dX12_readMake_165 ?_
    refine z_geti C zc_12 dX12_readMake_166 50 97 rfl (by decide) (by decide) q_1219 rfl ?_
    refine z_iadd C dX12_readMake_169 ?_
    obtain ⟨x32, ex32, h⟩ := zlt_e h
    refine z_eqi C ex32 ?_
    refine z_iload C 0 rfl dX12_readMake_170 ?_
    obtain ⟨hb33, h⟩ := zck_e h
    refine z_iastore C dX12_readMake_172 rfl rfl (by decide) (zbd_in hb33) ?_
    obtain ⟨I34, eI34, h⟩ := zlt_e h
    refine z_eqI C eI34 ?_
    refine z_aload_n C rfl 1 rfl dX12_readMake_173 ?_
    refine z_dup C rfl dX12_readMake_174 ?_
    refine z_geti C zc_12 dX12_readMake_175 50 97 rfl (by decide) (by decide) q_1219 rfl ?_
    refine z_iconst C (v := 1) (by decide) dX12_readMake_178 ?_
    refine z_iadd C dX12_readMake_179 ?_
    obtain ⟨x35, ex35, h⟩ := zlt_e h
    refine z_eqi C ex35 ?_
    refine z_puti C zc_12 dX12_readMake_180 50 97 rfl (by decide) (by decide) rfl q_1219 rfl rfl rfl ?_
    obtain ⟨I36, eI36, h⟩ := zlt_e h
    refine z_eqI C eI36 ?_
    refine z_lv [] (lv' := []) rfl ?_
    exact l_X12_readMake_183 C  I36 L h
set_option maxHeartbeats 4000000 in
set_option maxRecDepth 100000 in
theorem l_X12_readMake_93 {r : zI × zL} (C : zC p l e R s m args below meth c s0 a0 d cy B0 yX12_readMake.cls cX12_readMake 6 none bc bs bc bs 4 89 []) (v1 : Int32) (w0 : Int32) (I : zI) (L : zL) (h : f_X12_readMake_93 v1 w0 I L = some r) : zG p l e R s m args below meth c d cy B0 6 bc bs (zQ below s args d cy B0 bc bs (.inl none) zSH zKn bc bs r.1 r.2) 93 [(0, .ref (B0 + 97)), (1, .int v1)] [.int w0] zSH zKn bc bs I L := by
  unfold f_X12_readMake_93 at h
  refine z_istore C (lv' := [(4, .int w0), (0, .ref (B0 + 97)), (1, .int v1)]) (by decide) rfl dX12_readMake_93 ?_
  refine z_aload_n C rfl 1 rfl dX12_readMake_95 ?_
  refine z_iload C 0 rfl dX12_readMake_96 ?_
  refine z_if_le C 105 (by decide) dX12_readMake_98 (fun hc => ?_) (fun hc => ?_)
  · have h := zif_t hc h
    refine z_iconst C (v := 0) (by decide) dX12_readMake_105 ?_
    refine z_lv [1, 2, 0] (lv' := [(0, .ref (B0 + 97)), (1, .int v1), (4, .int w0)]) rfl ?_
    exact l_X12_readMake_106 C  v1 w0 (0 : Int32) I L h
  · have h := zif_f hc h
    refine z_iconst C (v := 1) (by decide) dX12_readMake_101 ?_
    refine z_goto C 106 (by decide) dX12_readMake_102 ?_
    refine z_lv [1, 2, 0] (lv' := [(0, .ref (B0 + 97)), (1, .int v1), (4, .int w0)]) rfl ?_
    exact l_X12_readMake_106 C  v1 w0 (1 : Int32) I L h
set_option maxHeartbeats 4000000 in
set_option maxRecDepth 100000 in
theorem l_X12_readMake_15 {r : zI × zL} (C : zC p l e R s m args below meth c s0 a0 d cy B0 yX12_readMake.cls cX12_readMake 6 none bc bs bc bs 4 89 []) (w1 : Int32) (I : zI) (L : zL) (h : f_X12_readMake_15 w1 I L = some r) : zG p l e R s m args below meth c d cy B0 6 bc bs (zQ below s args d cy B0 bc bs (.inl none) zSH zKn bc bs r.1 r.2) 15 [(0, .ref (B0 + 97))] [.int w1, .ref (B0 + 97)] zSH zKn bc bs I L := by
  unfold f_X12_readMake_15 at h
  obtain ⟨I2, hg1, h⟩ := zb1_e h
  refine z_callV C zc_12 rfl (by decide) dX12_readMake_15 yy_X12_take (c_X12_take C.2.2.2.2.1  w1 I L hg1) q_1404 q_1406 q_48 (by decide) (by decide) rfl rfl (Nat.le_of_ble_eq_true rfl) ⟨Nat.le_refl _, Nat.le_refl _, Nat.le_refl _, Nat.le_refl _⟩ ?_
  refine z_aload_n C rfl 0 rfl dX12_readMake_18 ?_
  obtain ⟨I4, L5, hg3, h⟩ := zb2_e h
  refine z_callV C zc_12 rfl (by decide) dX12_readMake_19 yy_X12_takeNew (c_X12_takeNew C.2.2.2.2.1  I2 L hg3) q_1408 q_1410 q_49 (by decide) (by decide) rfl rfl (Nat.le_of_ble_eq_true rfl) ⟨Nat.le_refl _, Nat.le_refl _, Nat.le_refl _, Nat.le_refl _⟩ ?_
  refine z_aload_n C rfl 0 rfl dX12_readMake_22 ?_
  obtain ⟨x7, I8, hg6, h⟩ := zb2_e h
  refine z_callV C zc_12 rfl (by decide) dX12_readMake_23 yy_X12_takeLayer (c_X12_takeLayer C.2.2.2.2.1  I4 L5 hg6) q_1424 q_1426 q_53 (by decide) (by decide) rfl rfl (Nat.le_of_ble_eq_true rfl) ⟨Nat.le_refl _, Nat.le_refl _, Nat.le_refl _, Nat.le_refl _⟩ ?_
  refine z_istore_n C (lv' := [(1, .int x7), (0, .ref (B0 + 97))]) rfl (by decide) rfl dX12_readMake_26 ?_
  refine z_aload_n C rfl 1 rfl dX12_readMake_27 ?_
  obtain ⟨x10, hg9, h⟩ := zb1_e h
  refine z_callV C zc_12 rfl (by decide) dX12_readMake_28 yy_X12_name (c_X12_name C.2.2.2.2.1  I8 L5 hg9) q_1391 q_1393 q_46 (by decide) (by decide) rfl rfl (Nat.le_of_ble_eq_true rfl) ⟨Nat.le_refl _, Nat.le_refl _, Nat.le_refl _, Nat.le_refl _⟩ ?_
  refine z_lstore_n C (lv' := [(2, .long x10), (1, .int x7), (0, .ref (B0 + 97))]) rfl (by decide) rfl dX12_readMake_31 ?_
  refine z_lload_n C rfl 0 rfl dX12_readMake_32 ?_
  refine z_bipush C (v := 97) (by decide) dX12_readMake_33 ?_
  refine z_bipush C (v := 110) (by decide) dX12_readMake_35 ?_
  refine z_bipush C (v := 100) (by decide) dX12_readMake_37 ?_
  refine z_iconst C (v := 0) (by decide) dX12_readMake_39 ?_
  refine z_iconst C (v := 0) (by decide) dX12_readMake_40 ?_
  obtain ⟨x12, hg11, h⟩ := zb1_e h
  refine z_callS C dX12_readMake_41 yy_X12_word (c_X12_word C.2.2.2.2.1  (97 : Int32) (110 : Int32) (100 : Int32) (0 : Int32) (0 : Int32) I8 L5 hg11) q_1397 q_1398 (by decide) (by decide) rfl rfl (Nat.le_of_ble_eq_true rfl) ⟨Nat.le_refl _, Nat.le_refl _, Nat.le_refl _, Nat.le_refl _⟩ ?_
  refine z_lif_ne C 52 (by decide) dX12_readMake_44 dX12_readMake_45 (fun hc => ?_) (fun hc => ?_)
  · have h := zif_f hc h
    refine z_lload_n C rfl 0 rfl dX12_readMake_52 ?_
    refine z_bipush C (v := 111) (by decide) dX12_readMake_53 ?_
    refine z_bipush C (v := 114) (by decide) dX12_readMake_55 ?_
    refine z_iconst C (v := 0) (by decide) dX12_readMake_57 ?_
    refine z_iconst C (v := 0) (by decide) dX12_readMake_58 ?_
    refine z_iconst C (v := 0) (by decide) dX12_readMake_59 ?_
    obtain ⟨x14, hg13, h⟩ := zb1_e h
    refine z_callS C dX12_readMake_60 yy_X12_word (c_X12_word C.2.2.2.2.1  (111 : Int32) (114 : Int32) (0 : Int32) (0 : Int32) (0 : Int32) I8 L5 hg13) q_1397 q_1398 (by decide) (by decide) rfl rfl (Nat.le_of_ble_eq_true rfl) ⟨Nat.le_refl _, Nat.le_refl _, Nat.le_refl _, Nat.le_refl _⟩ ?_
    refine z_lif_ne C 71 (by decide) dX12_readMake_63 dX12_readMake_64 (fun hc => ?_) (fun hc => ?_)
    · have h := zif_f hc h
      refine z_lload_n C rfl 0 rfl dX12_readMake_71 ?_
      refine z_bipush C (v := 108) (by decide) dX12_readMake_72 ?_
      refine z_bipush C (v := 101) (by decide) dX12_readMake_74 ?_
      refine z_bipush C (v := 115) (by decide) dX12_readMake_76 ?_
      refine z_bipush C (v := 115) (by decide) dX12_readMake_78 ?_
      refine z_iconst C (v := 0) (by decide) dX12_readMake_80 ?_
      obtain ⟨x16, hg15, h⟩ := zb1_e h
      refine z_callS C dX12_readMake_81 yy_X12_word (c_X12_word C.2.2.2.2.1  (108 : Int32) (101 : Int32) (115 : Int32) (115 : Int32) (0 : Int32) I8 L5 hg15) q_1397 q_1398 (by decide) (by decide) rfl rfl (Nat.le_of_ble_eq_true rfl) ⟨Nat.le_refl _, Nat.le_refl _, Nat.le_refl _, Nat.le_refl _⟩ ?_
      refine z_lif_ne C 92 (by decide) dX12_readMake_84 dX12_readMake_85 (fun hc => ?_) (fun hc => ?_)
      · have h := zif_f hc h
        refine z_iconst C (v := 0) (by decide) dX12_readMake_92 ?_
        refine z_lv [2, 1] (lv' := [(0, .ref (B0 + 97)), (1, .int x7)]) rfl ?_
        exact l_X12_readMake_93 C  x7 (0 : Int32) I8 L5 h
      · have h := zif_t hc h
        refine z_iconst C (v := 3) (by decide) dX12_readMake_88 ?_
        refine z_goto C 93 (by decide) dX12_readMake_89 ?_
        refine z_lv [2, 1] (lv' := [(0, .ref (B0 + 97)), (1, .int x7)]) rfl ?_
        exact l_X12_readMake_93 C  x7 (3 : Int32) I8 L5 h
    · have h := zif_t hc h
      refine z_iconst C (v := 2) (by decide) dX12_readMake_67 ?_
      refine z_goto C 93 (by decide) dX12_readMake_68 ?_
      refine z_lv [2, 1] (lv' := [(0, .ref (B0 + 97)), (1, .int x7)]) rfl ?_
      exact l_X12_readMake_93 C  x7 (2 : Int32) I8 L5 h
  · have h := zif_t hc h
    refine z_iconst C (v := 1) (by decide) dX12_readMake_48 ?_
    refine z_goto C 93 (by decide) dX12_readMake_49 ?_
    refine z_lv [2, 1] (lv' := [(0, .ref (B0 + 97)), (1, .int x7)]) rfl ?_
    exact l_X12_readMake_93 C  x7 (1 : Int32) I8 L5 h
set_option maxHeartbeats 4000000 in
set_option maxRecDepth 100000 in
theorem c_X12_readMake {r : zI × zL} (hE : zE0 l s0 a0 d cy B0) (I : zI) (L : zL) (h : f_X12_readMake I L = some r) : zM l s0 d cy B0 yX12_readMake cX12_readMake 6 none 4 89 [.ref (B0 + 97)] zSH zKn bc bs I L (.inl none) zSH zKn bc bs r.1 r.2 := by
  refine z_meth yy_X12_readMake hE (Nat.le_of_ble_eq_true rfl) (fun p e R s m args below meth c C => ?_)
  show zG p l e R s m args below meth c d cy B0 6 bc bs (zQ below s args d cy B0 bc bs (.inl none) zSH zKn bc bs r.1 r.2) 0 [(0, .ref (B0 + 97))] [] zSH zKn bc bs I L
  unfold f_X12_readMake at h
  refine z_aload_n C rfl 0 rfl dX12_readMake_0 ?_
  refine z_aload_n C rfl 0 rfl dX12_readMake_1 ?_
  refine z_geti C zc_12 dX12_readMake_2 50 97 rfl (by decide) (by decide) q_1219 rfl ?_
  refine z_bipush C (v := 24) (by decide) dX12_readMake_5 ?_
  refine z_icmp_ge C 14 (by decide) dX12_readMake_7 (fun hc => ?_) (fun hc => ?_)
  · have h := zif_t hc h
    refine z_iconst C (v := 0) (by decide) dX12_readMake_14 ?_
    exact l_X12_readMake_15 C  (0 : Int32) I L h
  · have h := zif_f hc h
    refine z_iconst C (v := 1) (by decide) dX12_readMake_10 ?_
    refine z_goto C 15 (by decide) dX12_readMake_11 ?_
    exact l_X12_readMake_15 C  (1 : Int32) I L h
theorem q_1431 : (Cond.code ({ cls := "DeviceFindModel", name := "readWire", desc := "()V" } : Jvm.MethodName) prog_14_method_25_code (4 : Nat) (Option.none : Option Jvm.ClassFile.FieldType)) ∈ lw_tbl := List.mem_of_getElem? (i := 1431) (by decide +kernel)
theorem yy_X12_readWire : zY yX12_readWire cX12_readWire 4 none 0 := ⟨q_1431, q_88, by decide +kernel, by decide +kernel, by decide +kernel⟩
def f_X12_readWire_66 (k36 : Int32 → Int32 → Int32 → zI → zL → Option zI) (v1 : Int32) (v3 : Int32) (w0 : Int32) (I : zI) (L : zL) : Option zI :=
  zlt (v3 + 1) (fun x18 => k36 v1 w0 x18 I L)
def f_X12_readWire_65 (k36 : Int32 → Int32 → Int32 → zI → zL → Option zI) (v1 : Int32) (v3 : Int32) (I : zI) (L : zL) : Option zI :=
  f_X12_readWire_66 k36 v1 v3 (0 : Int32) I L
def f_X12_readWire_118 (I : zI) (L : zL) : Option zI :=
  some I
def f_X12_readWire_36 (k36 : Int32 → Int32 → Int32 → zI → zL → Option zI) (v1 : Int32) (v2 : Int32) (v3 : Int32) (I : zI) (L : zL) : Option zI :=
  if (I 97 51) ≤ v3 then (zb1 (f_X12_take v2 I) (fun I6 => zb1 (f_X12_is (59 : Int32) I6) (fun x8 => zb1 (f_X12_take x8 I6) (fun I10 => if (I10 97 49) = 0 then (f_X12_readWire_118 I10 L) else (zlt ((8 : Int32) + (I10 97 51)) (fun x11 => zck (zbd x11 16) (zlt (zu I10 109 x11.toNatClampNeg v1) (fun I13 => zlt ((I13 97 51) + (1 : Int32)) (fun x14 => zlt (zu I13 97 51 x14) (fun I15 => f_X12_readWire_118 I15 L)))))))))) else (if v2 = 0 then (f_X12_readWire_65 k36 v1 v3 I L) else (zlt ((8 : Int32) + v3) (fun x16 => zck (zbd x16 16) (if (I 109 x16.toNatClampNeg) = v1 then (f_X12_readWire_65 k36 v1 v3 I L) else (f_X12_readWire_66 k36 v1 v3 (1 : Int32) I L)))))
def f_X12_readWire_33 (v1 : Int32) (w0 : Int32) (I : zI) (L : zL) : Option zI :=
  zlp5 (f_X12_readWire_36) zF v1 w0 (0 : Int32) I L
def f_X12_readWire_15 (w1 : Int32) (I : zI) (L : zL) : Option zI :=
  zb1 (f_X12_take w1 I) (fun I2 => zb1 (f_X12_layerAt I2 L) (fun x4 => if x4 = (-1 : Int32) then (f_X12_readWire_33 x4 (0 : Int32) I2 L) else (f_X12_readWire_33 x4 (1 : Int32) I2 L)))
def f_X12_readWire (I : zI) (L : zL) : Option zI :=
  if (8 : Int32) ≤ (I 97 51) then (f_X12_readWire_15 (0 : Int32) I L) else (f_X12_readWire_15 (1 : Int32) I L)
set_option maxHeartbeats 4000000 in
set_option maxRecDepth 100000 in
theorem l_X12_readWire_66 {r : zI} (C : zC p l e R s m args below meth c s0 a0 d cy B0 yX12_readWire.cls cX12_readWire 4 none bc bs bc bs 3 67 []) (k36 : Int32 → Int32 → Int32 → zI → zL → Option zI) (hk36 : ∀ (v1 : Int32) (v2 : Int32) (v3 : Int32) (I : zI) (L : zL), k36 v1 v2 v3 I L = some r → zG p l e R s m args below meth c d cy B0 4 bc bs (zQ below s args d cy B0 bc bs (.inl none) zSH zKn bc bs r L) 36 [(0, .ref (B0 + 97)), (1, .int v1), (2, .int v2), (3, .int v3)] [] zSH zKn bc bs I L) (v1 : Int32) (v3 : Int32) (w0 : Int32) (I : zI) (L : zL) (h : f_X12_readWire_66 k36 v1 v3 w0 I L = some r) : zG p l e R s m args below meth c d cy B0 4 bc bs (zQ below s args d cy B0 bc bs (.inl none) zSH zKn bc bs r L) 66 [(0, .ref (B0 + 97)), (1, .int v1), (3, .int v3)] [.int w0] zSH zKn bc bs I L := by
  unfold f_X12_readWire_66 at h
  refine z_istore_n C (lv' := [(2, .int w0), (0, .ref (B0 + 97)), (1, .int v1), (3, .int v3)]) rfl (by decide) rfl dX12_readWire_66 ?_
  obtain ⟨x18, ex18, h⟩ := zlt_e h
  refine z_iinc C (j := 3) (v := x18) (lv' := [(3, .int x18), (2, .int w0), (0, .ref (B0 + 97)), (1, .int v1)]) rfl (by rw [ex18]; rfl) (by decide) rfl dX12_readWire_67 ?_
  refine z_goto C 36 (by decide) dX12_readWire_70 ?_
  refine z_lv [2, 3, 1, 0] (lv' := [(0, .ref (B0 + 97)), (1, .int v1), (2, .int w0), (3, .int x18)]) rfl ?_
  exact hk36 v1 w0 x18 I L h
set_option maxHeartbeats 4000000 in
set_option maxRecDepth 100000 in
theorem l_X12_readWire_65 {r : zI} (C : zC p l e R s m args below meth c s0 a0 d cy B0 yX12_readWire.cls cX12_readWire 4 none bc bs bc bs 3 67 []) (k36 : Int32 → Int32 → Int32 → zI → zL → Option zI) (hk36 : ∀ (v1 : Int32) (v2 : Int32) (v3 : Int32) (I : zI) (L : zL), k36 v1 v2 v3 I L = some r → zG p l e R s m args below meth c d cy B0 4 bc bs (zQ below s args d cy B0 bc bs (.inl none) zSH zKn bc bs r L) 36 [(0, .ref (B0 + 97)), (1, .int v1), (2, .int v2), (3, .int v3)] [] zSH zKn bc bs I L) (v1 : Int32) (v3 : Int32) (I : zI) (L : zL) (h : f_X12_readWire_65 k36 v1 v3 I L = some r) : zG p l e R s m args below meth c d cy B0 4 bc bs (zQ below s args d cy B0 bc bs (.inl none) zSH zKn bc bs r L) 65 [(0, .ref (B0 + 97)), (1, .int v1), (3, .int v3)] [] zSH zKn bc bs I L := by
  unfold f_X12_readWire_65 at h
  refine z_iconst C (v := 0) (by decide) dX12_readWire_65 ?_
  exact l_X12_readWire_66 C k36 hk36 v1 v3 (0 : Int32) I L h
set_option maxHeartbeats 4000000 in
set_option maxRecDepth 100000 in
theorem l_X12_readWire_118 {r : zI} (C : zC p l e R s m args below meth c s0 a0 d cy B0 yX12_readWire.cls cX12_readWire 4 none bc bs bc bs 3 67 []) (I : zI) (L : zL) (h : f_X12_readWire_118 I L = some r) : zG p l e R s m args below meth c d cy B0 4 bc bs (zQ below s args d cy B0 bc bs (.inl none) zSH zKn bc bs r L) 118 [] [] zSH zKn bc bs I L := by
  unfold f_X12_readWire_118 at h
  obtain rfl := Option.some.inj h
  exact z_vret C dX12_readWire_118 rfl rfl
set_option maxHeartbeats 4000000 in
set_option maxRecDepth 100000 in
theorem l_X12_readWire_36 {r : zI} (C : zC p l e R s m args below meth c s0 a0 d cy B0 yX12_readWire.cls cX12_readWire 4 none bc bs bc bs 3 67 []) (k36 : Int32 → Int32 → Int32 → zI → zL → Option zI) (hk36 : ∀ (v1 : Int32) (v2 : Int32) (v3 : Int32) (I : zI) (L : zL), k36 v1 v2 v3 I L = some r → zG p l e R s m args below meth c d cy B0 4 bc bs (zQ below s args d cy B0 bc bs (.inl none) zSH zKn bc bs r L) 36 [(0, .ref (B0 + 97)), (1, .int v1), (2, .int v2), (3, .int v3)] [] zSH zKn bc bs I L) (v1 : Int32) (v2 : Int32) (v3 : Int32) (I : zI) (L : zL) (h : f_X12_readWire_36 k36 v1 v2 v3 I L = some r) : zG p l e R s m args below meth c d cy B0 4 bc bs (zQ below s args d cy B0 bc bs (.inl none) zSH zKn bc bs r L) 36 [(0, .ref (B0 + 97)), (1, .int v1), (2, .int v2), (3, .int v3)] [] zSH zKn bc bs I L := by
  unfold f_X12_readWire_36 at h
  refine z_iload_n C rfl 3 rfl dX12_readWire_36 ?_
  refine z_aload_n C rfl 0 rfl dX12_readWire_37 ?_
  refine z_geti C zc_12 dX12_readWire_38 51 97 rfl (by decide) (by decide) q_1220 rfl ?_
  refine z_icmp_ge C 73 (by decide) dX12_readWire_41 (fun hc => ?_) (fun hc => ?_)
  · have h := zif_t hc h
    refine z_aload_n C rfl 0 rfl dX12_readWire_73 ?_
    refine z_iload_n C rfl 2 rfl dX12_readWire_74 ?_
    obtain ⟨I6, hg5, h⟩ := zb1_e h
    refine z_callV C zc_12 rfl (by decide) dX12_readWire_75 yy_X12_take (c_X12_take C.2.2.2.2.1  v2 I L hg5) q_1404 q_1406 q_48 (by decide) (by decide) rfl rfl (Nat.le_of_ble_eq_true rfl) ⟨Nat.le_refl _, Nat.le_refl _, Nat.le_refl _, Nat.le_refl _⟩ ?_
    refine z_aload_n C rfl 0 rfl dX12_readWire_78 ?_
    refine z_aload_n C rfl 0 rfl dX12_readWire_79 ?_
    refine z_bipush C (v := 59) (by decide) dX12_readWire_80 ?_
    obtain ⟨x8, hg7, h⟩ := zb1_e h
    refine z_callV C zc_12 rfl (by decide) dX12_readWire_82 yy_X12_is (c_X12_is C.2.2.2.2.1  (59 : Int32) I6 L hg7) q_1416 q_1418 q_51 (by decide) (by decide) rfl rfl (Nat.le_of_ble_eq_true rfl) ⟨Nat.le_refl _, Nat.le_refl _, Nat.le_refl _, Nat.le_refl _⟩ ?_
    obtain ⟨I10, hg9, h⟩ := zb1_e h
    refine z_callV C zc_12 rfl (by decide) dX12_readWire_85 yy_X12_take (c_X12_take C.2.2.2.2.1  x8 I6 L hg9) q_1404 q_1406 q_48 (by decide) (by decide) rfl rfl (Nat.le_of_ble_eq_true rfl) ⟨Nat.le_refl _, Nat.le_refl _, Nat.le_refl _, Nat.le_refl _⟩ ?_
    refine z_aload_n C rfl 0 rfl dX12_readWire_88 ?_
    refine z_geti C zc_12 dX12_readWire_89 49 97 rfl (by decide) (by decide) q_1218 rfl ?_
    refine z_if_eq C 118 (by decide) dX12_readWire_92 (fun hc => ?_) (fun hc => ?_)
    · have h := zif_t hc h
      refine z_lv [] (lv' := []) rfl ?_
      exact l_X12_readWire_118 C  I10 L h
    · have h := zif_f hc h
      refine z_aload_n C rfl 0 rfl dX12_readWire_95 ?_
      refine z_getr C zc_12 dX12_readWire_96 20 97 109 rfl (by decide) (by decide) q_1189 rfl rfl ?_
      refine z_bipush C (v := 8) (by decide) dX12_readWire_99 ?_
      refine z_aload_n C rfl 0 rfl dX12_readWire_101 ?_
      refine z_geti C zc_12 dX12_readWire_102 51 97 rfl (by decide) (by decide) q_1220 rfl ?_
      refine z_iadd C dX12_readWire_105 ?_
      obtain ⟨x11, ex11, h⟩ := zlt_e h
      refine z_eqi C ex11 ?_
      refine z_iload_n C rfl 1 rfl dX12_readWire_106 ?_
      obtain ⟨hb12, h⟩ := zck_e h
      refine z_iastore C dX12_readWire_107 rfl rfl (by decide) (zbd_in hb12) ?_
      obtain ⟨I13, eI13, h⟩ := zlt_e h
      refine z_eqI C eI13 ?_
      refine z_aload_n C rfl 0 rfl dX12_readWire_108 ?_
      refine z_dup C rfl dX12_readWire_109 ?_
      refine z_geti C zc_12 dX12_readWire_110 51 97 rfl (by decide) (by decide) q_1220 rfl ?_
      refine z_iconst C (v := 1) (by decide) dX12_readWire_113 ?_
      refine z_iadd C dX12_readWire_114 ?_
      obtain ⟨x14, ex14, h⟩ := zlt_e h
      refine z_eqi C ex14 ?_
      refine z_puti C zc_12 dX12_readWire_115 51 97 rfl (by decide) (by decide) rfl q_1220 rfl rfl rfl ?_
      obtain ⟨I15, eI15, h⟩ := zlt_e h
      refine z_eqI C eI15 ?_
      refine z_lv [] (lv' := []) rfl ?_
      exact l_X12_readWire_118 C  I15 L h
  · have h := zif_f hc h
    refine z_iload_n C rfl 2 rfl dX12_readWire_44 ?_
    refine z_if_eq C 65 (by decide) dX12_readWire_45 (fun hc => ?_) (fun hc => ?_)
    · have h := zif_t hc h
      refine z_lv [0, 1, 3] (lv' := [(0, .ref (B0 + 97)), (1, .int v1), (3, .int v3)]) rfl ?_
      exact l_X12_readWire_65 C k36 hk36 v1 v3 I L h
    · have h := zif_f hc h
      refine z_aload_n C rfl 0 rfl dX12_readWire_48 ?_
      refine z_getr C zc_12 dX12_readWire_49 20 97 109 rfl (by decide) (by decide) q_1189 rfl rfl ?_
      refine z_bipush C (v := 8) (by decide) dX12_readWire_52 ?_
      refine z_iload_n C rfl 3 rfl dX12_readWire_54 ?_
      refine z_iadd C dX12_readWire_55 ?_
      obtain ⟨x16, ex16, h⟩ := zlt_e h
      refine z_eqi C ex16 ?_
      obtain ⟨hb17, h⟩ := zck_e h
      refine z_iaload C dX12_readWire_56 rfl rfl (by decide) (zbd_in hb17) ?_
      refine z_iload_n C rfl 1 rfl dX12_readWire_57 ?_
      refine z_icmp_eq C 65 (by decide) dX12_readWire_58 (fun hc => ?_) (fun hc => ?_)
      · have h := zif_t hc h
        refine z_lv [0, 1, 3] (lv' := [(0, .ref (B0 + 97)), (1, .int v1), (3, .int v3)]) rfl ?_
        exact l_X12_readWire_65 C k36 hk36 v1 v3 I L h
      · have h := zif_f hc h
        refine z_iconst C (v := 1) (by decide) dX12_readWire_61 ?_
        refine z_goto C 66 (by decide) dX12_readWire_62 ?_
        refine z_lv [0, 1, 3] (lv' := [(0, .ref (B0 + 97)), (1, .int v1), (3, .int v3)]) rfl ?_
        exact l_X12_readWire_66 C k36 hk36 v1 v3 (1 : Int32) I L h
set_option maxHeartbeats 4000000 in
set_option maxRecDepth 100000 in
theorem L_X12_readWire_36 {r : zI} (C : zC p l e R s m args below meth c s0 a0 d cy B0 yX12_readWire.cls cX12_readWire 4 none bc bs bc bs 3 67 []) (v1 : Int32) (v2 : Int32) (v3 : Int32) (I : zI) (L : zL) (h : zlp5 (f_X12_readWire_36) zF v1 v2 v3 I L = some r) : zG p l e R s m args below meth c d cy B0 4 bc bs (zQ below s args d cy B0 bc bs (.inl none) zSH zKn bc bs r L) 36 [(0, .ref (B0 + 97)), (1, .int v1), (2, .int v2), (3, .int v3)] [] zSH zKn bc bs I L :=
 zlp5_e (fun (v1 : Int32) (v2 : Int32) (v3 : Int32) (I : zI) (L : zL) => zG p l e R s m args below meth c d cy B0 4 bc bs (zQ below s args d cy B0 bc bs (.inl none) zSH zKn bc bs r L) 36 [(0, .ref (B0 + 97)), (1, .int v1), (2, .int v2), (3, .int v3)] [] zSH zKn bc bs I L) (fun k9 hk9 v1 v2 v3 I L h => l_X12_readWire_36 C k9 hk9 v1 v2 v3 I L h) zF v1 v2 v3 I L h
set_option maxHeartbeats 4000000 in
set_option maxRecDepth 100000 in
theorem l_X12_readWire_33 {r : zI} (C : zC p l e R s m args below meth c s0 a0 d cy B0 yX12_readWire.cls cX12_readWire 4 none bc bs bc bs 3 67 []) (v1 : Int32) (w0 : Int32) (I : zI) (L : zL) (h : f_X12_readWire_33 v1 w0 I L = some r) : zG p l e R s m args below meth c d cy B0 4 bc bs (zQ below s args d cy B0 bc bs (.inl none) zSH zKn bc bs r L) 33 [(0, .ref (B0 + 97)), (1, .int v1)] [.int w0] zSH zKn bc bs I L := by
  unfold f_X12_readWire_33 at h
  refine z_istore_n C (lv' := [(2, .int w0), (0, .ref (B0 + 97)), (1, .int v1)]) rfl (by decide) rfl dX12_readWire_33 ?_
  refine z_iconst C (v := 0) (by decide) dX12_readWire_34 ?_
  refine z_istore_n C (lv' := [(3, .int (0 : Int32)), (2, .int w0), (0, .ref (B0 + 97)), (1, .int v1)]) rfl (by decide) rfl dX12_readWire_35 ?_
  refine z_lv [2, 3, 1, 0] (lv' := [(0, .ref (B0 + 97)), (1, .int v1), (2, .int w0), (3, .int (0 : Int32))]) rfl ?_
  exact L_X12_readWire_36 C  v1 w0 (0 : Int32) I L h
set_option maxHeartbeats 4000000 in
set_option maxRecDepth 100000 in
theorem l_X12_readWire_15 {r : zI} (C : zC p l e R s m args below meth c s0 a0 d cy B0 yX12_readWire.cls cX12_readWire 4 none bc bs bc bs 3 67 []) (w1 : Int32) (I : zI) (L : zL) (h : f_X12_readWire_15 w1 I L = some r) : zG p l e R s m args below meth c d cy B0 4 bc bs (zQ below s args d cy B0 bc bs (.inl none) zSH zKn bc bs r L) 15 [(0, .ref (B0 + 97))] [.int w1, .ref (B0 + 97)] zSH zKn bc bs I L := by
  unfold f_X12_readWire_15 at h
  obtain ⟨I2, hg1, h⟩ := zb1_e h
  refine z_callV C zc_12 rfl (by decide) dX12_readWire_15 yy_X12_take (c_X12_take C.2.2.2.2.1  w1 I L hg1) q_1404 q_1406 q_48 (by decide) (by decide) rfl rfl (Nat.le_of_ble_eq_true rfl) ⟨Nat.le_refl _, Nat.le_refl _, Nat.le_refl _, Nat.le_refl _⟩ ?_
  refine z_aload_n C rfl 0 rfl dX12_readWire_18 ?_
  obtain ⟨x4, hg3, h⟩ := zb1_e h
  refine z_callV C zc_12 rfl (by decide) dX12_readWire_19 yy_X12_layerAt (c_X12_layerAt C.2.2.2.2.1  I2 L hg3) q_1412 q_1414 q_50 (by decide) (by decide) rfl rfl (Nat.le_of_ble_eq_true rfl) ⟨Nat.le_refl _, Nat.le_refl _, Nat.le_refl _, Nat.le_refl _⟩ ?_
  refine z_istore_n C (lv' := [(1, .int x4), (0, .ref (B0 + 97))]) rfl (by decide) rfl dX12_readWire_22 ?_
  refine z_iload_n C rfl 0 rfl dX12_readWire_23 ?_
  refine z_iconst C (v := -1) (by decide) dX12_readWire_24 ?_
  refine z_icmp_eq C 32 (by decide) dX12_readWire_25 (fun hc => ?_) (fun hc => ?_)
  · have h := zif_t hc h
    refine z_iconst C (v := 0) (by decide) dX12_readWire_32 ?_
    refine z_lv [1, 0] (lv' := [(0, .ref (B0 + 97)), (1, .int x4)]) rfl ?_
    exact l_X12_readWire_33 C  x4 (0 : Int32) I2 L h
  · have h := zif_f hc h
    refine z_iconst C (v := 1) (by decide) dX12_readWire_28 ?_
    refine z_goto C 33 (by decide) dX12_readWire_29 ?_
    refine z_lv [1, 0] (lv' := [(0, .ref (B0 + 97)), (1, .int x4)]) rfl ?_
    exact l_X12_readWire_33 C  x4 (1 : Int32) I2 L h
set_option maxHeartbeats 4000000 in
set_option maxRecDepth 100000 in
theorem c_X12_readWire {r : zI} (hE : zE0 l s0 a0 d cy B0) (I : zI) (L : zL) (h : f_X12_readWire I L = some r) : zM l s0 d cy B0 yX12_readWire cX12_readWire 4 none 3 67 [.ref (B0 + 97)] zSH zKn bc bs I L (.inl none) zSH zKn bc bs r L := by
  refine z_meth yy_X12_readWire hE (Nat.le_of_ble_eq_true rfl) (fun p e R s m args below meth c C => ?_)
  show zG p l e R s m args below meth c d cy B0 4 bc bs (zQ below s args d cy B0 bc bs (.inl none) zSH zKn bc bs r L) 0 [(0, .ref (B0 + 97))] [] zSH zKn bc bs I L
  unfold f_X12_readWire at h
  refine z_aload_n C rfl 0 rfl dX12_readWire_0 ?_
  refine z_aload_n C rfl 0 rfl dX12_readWire_1 ?_
  refine z_geti C zc_12 dX12_readWire_2 51 97 rfl (by decide) (by decide) q_1220 rfl ?_
  refine z_bipush C (v := 8) (by decide) dX12_readWire_5 ?_
  refine z_icmp_ge C 14 (by decide) dX12_readWire_7 (fun hc => ?_) (fun hc => ?_)
  · have h := zif_t hc h
    refine z_iconst C (v := 0) (by decide) dX12_readWire_14 ?_
    exact l_X12_readWire_15 C  (0 : Int32) I L h
  · have h := zif_f hc h
    refine z_iconst C (v := 1) (by decide) dX12_readWire_10 ?_
    refine z_goto C 15 (by decide) dX12_readWire_11 ?_
    exact l_X12_readWire_15 C  (1 : Int32) I L h
theorem q_56 : Cond.selects "DeviceFindModel" ⟨"DeviceFindModel", "takeWire", "()I"⟩ ⟨"DeviceFindModel", "takeWire", "()I"⟩ ∈ lw_tbl := List.mem_of_getElem? (i := 56) (by decide +kernel)
theorem q_1190 : (Cond.fieldLink "DeviceFindModel" (47 : Nat) "DeviceFindModel" "joinA" "[I") ∈ lw_tbl := List.mem_of_getElem? (i := 1190) (by decide +kernel)
theorem q_1191 : (Cond.fieldLink "DeviceFindModel" (50 : Nat) "DeviceFindModel" "joinB" "[I") ∈ lw_tbl := List.mem_of_getElem? (i := 1191) (by decide +kernel)
theorem q_1192 : (Cond.fieldLink "DeviceFindModel" (53 : Nat) "DeviceFindModel" "joinBy" "[I") ∈ lw_tbl := List.mem_of_getElem? (i := 1192) (by decide +kernel)
theorem q_1221 : (Cond.fieldLink "DeviceFindModel" (205 : Nat) "DeviceFindModel" "newJoins" "I") ∈ lw_tbl := List.mem_of_getElem? (i := 1221) (by decide +kernel)
theorem q_1435 : (Cond.code ({ cls := "DeviceFindModel", name := "readJoin", desc := "()V" } : Jvm.MethodName) prog_14_method_26_code (4 : Nat) (Option.none : Option Jvm.ClassFile.FieldType)) ∈ lw_tbl := List.mem_of_getElem? (i := 1435) (by decide +kernel)
theorem q_1436 : (Cond.methodLink "DeviceFindModel" (208 : Nat) ({ cls := "DeviceFindModel", name := "takeWire", desc := "()I" } : Jvm.MethodName)) ∈ lw_tbl := List.mem_of_getElem? (i := 1436) (by decide +kernel)
theorem q_1438 : (Cond.instanceMethod ({ cls := "DeviceFindModel", name := "takeWire", desc := "()I" } : Jvm.MethodName)) ∈ lw_tbl := List.mem_of_getElem? (i := 1438) (by decide +kernel)
theorem yy_X12_readJoin : zY yX12_readJoin cX12_readJoin 4 none 0 := ⟨q_1435, q_88, by decide +kernel, by decide +kernel, by decide +kernel⟩
def f_X12_readJoin_126 (I : zI) (L : zL) : Option zI :=
  some I
def f_X12_readJoin_52 (v1 : Int32) (v2 : Int32) (w1 : Int32) (I : zI) (L : zL) : Option zI :=
  zb1 (f_X12_take w1 I) (fun I14 => zb2 (f_X12_takeLayer I14 L) (fun x16 I17 => zb1 (f_X12_is (59 : Int32) I17) (fun x19 => zb1 (f_X12_take x19 I17) (fun I21 => if (I21 97 49) = 0 then (f_X12_readJoin_126 I21 L) else (zlt ((16 : Int32) + (I21 97 52)) (fun x22 => zck (zbd x22 32) (zlt (zu I21 110 x22.toNatClampNeg v1) (fun I24 => zlt ((16 : Int32) + (I24 97 52)) (fun x25 => zck (zbd x25 32) (zlt (zu I24 111 x25.toNatClampNeg v2) (fun I27 => zlt ((16 : Int32) + (I27 97 52)) (fun x28 => zck (zbd x28 32) (zlt (zu I27 112 x28.toNatClampNeg x16) (fun I30 => zlt ((I30 97 52) + (1 : Int32)) (fun x31 => zlt (zu I30 97 52 x31) (fun I32 => f_X12_readJoin_126 I32 L))))))))))))))))
def f_X12_readJoin_15 (w1 : Int32) (I : zI) (L : zL) : Option zI :=
  zb1 (f_X12_take w1 I) (fun I2 => zb2 (f_X12_takeWire I2 L) (fun x4 I5 => zb2 (f_X12_takeWire I5 L) (fun x7 I8 => zb1 (f_X12_name I8) (fun x10 => zb1 (f_X12_word (98 : Int32) (121 : Int32) (0 : Int32) (0 : Int32) (0 : Int32)) (fun x12 => if x10 = x12 then (f_X12_readJoin_52 x4 x7 (1 : Int32) I8 L) else (f_X12_readJoin_52 x4 x7 (0 : Int32) I8 L))))))
def f_X12_readJoin (I : zI) (L : zL) : Option zI :=
  if (16 : Int32) ≤ (I 97 52) then (f_X12_readJoin_15 (0 : Int32) I L) else (f_X12_readJoin_15 (1 : Int32) I L)
set_option maxHeartbeats 4000000 in
set_option maxRecDepth 100000 in
theorem l_X12_readJoin_126 {r : zI} (C : zC p l e R s m args below meth c s0 a0 d cy B0 yX12_readJoin.cls cX12_readJoin 4 none bc bs bc bs 4 90 []) (I : zI) (L : zL) (h : f_X12_readJoin_126 I L = some r) : zG p l e R s m args below meth c d cy B0 4 bc bs (zQ below s args d cy B0 bc bs (.inl none) zSH zKn bc bs r L) 126 [] [] zSH zKn bc bs I L := by
  unfold f_X12_readJoin_126 at h
  obtain rfl := Option.some.inj h
  exact z_vret C dX12_readJoin_126 rfl rfl
set_option maxHeartbeats 4000000 in
set_option maxRecDepth 100000 in
theorem l_X12_readJoin_52 {r : zI} (C : zC p l e R s m args below meth c s0 a0 d cy B0 yX12_readJoin.cls cX12_readJoin 4 none bc bs bc bs 4 90 []) (v1 : Int32) (v2 : Int32) (w1 : Int32) (I : zI) (L : zL) (h : f_X12_readJoin_52 v1 v2 w1 I L = some r) : zG p l e R s m args below meth c d cy B0 4 bc bs (zQ below s args d cy B0 bc bs (.inl none) zSH zKn bc bs r L) 52 [(0, .ref (B0 + 97)), (1, .int v1), (2, .int v2)] [.int w1, .ref (B0 + 97)] zSH zKn bc bs I L := by
  unfold f_X12_readJoin_52 at h
  obtain ⟨I14, hg13, h⟩ := zb1_e h
  refine z_callV C zc_12 rfl (by decide) dX12_readJoin_52 yy_X12_take (c_X12_take C.2.2.2.2.1  w1 I L hg13) q_1404 q_1406 q_48 (by decide) (by decide) rfl rfl (Nat.le_of_ble_eq_true rfl) ⟨Nat.le_refl _, Nat.le_refl _, Nat.le_refl _, Nat.le_refl _⟩ ?_
  refine z_aload_n C rfl 0 rfl dX12_readJoin_55 ?_
  obtain ⟨x16, I17, hg15, h⟩ := zb2_e h
  refine z_callV C zc_12 rfl (by decide) dX12_readJoin_56 yy_X12_takeLayer (c_X12_takeLayer C.2.2.2.2.1  I14 L hg15) q_1424 q_1426 q_53 (by decide) (by decide) rfl rfl (Nat.le_of_ble_eq_true rfl) ⟨Nat.le_refl _, Nat.le_refl _, Nat.le_refl _, Nat.le_refl _⟩ ?_
  refine z_istore_n C (lv' := [(3, .int x16), (0, .ref (B0 + 97)), (1, .int v1), (2, .int v2)]) rfl (by decide) rfl dX12_readJoin_59 ?_
  refine z_aload_n C rfl 1 rfl dX12_readJoin_60 ?_
  refine z_aload_n C rfl 1 rfl dX12_readJoin_61 ?_
  refine z_bipush C (v := 59) (by decide) dX12_readJoin_62 ?_
  obtain ⟨x19, hg18, h⟩ := zb1_e h
  refine z_callV C zc_12 rfl (by decide) dX12_readJoin_64 yy_X12_is (c_X12_is C.2.2.2.2.1  (59 : Int32) I17 L hg18) q_1416 q_1418 q_51 (by decide) (by decide) rfl rfl (Nat.le_of_ble_eq_true rfl) ⟨Nat.le_refl _, Nat.le_refl _, Nat.le_refl _, Nat.le_refl _⟩ ?_
  obtain ⟨I21, hg20, h⟩ := zb1_e h
  refine z_callV C zc_12 rfl (by decide) dX12_readJoin_67 yy_X12_take (c_X12_take C.2.2.2.2.1  x19 I17 L hg20) q_1404 q_1406 q_48 (by decide) (by decide) rfl rfl (Nat.le_of_ble_eq_true rfl) ⟨Nat.le_refl _, Nat.le_refl _, Nat.le_refl _, Nat.le_refl _⟩ ?_
  refine z_aload_n C rfl 1 rfl dX12_readJoin_70 ?_
  refine z_geti C zc_12 dX12_readJoin_71 49 97 rfl (by decide) (by decide) q_1218 rfl ?_
  refine z_if_eq C 126 (by decide) dX12_readJoin_74 (fun hc => ?_) (fun hc => ?_)
  · have h := zif_t hc h
    refine z_lv [] (lv' := []) rfl ?_
    exact l_X12_readJoin_126 C  I21 L h
  · have h := zif_f hc h
    refine z_aload_n C rfl 1 rfl dX12_readJoin_77 ?_
    refine z_getr C zc_12 dX12_readJoin_78 21 97 110 rfl (by decide) (by decide) q_1190 rfl rfl ?_
    refine z_bipush C (v := 16) (by decide) dX12_readJoin_81 ?_
    refine z_aload_n C rfl 1 rfl dX12_readJoin_83 ?_
    refine z_geti C zc_12 dX12_readJoin_84 52 97 rfl (by decide) (by decide) q_1221 rfl ?_
    refine z_iadd C dX12_readJoin_87 ?_
    obtain ⟨x22, ex22, h⟩ := zlt_e h
    refine z_eqi C ex22 ?_
    refine z_iload_n C rfl 2 rfl dX12_readJoin_88 ?_
    obtain ⟨hb23, h⟩ := zck_e h
    refine z_iastore C dX12_readJoin_89 rfl rfl (by decide) (zbd_in hb23) ?_
    obtain ⟨I24, eI24, h⟩ := zlt_e h
    refine z_eqI C eI24 ?_
    refine z_aload_n C rfl 1 rfl dX12_readJoin_90 ?_
    refine z_getr C zc_12 dX12_readJoin_91 22 97 111 rfl (by decide) (by decide) q_1191 rfl rfl ?_
    refine z_bipush C (v := 16) (by decide) dX12_readJoin_94 ?_
    refine z_aload_n C rfl 1 rfl dX12_readJoin_96 ?_
    refine z_geti C zc_12 dX12_readJoin_97 52 97 rfl (by decide) (by decide) q_1221 rfl ?_
    refine z_iadd C dX12_readJoin_100 ?_
    obtain ⟨x25, ex25, h⟩ := zlt_e h
    refine z_eqi C ex25 ?_
    refine z_iload_n C rfl 3 rfl dX12_readJoin_101 ?_
    obtain ⟨hb26, h⟩ := zck_e h
    refine z_iastore C dX12_readJoin_102 rfl rfl (by decide) (zbd_in hb26) ?_
    obtain ⟨I27, eI27, h⟩ := zlt_e h
    refine z_eqI C eI27 ?_
    refine z_aload_n C rfl 1 rfl dX12_readJoin_103 ?_
    refine z_getr C zc_12 dX12_readJoin_104 23 97 112 rfl (by decide) (by decide) q_1192 rfl rfl ?_
    refine z_bipush C (v := 16) (by decide) dX12_readJoin_107 ?_
    refine z_aload_n C rfl 1 rfl dX12_readJoin_109 ?_
    refine z_geti C zc_12 dX12_readJoin_110 52 97 rfl (by decide) (by decide) q_1221 rfl ?_
    refine z_iadd C dX12_readJoin_113 ?_
    obtain ⟨x28, ex28, h⟩ := zlt_e h
    refine z_eqi C ex28 ?_
    refine z_iload_n C rfl 0 rfl dX12_readJoin_114 ?_
    obtain ⟨hb29, h⟩ := zck_e h
    refine z_iastore C dX12_readJoin_115 rfl rfl (by decide) (zbd_in hb29) ?_
    obtain ⟨I30, eI30, h⟩ := zlt_e h
    refine z_eqI C eI30 ?_
    refine z_aload_n C rfl 1 rfl dX12_readJoin_116 ?_
    refine z_dup C rfl dX12_readJoin_117 ?_
    refine z_geti C zc_12 dX12_readJoin_118 52 97 rfl (by decide) (by decide) q_1221 rfl ?_
    refine z_iconst C (v := 1) (by decide) dX12_readJoin_121 ?_
    refine z_iadd C dX12_readJoin_122 ?_
    obtain ⟨x31, ex31, h⟩ := zlt_e h
    refine z_eqi C ex31 ?_
    refine z_puti C zc_12 dX12_readJoin_123 52 97 rfl (by decide) (by decide) rfl q_1221 rfl rfl rfl ?_
    obtain ⟨I32, eI32, h⟩ := zlt_e h
    refine z_eqI C eI32 ?_
    refine z_lv [] (lv' := []) rfl ?_
    exact l_X12_readJoin_126 C  I32 L h
set_option maxHeartbeats 4000000 in
set_option maxRecDepth 100000 in
theorem l_X12_readJoin_15 {r : zI} (C : zC p l e R s m args below meth c s0 a0 d cy B0 yX12_readJoin.cls cX12_readJoin 4 none bc bs bc bs 4 90 []) (w1 : Int32) (I : zI) (L : zL) (h : f_X12_readJoin_15 w1 I L = some r) : zG p l e R s m args below meth c d cy B0 4 bc bs (zQ below s args d cy B0 bc bs (.inl none) zSH zKn bc bs r L) 15 [(0, .ref (B0 + 97))] [.int w1, .ref (B0 + 97)] zSH zKn bc bs I L := by
  unfold f_X12_readJoin_15 at h
  obtain ⟨I2, hg1, h⟩ := zb1_e h
  refine z_callV C zc_12 rfl (by decide) dX12_readJoin_15 yy_X12_take (c_X12_take C.2.2.2.2.1  w1 I L hg1) q_1404 q_1406 q_48 (by decide) (by decide) rfl rfl (Nat.le_of_ble_eq_true rfl) ⟨Nat.le_refl _, Nat.le_refl _, Nat.le_refl _, Nat.le_refl _⟩ ?_
  refine z_aload_n C rfl 0 rfl dX12_readJoin_18 ?_
  obtain ⟨x4, I5, hg3, h⟩ := zb2_e h
  refine z_callV C zc_12 rfl (by decide) dX12_readJoin_19 yy_X12_takeWire (c_X12_takeWire C.2.2.2.2.1  I2 L hg3) q_1436 q_1438 q_56 (by decide) (by decide) rfl rfl (Nat.le_of_ble_eq_true rfl) ⟨Nat.le_refl _, Nat.le_refl _, Nat.le_refl _, Nat.le_refl _⟩ ?_
  refine z_istore_n C (lv' := [(1, .int x4), (0, .ref (B0 + 97))]) rfl (by decide) rfl dX12_readJoin_22 ?_
  refine z_aload_n C rfl 1 rfl dX12_readJoin_23 ?_
  obtain ⟨x7, I8, hg6, h⟩ := zb2_e h
  refine z_callV C zc_12 rfl (by decide) dX12_readJoin_24 yy_X12_takeWire (c_X12_takeWire C.2.2.2.2.1  I5 L hg6) q_1436 q_1438 q_56 (by decide) (by decide) rfl rfl (Nat.le_of_ble_eq_true rfl) ⟨Nat.le_refl _, Nat.le_refl _, Nat.le_refl _, Nat.le_refl _⟩ ?_
  refine z_istore_n C (lv' := [(2, .int x7), (1, .int x4), (0, .ref (B0 + 97))]) rfl (by decide) rfl dX12_readJoin_27 ?_
  refine z_aload_n C rfl 2 rfl dX12_readJoin_28 ?_
  refine z_aload_n C rfl 2 rfl dX12_readJoin_29 ?_
  obtain ⟨x10, hg9, h⟩ := zb1_e h
  refine z_callV C zc_12 rfl (by decide) dX12_readJoin_30 yy_X12_name (c_X12_name C.2.2.2.2.1  I8 L hg9) q_1391 q_1393 q_46 (by decide) (by decide) rfl rfl (Nat.le_of_ble_eq_true rfl) ⟨Nat.le_refl _, Nat.le_refl _, Nat.le_refl _, Nat.le_refl _⟩ ?_
  refine z_bipush C (v := 98) (by decide) dX12_readJoin_33 ?_
  refine z_bipush C (v := 121) (by decide) dX12_readJoin_35 ?_
  refine z_iconst C (v := 0) (by decide) dX12_readJoin_37 ?_
  refine z_iconst C (v := 0) (by decide) dX12_readJoin_38 ?_
  refine z_iconst C (v := 0) (by decide) dX12_readJoin_39 ?_
  obtain ⟨x12, hg11, h⟩ := zb1_e h
  refine z_callS C dX12_readJoin_40 yy_X12_word (c_X12_word C.2.2.2.2.1  (98 : Int32) (121 : Int32) (0 : Int32) (0 : Int32) (0 : Int32) I8 L hg11) q_1397 q_1398 (by decide) (by decide) rfl rfl (Nat.le_of_ble_eq_true rfl) ⟨Nat.le_refl _, Nat.le_refl _, Nat.le_refl _, Nat.le_refl _⟩ ?_
  refine z_lif_ne C 51 (by decide) dX12_readJoin_43 dX12_readJoin_44 (fun hc => ?_) (fun hc => ?_)
  · have h := zif_f hc h
    refine z_iconst C (v := 0) (by decide) dX12_readJoin_51 ?_
    refine z_lv [2, 1, 0] (lv' := [(0, .ref (B0 + 97)), (1, .int x4), (2, .int x7)]) rfl ?_
    exact l_X12_readJoin_52 C  x4 x7 (0 : Int32) I8 L h
  · have h := zif_t hc h
    refine z_iconst C (v := 1) (by decide) dX12_readJoin_47 ?_
    refine z_goto C 52 (by decide) dX12_readJoin_48 ?_
    refine z_lv [2, 1, 0] (lv' := [(0, .ref (B0 + 97)), (1, .int x4), (2, .int x7)]) rfl ?_
    exact l_X12_readJoin_52 C  x4 x7 (1 : Int32) I8 L h
set_option maxHeartbeats 4000000 in
set_option maxRecDepth 100000 in
theorem c_X12_readJoin {r : zI} (hE : zE0 l s0 a0 d cy B0) (I : zI) (L : zL) (h : f_X12_readJoin I L = some r) : zM l s0 d cy B0 yX12_readJoin cX12_readJoin 4 none 4 90 [.ref (B0 + 97)] zSH zKn bc bs I L (.inl none) zSH zKn bc bs r L := by
  refine z_meth yy_X12_readJoin hE (Nat.le_of_ble_eq_true rfl) (fun p e R s m args below meth c C => ?_)
  show zG p l e R s m args below meth c d cy B0 4 bc bs (zQ below s args d cy B0 bc bs (.inl none) zSH zKn bc bs r L) 0 [(0, .ref (B0 + 97))] [] zSH zKn bc bs I L
  unfold f_X12_readJoin at h
  refine z_aload_n C rfl 0 rfl dX12_readJoin_0 ?_
  refine z_aload_n C rfl 0 rfl dX12_readJoin_1 ?_
  refine z_geti C zc_12 dX12_readJoin_2 52 97 rfl (by decide) (by decide) q_1221 rfl ?_
  refine z_bipush C (v := 16) (by decide) dX12_readJoin_5 ?_
  refine z_icmp_ge C 14 (by decide) dX12_readJoin_7 (fun hc => ?_) (fun hc => ?_)
  · have h := zif_t hc h
    refine z_iconst C (v := 0) (by decide) dX12_readJoin_14 ?_
    exact l_X12_readJoin_15 C  (0 : Int32) I L h
  · have h := zif_f hc h
    refine z_iconst C (v := 1) (by decide) dX12_readJoin_10 ?_
    refine z_goto C 15 (by decide) dX12_readJoin_11 ?_
    exact l_X12_readJoin_15 C  (1 : Int32) I L h
end Zp05_11_walk
