section Zp05_12_walk
variable {p : Program} {l : Launch} {e : Env} {R : Room} {s : State} {m : MethodId} {args : Array Value} {below : List Frame} {meth : Method} {c : Code} {s0 : State} {a0 : Array Value} {d : va_G} {cy : Nat → ClassId} {B0 : Nat} {bc bs : Nat}
theorem q_1193 : (Cond.fieldLink "DeviceFindModel" (56 : Nat) "DeviceFindModel" "kindNames" "[J") ∈ lw_tbl := List.mem_of_getElem? (i := 1193) (by decide +kernel)
theorem q_1194 : (Cond.fieldLink "DeviceFindModel" (59 : Nat) "DeviceFindModel" "kindOn" "[I") ∈ lw_tbl := List.mem_of_getElem? (i := 1194) (by decide +kernel)
theorem q_1195 : (Cond.fieldLink "DeviceFindModel" (62 : Nat) "DeviceFindModel" "pinCount" "[I") ∈ lw_tbl := List.mem_of_getElem? (i := 1195) (by decide +kernel)
theorem q_1196 : (Cond.fieldLink "DeviceFindModel" (65 : Nat) "DeviceFindModel" "pinWire" "[I") ∈ lw_tbl := List.mem_of_getElem? (i := 1196) (by decide +kernel)
theorem q_1222 : (Cond.fieldLink "DeviceFindModel" (211 : Nat) "DeviceFindModel" "newKinds" "I") ∈ lw_tbl := List.mem_of_getElem? (i := 1222) (by decide +kernel)
theorem q_1444 : (Cond.code ({ cls := "DeviceFindModel", name := "readDevice", desc := "()V" } : Jvm.MethodName) prog_14_method_27_code (6 : Nat) (Option.none : Option Jvm.ClassFile.FieldType)) ∈ lw_tbl := List.mem_of_getElem? (i := 1444) (by decide +kernel)
theorem yy_X12_readDevice : zY yX12_readDevice cX12_readDevice 6 none 0 := ⟨q_1444, q_88, by decide +kernel, by decide +kernel, by decide +kernel⟩
def f_X12_readDevice_71 (k38 : Int64 → Int32 → Int32 → zI → zL → Option (zI × zL)) (v1 : Int64) (v4 : Int32) (w0 : Int32) (I : zI) (L : zL) : Option (zI × zL) :=
  zlt (v4 + 1) (fun x22 => k38 v1 w0 x22 I L)
def f_X12_readDevice_70 (k38 : Int64 → Int32 → Int32 → zI → zL → Option (zI × zL)) (v1 : Int64) (v4 : Int32) (I : zI) (L : zL) : Option (zI × zL) :=
  f_X12_readDevice_71 k38 v1 v4 (0 : Int32) I L
def f_X12_readDevice_158 (k131 : Int64 → Int32 → Int32 → zI → zL → Option (zI × zL)) (v1 : Int64) (v4 : Int32) (v5 : Int32) (I : zI) (L : zL) : Option (zI × zL) :=
  zlt ((8 : Int32) + (I 97 53)) (fun x40 => zlt (((4 : Int32) * x40) + v5) (fun x41 => zb2 (f_X12_takeWire I L) (fun x43 I44 => zck (zbd x41 64) (zlt (zu I44 116 x41.toNatClampNeg x43) (fun I46 => zlt (v5 + 1) (fun x47 => k131 v1 v4 x47 I46 L))))))
def f_X12_readDevice_253 (I : zI) (L : zL) : Option (zI × zL) :=
  some (I, L)
def f_X12_readDevice_185 (v1 : Int64) (v4 : Int32) (v5 : Int32) (I : zI) (L : zL) : Option (zI × zL) :=
  zb1 (f_X12_is (59 : Int32) I) (fun x26 => zb1 (f_X12_take x26 I) (fun I28 => if (I28 97 49) = 0 then (f_X12_readDevice_253 I28 L) else (zlt ((8 : Int32) + (I28 97 53)) (fun x29 => zck (zbd x29 16) (zlt (zul L 113 x29.toNatClampNeg v1) (fun L31 => zlt ((8 : Int32) + (I28 97 53)) (fun x32 => zck (zbd x32 16) (zlt (zu I28 114 x32.toNatClampNeg v4) (fun I34 => zlt ((8 : Int32) + (I34 97 53)) (fun x35 => zck (zbd x35 16) (zlt (zu I34 115 x35.toNatClampNeg v5) (fun I37 => zlt ((I37 97 53) + (1 : Int32)) (fun x38 => zlt (zu I37 97 53 x38) (fun I39 => f_X12_readDevice_253 I39 L31))))))))))))))
def f_X12_readDevice_131 (k131 : Int64 → Int32 → Int32 → zI → zL → Option (zI × zL)) (v1 : Int64) (v4 : Int32) (v5 : Int32) (I : zI) (L : zL) : Option (zI × zL) :=
  if (I 97 49) = 0 then (f_X12_readDevice_185 v1 v4 v5 I L) else (if v5 = 0 then (f_X12_readDevice_158 k131 v1 v4 v5 I L) else (zb1 (f_X12_is (59 : Int32) I) (fun x24 => if x24 = 0 then (if (4 : Int32) ≤ v5 then (f_X12_readDevice_185 v1 v4 v5 I L) else (f_X12_readDevice_158 k131 v1 v4 v5 I L)) else (f_X12_readDevice_185 v1 v4 v5 I L))))
def f_X12_readDevice_125 (v1 : Int64) (v4 : Int32) (w1 : Int32) (I : zI) (L : zL) : Option (zI × zL) :=
  zb1 (f_X12_take w1 I) (fun I21 => zlp5 (f_X12_readDevice_131) zF v1 v4 (0 : Int32) I21 L)
def f_X12_readDevice_38 (k38 : Int64 → Int32 → Int32 → zI → zL → Option (zI × zL)) (v1 : Int64) (v3 : Int32) (v4 : Int32) (I : zI) (L : zL) : Option (zI × zL) :=
  if (I 97 53) ≤ v4 then (zb1 (f_X12_take v3 I) (fun I6 => zb1 (f_X12_is (61 : Int32) I6) (fun x8 => zb1 (f_X12_take x8 I6) (fun I10 => zb2 (f_X12_takeLayer I10 L) (fun x12 I13 => zb1 (f_X12_name I13) (fun x15 => zb1 (f_X12_word (112 : Int32) (105 : Int32) (110 : Int32) (115 : Int32) (0 : Int32)) (fun x17 => if x15 = x17 then (f_X12_readDevice_125 v1 x12 (1 : Int32) I13 L) else (f_X12_readDevice_125 v1 x12 (0 : Int32) I13 L)))))))) else (if v3 = 0 then (f_X12_readDevice_70 k38 v1 v4 I L) else (zlt ((8 : Int32) + v4) (fun x18 => zck (zbd x18 16) (if (L 113 x18.toNatClampNeg) = v1 then (f_X12_readDevice_70 k38 v1 v4 I L) else (f_X12_readDevice_71 k38 v1 v4 (1 : Int32) I L)))))
def f_X12_readDevice_34 (v1 : Int64) (w0 : Int32) (I : zI) (L : zL) : Option (zI × zL) :=
  zlp5 (f_X12_readDevice_38) zF v1 w0 (0 : Int32) I L
def f_X12_readDevice_15 (w1 : Int32) (I : zI) (L : zL) : Option (zI × zL) :=
  zb1 (f_X12_take w1 I) (fun I2 => zb1 (f_X12_name I2) (fun x4 => if x4 ≤ (0 : Int64) then (f_X12_readDevice_34 x4 (0 : Int32) I2 L) else (f_X12_readDevice_34 x4 (1 : Int32) I2 L)))
def f_X12_readDevice (I : zI) (L : zL) : Option (zI × zL) :=
  if (8 : Int32) ≤ (I 97 53) then (f_X12_readDevice_15 (0 : Int32) I L) else (f_X12_readDevice_15 (1 : Int32) I L)
set_option maxHeartbeats 4000000 in
set_option maxRecDepth 100000 in
theorem l_X12_readDevice_71 {r : zI × zL} (C : zC p l e R s m args below meth c s0 a0 d cy B0 yX12_readDevice.cls cX12_readDevice 6 none bc bs bc bs 4 90 []) (k38 : Int64 → Int32 → Int32 → zI → zL → Option (zI × zL)) (hk38 : ∀ (v1 : Int64) (v3 : Int32) (v4 : Int32) (I : zI) (L : zL), k38 v1 v3 v4 I L = some r → zG p l e R s m args below meth c d cy B0 6 bc bs (zQ below s args d cy B0 bc bs (.inl none) zSH zKn bc bs r.1 r.2) 38 [(0, .ref (B0 + 97)), (1, .long v1), (3, .int v3), (4, .int v4)] [] zSH zKn bc bs I L) (v1 : Int64) (v4 : Int32) (w0 : Int32) (I : zI) (L : zL) (h : f_X12_readDevice_71 k38 v1 v4 w0 I L = some r) : zG p l e R s m args below meth c d cy B0 6 bc bs (zQ below s args d cy B0 bc bs (.inl none) zSH zKn bc bs r.1 r.2) 71 [(0, .ref (B0 + 97)), (1, .long v1), (4, .int v4)] [.int w0] zSH zKn bc bs I L := by
  unfold f_X12_readDevice_71 at h
  refine z_istore_n C (lv' := [(3, .int w0), (0, .ref (B0 + 97)), (1, .long v1), (4, .int v4)]) rfl (by decide) rfl dX12_readDevice_71 ?_
  obtain ⟨x22, ex22, h⟩ := zlt_e h
  refine z_iinc C (j := 3) (v := x22) (lv' := [(4, .int x22), (3, .int w0), (0, .ref (B0 + 97)), (1, .long v1)]) rfl (by rw [ex22]; rfl) (by decide) rfl dX12_readDevice_72 ?_
  refine z_goto C 38 (by decide) dX12_readDevice_75 ?_
  refine z_lv [2, 3, 1, 0] (lv' := [(0, .ref (B0 + 97)), (1, .long v1), (3, .int w0), (4, .int x22)]) rfl ?_
  exact hk38 v1 w0 x22 I L h
set_option maxHeartbeats 4000000 in
set_option maxRecDepth 100000 in
theorem l_X12_readDevice_70 {r : zI × zL} (C : zC p l e R s m args below meth c s0 a0 d cy B0 yX12_readDevice.cls cX12_readDevice 6 none bc bs bc bs 4 90 []) (k38 : Int64 → Int32 → Int32 → zI → zL → Option (zI × zL)) (hk38 : ∀ (v1 : Int64) (v3 : Int32) (v4 : Int32) (I : zI) (L : zL), k38 v1 v3 v4 I L = some r → zG p l e R s m args below meth c d cy B0 6 bc bs (zQ below s args d cy B0 bc bs (.inl none) zSH zKn bc bs r.1 r.2) 38 [(0, .ref (B0 + 97)), (1, .long v1), (3, .int v3), (4, .int v4)] [] zSH zKn bc bs I L) (v1 : Int64) (v4 : Int32) (I : zI) (L : zL) (h : f_X12_readDevice_70 k38 v1 v4 I L = some r) : zG p l e R s m args below meth c d cy B0 6 bc bs (zQ below s args d cy B0 bc bs (.inl none) zSH zKn bc bs r.1 r.2) 70 [(0, .ref (B0 + 97)), (1, .long v1), (4, .int v4)] [] zSH zKn bc bs I L := by
  unfold f_X12_readDevice_70 at h
  refine z_iconst C (v := 0) (by decide) dX12_readDevice_70 ?_
  exact l_X12_readDevice_71 C k38 hk38 v1 v4 (0 : Int32) I L h
set_option maxHeartbeats 4000000 in
set_option maxRecDepth 100000 in
theorem l_X12_readDevice_158 {r : zI × zL} (C : zC p l e R s m args below meth c s0 a0 d cy B0 yX12_readDevice.cls cX12_readDevice 6 none bc bs bc bs 4 90 []) (k131 : Int64 → Int32 → Int32 → zI → zL → Option (zI × zL)) (hk131 : ∀ (v1 : Int64) (v4 : Int32) (v5 : Int32) (I : zI) (L : zL), k131 v1 v4 v5 I L = some r → zG p l e R s m args below meth c d cy B0 6 bc bs (zQ below s args d cy B0 bc bs (.inl none) zSH zKn bc bs r.1 r.2) 131 [(0, .ref (B0 + 97)), (1, .long v1), (4, .int v4), (5, .int v5)] [] zSH zKn bc bs I L) (v1 : Int64) (v4 : Int32) (v5 : Int32) (I : zI) (L : zL) (h : f_X12_readDevice_158 k131 v1 v4 v5 I L = some r) : zG p l e R s m args below meth c d cy B0 6 bc bs (zQ below s args d cy B0 bc bs (.inl none) zSH zKn bc bs r.1 r.2) 158 [(0, .ref (B0 + 97)), (1, .long v1), (4, .int v4), (5, .int v5)] [] zSH zKn bc bs I L := by
  unfold f_X12_readDevice_158 at h
  refine z_aload_n C rfl 0 rfl dX12_readDevice_158 ?_
  refine z_getr C zc_12 dX12_readDevice_159 27 97 116 rfl (by decide) (by decide) q_1196 rfl rfl ?_
  refine z_iconst C (v := 4) (by decide) dX12_readDevice_162 ?_
  refine z_bipush C (v := 8) (by decide) dX12_readDevice_163 ?_
  refine z_aload_n C rfl 0 rfl dX12_readDevice_165 ?_
  refine z_geti C zc_12 dX12_readDevice_166 53 97 rfl (by decide) (by decide) q_1222 rfl ?_
  refine z_iadd C dX12_readDevice_169 ?_
  obtain ⟨x40, ex40, h⟩ := zlt_e h
  refine z_eqi C ex40 ?_
  refine z_imul C dX12_readDevice_170 ?_
  refine z_iload C 3 rfl dX12_readDevice_171 ?_
  refine z_iadd C dX12_readDevice_173 ?_
  obtain ⟨x41, ex41, h⟩ := zlt_e h
  refine z_eqi C ex41 ?_
  refine z_aload_n C rfl 0 rfl dX12_readDevice_174 ?_
  obtain ⟨x43, I44, hg42, h⟩ := zb2_e h
  refine z_callV C zc_12 rfl (by decide) dX12_readDevice_175 yy_X12_takeWire (c_X12_takeWire C.2.2.2.2.1  I L hg42) q_1436 q_1438 q_56 (by decide) (by decide) rfl rfl (Nat.le_of_ble_eq_true rfl) ⟨Nat.le_refl _, Nat.le_refl _, Nat.le_refl _, Nat.le_refl _⟩ ?_
  obtain ⟨hb45, h⟩ := zck_e h
  refine z_iastore C dX12_readDevice_178 rfl rfl (by decide) (zbd_in hb45) ?_
  obtain ⟨I46, eI46, h⟩ := zlt_e h
  refine z_eqI C eI46 ?_
  obtain ⟨x47, ex47, h⟩ := zlt_e h
  refine z_iinc C (j := 3) (v := x47) (lv' := [(5, .int x47), (0, .ref (B0 + 97)), (1, .long v1), (4, .int v4)]) rfl (by rw [ex47]; rfl) (by decide) rfl dX12_readDevice_179 ?_
  refine z_goto C 131 (by decide) dX12_readDevice_182 ?_
  refine z_lv [1, 2, 3, 0] (lv' := [(0, .ref (B0 + 97)), (1, .long v1), (4, .int v4), (5, .int x47)]) rfl ?_
  exact hk131 v1 v4 x47 I46 L h
set_option maxHeartbeats 4000000 in
set_option maxRecDepth 100000 in
theorem l_X12_readDevice_253 {r : zI × zL} (C : zC p l e R s m args below meth c s0 a0 d cy B0 yX12_readDevice.cls cX12_readDevice 6 none bc bs bc bs 4 90 []) (I : zI) (L : zL) (h : f_X12_readDevice_253 I L = some r) : zG p l e R s m args below meth c d cy B0 6 bc bs (zQ below s args d cy B0 bc bs (.inl none) zSH zKn bc bs r.1 r.2) 253 [] [] zSH zKn bc bs I L := by
  unfold f_X12_readDevice_253 at h
  obtain rfl := Option.some.inj h
  exact z_vret C dX12_readDevice_253 rfl rfl
set_option maxHeartbeats 4000000 in
set_option maxRecDepth 100000 in
theorem l_X12_readDevice_185 {r : zI × zL} (C : zC p l e R s m args below meth c s0 a0 d cy B0 yX12_readDevice.cls cX12_readDevice 6 none bc bs bc bs 4 90 []) (v1 : Int64) (v4 : Int32) (v5 : Int32) (I : zI) (L : zL) (h : f_X12_readDevice_185 v1 v4 v5 I L = some r) : zG p l e R s m args below meth c d cy B0 6 bc bs (zQ below s args d cy B0 bc bs (.inl none) zSH zKn bc bs r.1 r.2) 185 [(0, .ref (B0 + 97)), (1, .long v1), (4, .int v4), (5, .int v5)] [] zSH zKn bc bs I L := by
  unfold f_X12_readDevice_185 at h
  refine z_aload_n C rfl 0 rfl dX12_readDevice_185 ?_
  refine z_aload_n C rfl 0 rfl dX12_readDevice_186 ?_
  refine z_bipush C (v := 59) (by decide) dX12_readDevice_187 ?_
  obtain ⟨x26, hg25, h⟩ := zb1_e h
  refine z_callV C zc_12 rfl (by decide) dX12_readDevice_189 yy_X12_is (c_X12_is C.2.2.2.2.1  (59 : Int32) I L hg25) q_1416 q_1418 q_51 (by decide) (by decide) rfl rfl (Nat.le_of_ble_eq_true rfl) ⟨Nat.le_refl _, Nat.le_refl _, Nat.le_refl _, Nat.le_refl _⟩ ?_
  obtain ⟨I28, hg27, h⟩ := zb1_e h
  refine z_callV C zc_12 rfl (by decide) dX12_readDevice_192 yy_X12_take (c_X12_take C.2.2.2.2.1  x26 I L hg27) q_1404 q_1406 q_48 (by decide) (by decide) rfl rfl (Nat.le_of_ble_eq_true rfl) ⟨Nat.le_refl _, Nat.le_refl _, Nat.le_refl _, Nat.le_refl _⟩ ?_
  refine z_aload_n C rfl 0 rfl dX12_readDevice_195 ?_
  refine z_geti C zc_12 dX12_readDevice_196 49 97 rfl (by decide) (by decide) q_1218 rfl ?_
  refine z_if_eq C 253 (by decide) dX12_readDevice_199 (fun hc => ?_) (fun hc => ?_)
  · have h := zif_t hc h
    refine z_lv [] (lv' := []) rfl ?_
    exact l_X12_readDevice_253 C  I28 L h
  · have h := zif_f hc h
    refine z_aload_n C rfl 0 rfl dX12_readDevice_202 ?_
    refine z_getr C zc_12 dX12_readDevice_203 24 97 113 rfl (by decide) (by decide) q_1193 rfl rfl ?_
    refine z_bipush C (v := 8) (by decide) dX12_readDevice_206 ?_
    refine z_aload_n C rfl 0 rfl dX12_readDevice_208 ?_
    refine z_geti C zc_12 dX12_readDevice_209 53 97 rfl (by decide) (by decide) q_1222 rfl ?_
    refine z_iadd C dX12_readDevice_212 ?_
    obtain ⟨x29, ex29, h⟩ := zlt_e h
    refine z_eqi C ex29 ?_
    refine z_lload_n C rfl 1 rfl dX12_readDevice_213 ?_
    obtain ⟨hb30, h⟩ := zck_e h
    refine z_lastore C dX12_readDevice_214 rfl rfl (by decide) (zbd_in hb30) ?_
    obtain ⟨L31, eL31, h⟩ := zlt_e h
    refine z_eqL C eL31 ?_
    refine z_aload_n C rfl 0 rfl dX12_readDevice_215 ?_
    refine z_getr C zc_12 dX12_readDevice_216 25 97 114 rfl (by decide) (by decide) q_1194 rfl rfl ?_
    refine z_bipush C (v := 8) (by decide) dX12_readDevice_219 ?_
    refine z_aload_n C rfl 0 rfl dX12_readDevice_221 ?_
    refine z_geti C zc_12 dX12_readDevice_222 53 97 rfl (by decide) (by decide) q_1222 rfl ?_
    refine z_iadd C dX12_readDevice_225 ?_
    obtain ⟨x32, ex32, h⟩ := zlt_e h
    refine z_eqi C ex32 ?_
    refine z_iload C 2 rfl dX12_readDevice_226 ?_
    obtain ⟨hb33, h⟩ := zck_e h
    refine z_iastore C dX12_readDevice_228 rfl rfl (by decide) (zbd_in hb33) ?_
    obtain ⟨I34, eI34, h⟩ := zlt_e h
    refine z_eqI C eI34 ?_
    refine z_aload_n C rfl 0 rfl dX12_readDevice_229 ?_
    refine z_getr C zc_12 dX12_readDevice_230 26 97 115 rfl (by decide) (by decide) q_1195 rfl rfl ?_
    refine z_bipush C (v := 8) (by decide) dX12_readDevice_233 ?_
    refine z_aload_n C rfl 0 rfl dX12_readDevice_235 ?_
    refine z_geti C zc_12 dX12_readDevice_236 53 97 rfl (by decide) (by decide) q_1222 rfl ?_
    refine z_iadd C dX12_readDevice_239 ?_
    obtain ⟨x35, ex35, h⟩ := zlt_e h
    refine z_eqi C ex35 ?_
    refine z_iload C 3 rfl dX12_readDevice_240 ?_
    obtain ⟨hb36, h⟩ := zck_e h
    refine z_iastore C dX12_readDevice_242 rfl rfl (by decide) (zbd_in hb36) ?_
    obtain ⟨I37, eI37, h⟩ := zlt_e h
    refine z_eqI C eI37 ?_
    refine z_aload_n C rfl 0 rfl dX12_readDevice_243 ?_
    refine z_dup C rfl dX12_readDevice_244 ?_
    refine z_geti C zc_12 dX12_readDevice_245 53 97 rfl (by decide) (by decide) q_1222 rfl ?_
    refine z_iconst C (v := 1) (by decide) dX12_readDevice_248 ?_
    refine z_iadd C dX12_readDevice_249 ?_
    obtain ⟨x38, ex38, h⟩ := zlt_e h
    refine z_eqi C ex38 ?_
    refine z_puti C zc_12 dX12_readDevice_250 53 97 rfl (by decide) (by decide) rfl q_1222 rfl rfl rfl ?_
    obtain ⟨I39, eI39, h⟩ := zlt_e h
    refine z_eqI C eI39 ?_
    refine z_lv [] (lv' := []) rfl ?_
    exact l_X12_readDevice_253 C  I39 L31 h
set_option maxHeartbeats 4000000 in
set_option maxRecDepth 100000 in
theorem l_X12_readDevice_131 {r : zI × zL} (C : zC p l e R s m args below meth c s0 a0 d cy B0 yX12_readDevice.cls cX12_readDevice 6 none bc bs bc bs 4 90 []) (k131 : Int64 → Int32 → Int32 → zI → zL → Option (zI × zL)) (hk131 : ∀ (v1 : Int64) (v4 : Int32) (v5 : Int32) (I : zI) (L : zL), k131 v1 v4 v5 I L = some r → zG p l e R s m args below meth c d cy B0 6 bc bs (zQ below s args d cy B0 bc bs (.inl none) zSH zKn bc bs r.1 r.2) 131 [(0, .ref (B0 + 97)), (1, .long v1), (4, .int v4), (5, .int v5)] [] zSH zKn bc bs I L) (v1 : Int64) (v4 : Int32) (v5 : Int32) (I : zI) (L : zL) (h : f_X12_readDevice_131 k131 v1 v4 v5 I L = some r) : zG p l e R s m args below meth c d cy B0 6 bc bs (zQ below s args d cy B0 bc bs (.inl none) zSH zKn bc bs r.1 r.2) 131 [(0, .ref (B0 + 97)), (1, .long v1), (4, .int v4), (5, .int v5)] [] zSH zKn bc bs I L := by
  unfold f_X12_readDevice_131 at h
  refine z_aload_n C rfl 0 rfl dX12_readDevice_131 ?_
  refine z_geti C zc_12 dX12_readDevice_132 49 97 rfl (by decide) (by decide) q_1218 rfl ?_
  refine z_if_eq C 185 (by decide) dX12_readDevice_135 (fun hc => ?_) (fun hc => ?_)
  · have h := zif_t hc h
    exact l_X12_readDevice_185 C  v1 v4 v5 I L h
  · have h := zif_f hc h
    refine z_iload C 3 rfl dX12_readDevice_138 ?_
    refine z_if_eq C 158 (by decide) dX12_readDevice_140 (fun hc => ?_) (fun hc => ?_)
    · have h := zif_t hc h
      exact l_X12_readDevice_158 C k131 hk131 v1 v4 v5 I L h
    · have h := zif_f hc h
      refine z_aload_n C rfl 0 rfl dX12_readDevice_143 ?_
      refine z_bipush C (v := 59) (by decide) dX12_readDevice_144 ?_
      obtain ⟨x24, hg23, h⟩ := zb1_e h
      refine z_callV C zc_12 rfl (by decide) dX12_readDevice_146 yy_X12_is (c_X12_is C.2.2.2.2.1  (59 : Int32) I L hg23) q_1416 q_1418 q_51 (by decide) (by decide) rfl rfl (Nat.le_of_ble_eq_true rfl) ⟨Nat.le_refl _, Nat.le_refl _, Nat.le_refl _, Nat.le_refl _⟩ ?_
      refine z_if_ne C 185 (by decide) dX12_readDevice_149 (fun hc => ?_) (fun hc => ?_)
      · have h := zif_f hc h
        exact l_X12_readDevice_185 C  v1 v4 v5 I L h
      · have h := zif_t hc h
        refine z_iload C 3 rfl dX12_readDevice_152 ?_
        refine z_iconst C (v := 4) (by decide) dX12_readDevice_154 ?_
        refine z_icmp_ge C 185 (by decide) dX12_readDevice_155 (fun hc => ?_) (fun hc => ?_)
        · have h := zif_t hc h
          exact l_X12_readDevice_185 C  v1 v4 v5 I L h
        · have h := zif_f hc h
          exact l_X12_readDevice_158 C k131 hk131 v1 v4 v5 I L h
set_option maxHeartbeats 4000000 in
set_option maxRecDepth 100000 in
theorem L_X12_readDevice_131 {r : zI × zL} (C : zC p l e R s m args below meth c s0 a0 d cy B0 yX12_readDevice.cls cX12_readDevice 6 none bc bs bc bs 4 90 []) (v1 : Int64) (v4 : Int32) (v5 : Int32) (I : zI) (L : zL) (h : zlp5 (f_X12_readDevice_131) zF v1 v4 v5 I L = some r) : zG p l e R s m args below meth c d cy B0 6 bc bs (zQ below s args d cy B0 bc bs (.inl none) zSH zKn bc bs r.1 r.2) 131 [(0, .ref (B0 + 97)), (1, .long v1), (4, .int v4), (5, .int v5)] [] zSH zKn bc bs I L :=
 zlp5_e (fun (v1 : Int64) (v4 : Int32) (v5 : Int32) (I : zI) (L : zL) => zG p l e R s m args below meth c d cy B0 6 bc bs (zQ below s args d cy B0 bc bs (.inl none) zSH zKn bc bs r.1 r.2) 131 [(0, .ref (B0 + 97)), (1, .long v1), (4, .int v4), (5, .int v5)] [] zSH zKn bc bs I L) (fun k9 hk9 v1 v4 v5 I L h => l_X12_readDevice_131 C k9 hk9 v1 v4 v5 I L h) zF v1 v4 v5 I L h
set_option maxHeartbeats 4000000 in
set_option maxRecDepth 100000 in
theorem l_X12_readDevice_125 {r : zI × zL} (C : zC p l e R s m args below meth c s0 a0 d cy B0 yX12_readDevice.cls cX12_readDevice 6 none bc bs bc bs 4 90 []) (v1 : Int64) (v4 : Int32) (w1 : Int32) (I : zI) (L : zL) (h : f_X12_readDevice_125 v1 v4 w1 I L = some r) : zG p l e R s m args below meth c d cy B0 6 bc bs (zQ below s args d cy B0 bc bs (.inl none) zSH zKn bc bs r.1 r.2) 125 [(0, .ref (B0 + 97)), (1, .long v1), (4, .int v4)] [.int w1, .ref (B0 + 97)] zSH zKn bc bs I L := by
  unfold f_X12_readDevice_125 at h
  obtain ⟨I21, hg20, h⟩ := zb1_e h
  refine z_callV C zc_12 rfl (by decide) dX12_readDevice_125 yy_X12_take (c_X12_take C.2.2.2.2.1  w1 I L hg20) q_1404 q_1406 q_48 (by decide) (by decide) rfl rfl (Nat.le_of_ble_eq_true rfl) ⟨Nat.le_refl _, Nat.le_refl _, Nat.le_refl _, Nat.le_refl _⟩ ?_
  refine z_iconst C (v := 0) (by decide) dX12_readDevice_128 ?_
  refine z_istore C (lv' := [(5, .int (0 : Int32)), (0, .ref (B0 + 97)), (1, .long v1), (4, .int v4)]) (by decide) rfl dX12_readDevice_129 ?_
  refine z_lv [1, 2, 3, 0] (lv' := [(0, .ref (B0 + 97)), (1, .long v1), (4, .int v4), (5, .int (0 : Int32))]) rfl ?_
  exact L_X12_readDevice_131 C  v1 v4 (0 : Int32) I21 L h
set_option maxHeartbeats 4000000 in
set_option maxRecDepth 100000 in
theorem l_X12_readDevice_38 {r : zI × zL} (C : zC p l e R s m args below meth c s0 a0 d cy B0 yX12_readDevice.cls cX12_readDevice 6 none bc bs bc bs 4 90 []) (k38 : Int64 → Int32 → Int32 → zI → zL → Option (zI × zL)) (hk38 : ∀ (v1 : Int64) (v3 : Int32) (v4 : Int32) (I : zI) (L : zL), k38 v1 v3 v4 I L = some r → zG p l e R s m args below meth c d cy B0 6 bc bs (zQ below s args d cy B0 bc bs (.inl none) zSH zKn bc bs r.1 r.2) 38 [(0, .ref (B0 + 97)), (1, .long v1), (3, .int v3), (4, .int v4)] [] zSH zKn bc bs I L) (v1 : Int64) (v3 : Int32) (v4 : Int32) (I : zI) (L : zL) (h : f_X12_readDevice_38 k38 v1 v3 v4 I L = some r) : zG p l e R s m args below meth c d cy B0 6 bc bs (zQ below s args d cy B0 bc bs (.inl none) zSH zKn bc bs r.1 r.2) 38 [(0, .ref (B0 + 97)), (1, .long v1), (3, .int v3), (4, .int v4)] [] zSH zKn bc bs I L := by
  unfold f_X12_readDevice_38 at h
  refine z_iload C 3 rfl dX12_readDevice_38 ?_
  refine z_aload_n C rfl 0 rfl dX12_readDevice_40 ?_
  refine z_geti C zc_12 dX12_readDevice_41 53 97 rfl (by decide) (by decide) q_1222 rfl ?_
  refine z_icmp_ge C 78 (by decide) dX12_readDevice_44 (fun hc => ?_) (fun hc => ?_)
  · have h := zif_t hc h
    refine z_aload_n C rfl 0 rfl dX12_readDevice_78 ?_
    refine z_iload_n C rfl 2 rfl dX12_readDevice_79 ?_
    obtain ⟨I6, hg5, h⟩ := zb1_e h
    refine z_callV C zc_12 rfl (by decide) dX12_readDevice_80 yy_X12_take (c_X12_take C.2.2.2.2.1  v3 I L hg5) q_1404 q_1406 q_48 (by decide) (by decide) rfl rfl (Nat.le_of_ble_eq_true rfl) ⟨Nat.le_refl _, Nat.le_refl _, Nat.le_refl _, Nat.le_refl _⟩ ?_
    refine z_aload_n C rfl 0 rfl dX12_readDevice_83 ?_
    refine z_aload_n C rfl 0 rfl dX12_readDevice_84 ?_
    refine z_bipush C (v := 61) (by decide) dX12_readDevice_85 ?_
    obtain ⟨x8, hg7, h⟩ := zb1_e h
    refine z_callV C zc_12 rfl (by decide) dX12_readDevice_87 yy_X12_is (c_X12_is C.2.2.2.2.1  (61 : Int32) I6 L hg7) q_1416 q_1418 q_51 (by decide) (by decide) rfl rfl (Nat.le_of_ble_eq_true rfl) ⟨Nat.le_refl _, Nat.le_refl _, Nat.le_refl _, Nat.le_refl _⟩ ?_
    obtain ⟨I10, hg9, h⟩ := zb1_e h
    refine z_callV C zc_12 rfl (by decide) dX12_readDevice_90 yy_X12_take (c_X12_take C.2.2.2.2.1  x8 I6 L hg9) q_1404 q_1406 q_48 (by decide) (by decide) rfl rfl (Nat.le_of_ble_eq_true rfl) ⟨Nat.le_refl _, Nat.le_refl _, Nat.le_refl _, Nat.le_refl _⟩ ?_
    refine z_aload_n C rfl 0 rfl dX12_readDevice_93 ?_
    obtain ⟨x12, I13, hg11, h⟩ := zb2_e h
    refine z_callV C zc_12 rfl (by decide) dX12_readDevice_94 yy_X12_takeLayer (c_X12_takeLayer C.2.2.2.2.1  I10 L hg11) q_1424 q_1426 q_53 (by decide) (by decide) rfl rfl (Nat.le_of_ble_eq_true rfl) ⟨Nat.le_refl _, Nat.le_refl _, Nat.le_refl _, Nat.le_refl _⟩ ?_
    refine z_istore C (lv' := [(4, .int x12), (0, .ref (B0 + 97)), (1, .long v1), (3, .int v3)]) (by decide) rfl dX12_readDevice_97 ?_
    refine z_aload_n C rfl 1 rfl dX12_readDevice_99 ?_
    refine z_aload_n C rfl 1 rfl dX12_readDevice_100 ?_
    obtain ⟨x15, hg14, h⟩ := zb1_e h
    refine z_callV C zc_12 rfl (by decide) dX12_readDevice_101 yy_X12_name (c_X12_name C.2.2.2.2.1  I13 L hg14) q_1391 q_1393 q_46 (by decide) (by decide) rfl rfl (Nat.le_of_ble_eq_true rfl) ⟨Nat.le_refl _, Nat.le_refl _, Nat.le_refl _, Nat.le_refl _⟩ ?_
    refine z_bipush C (v := 112) (by decide) dX12_readDevice_104 ?_
    refine z_bipush C (v := 105) (by decide) dX12_readDevice_106 ?_
    refine z_bipush C (v := 110) (by decide) dX12_readDevice_108 ?_
    refine z_bipush C (v := 115) (by decide) dX12_readDevice_110 ?_
    refine z_iconst C (v := 0) (by decide) dX12_readDevice_112 ?_
    obtain ⟨x17, hg16, h⟩ := zb1_e h
    refine z_callS C dX12_readDevice_113 yy_X12_word (c_X12_word C.2.2.2.2.1  (112 : Int32) (105 : Int32) (110 : Int32) (115 : Int32) (0 : Int32) I13 L hg16) q_1397 q_1398 (by decide) (by decide) rfl rfl (Nat.le_of_ble_eq_true rfl) ⟨Nat.le_refl _, Nat.le_refl _, Nat.le_refl _, Nat.le_refl _⟩ ?_
    refine z_lif_ne C 124 (by decide) dX12_readDevice_116 dX12_readDevice_117 (fun hc => ?_) (fun hc => ?_)
    · have h := zif_f hc h
      refine z_iconst C (v := 0) (by decide) dX12_readDevice_124 ?_
      refine z_lv [1, 2, 0] (lv' := [(0, .ref (B0 + 97)), (1, .long v1), (4, .int x12)]) rfl ?_
      exact l_X12_readDevice_125 C  v1 x12 (0 : Int32) I13 L h
    · have h := zif_t hc h
      refine z_iconst C (v := 1) (by decide) dX12_readDevice_120 ?_
      refine z_goto C 125 (by decide) dX12_readDevice_121 ?_
      refine z_lv [1, 2, 0] (lv' := [(0, .ref (B0 + 97)), (1, .long v1), (4, .int x12)]) rfl ?_
      exact l_X12_readDevice_125 C  v1 x12 (1 : Int32) I13 L h
  · have h := zif_f hc h
    refine z_iload_n C rfl 2 rfl dX12_readDevice_47 ?_
    refine z_if_eq C 70 (by decide) dX12_readDevice_48 (fun hc => ?_) (fun hc => ?_)
    · have h := zif_t hc h
      refine z_lv [0, 1, 3] (lv' := [(0, .ref (B0 + 97)), (1, .long v1), (4, .int v4)]) rfl ?_
      exact l_X12_readDevice_70 C k38 hk38 v1 v4 I L h
    · have h := zif_f hc h
      refine z_aload_n C rfl 0 rfl dX12_readDevice_51 ?_
      refine z_getr C zc_12 dX12_readDevice_52 24 97 113 rfl (by decide) (by decide) q_1193 rfl rfl ?_
      refine z_bipush C (v := 8) (by decide) dX12_readDevice_55 ?_
      refine z_iload C 3 rfl dX12_readDevice_57 ?_
      refine z_iadd C dX12_readDevice_59 ?_
      obtain ⟨x18, ex18, h⟩ := zlt_e h
      refine z_eqi C ex18 ?_
      obtain ⟨hb19, h⟩ := zck_e h
      refine z_laload C dX12_readDevice_60 rfl rfl (by decide) (zbd_in hb19) ?_
      refine z_lload_n C rfl 1 rfl dX12_readDevice_61 ?_
      refine z_lif_eq C 70 (by decide) dX12_readDevice_62 dX12_readDevice_63 (fun hc => ?_) (fun hc => ?_)
      · have h := zif_t hc h
        refine z_lv [0, 1, 3] (lv' := [(0, .ref (B0 + 97)), (1, .long v1), (4, .int v4)]) rfl ?_
        exact l_X12_readDevice_70 C k38 hk38 v1 v4 I L h
      · have h := zif_f hc h
        refine z_iconst C (v := 1) (by decide) dX12_readDevice_66 ?_
        refine z_goto C 71 (by decide) dX12_readDevice_67 ?_
        refine z_lv [0, 1, 3] (lv' := [(0, .ref (B0 + 97)), (1, .long v1), (4, .int v4)]) rfl ?_
        exact l_X12_readDevice_71 C k38 hk38 v1 v4 (1 : Int32) I L h
set_option maxHeartbeats 4000000 in
set_option maxRecDepth 100000 in
theorem L_X12_readDevice_38 {r : zI × zL} (C : zC p l e R s m args below meth c s0 a0 d cy B0 yX12_readDevice.cls cX12_readDevice 6 none bc bs bc bs 4 90 []) (v1 : Int64) (v3 : Int32) (v4 : Int32) (I : zI) (L : zL) (h : zlp5 (f_X12_readDevice_38) zF v1 v3 v4 I L = some r) : zG p l e R s m args below meth c d cy B0 6 bc bs (zQ below s args d cy B0 bc bs (.inl none) zSH zKn bc bs r.1 r.2) 38 [(0, .ref (B0 + 97)), (1, .long v1), (3, .int v3), (4, .int v4)] [] zSH zKn bc bs I L :=
 zlp5_e (fun (v1 : Int64) (v3 : Int32) (v4 : Int32) (I : zI) (L : zL) => zG p l e R s m args below meth c d cy B0 6 bc bs (zQ below s args d cy B0 bc bs (.inl none) zSH zKn bc bs r.1 r.2) 38 [(0, .ref (B0 + 97)), (1, .long v1), (3, .int v3), (4, .int v4)] [] zSH zKn bc bs I L) (fun k9 hk9 v1 v3 v4 I L h => l_X12_readDevice_38 C k9 hk9 v1 v3 v4 I L h) zF v1 v3 v4 I L h
set_option maxHeartbeats 4000000 in
set_option maxRecDepth 100000 in
theorem l_X12_readDevice_34 {r : zI × zL} (C : zC p l e R s m args below meth c s0 a0 d cy B0 yX12_readDevice.cls cX12_readDevice 6 none bc bs bc bs 4 90 []) (v1 : Int64) (w0 : Int32) (I : zI) (L : zL) (h : f_X12_readDevice_34 v1 w0 I L = some r) : zG p l e R s m args below meth c d cy B0 6 bc bs (zQ below s args d cy B0 bc bs (.inl none) zSH zKn bc bs r.1 r.2) 34 [(0, .ref (B0 + 97)), (1, .long v1)] [.int w0] zSH zKn bc bs I L := by
  unfold f_X12_readDevice_34 at h
  refine z_istore_n C (lv' := [(3, .int w0), (0, .ref (B0 + 97)), (1, .long v1)]) rfl (by decide) rfl dX12_readDevice_34 ?_
  refine z_iconst C (v := 0) (by decide) dX12_readDevice_35 ?_
  refine z_istore C (lv' := [(4, .int (0 : Int32)), (3, .int w0), (0, .ref (B0 + 97)), (1, .long v1)]) (by decide) rfl dX12_readDevice_36 ?_
  refine z_lv [2, 3, 1, 0] (lv' := [(0, .ref (B0 + 97)), (1, .long v1), (3, .int w0), (4, .int (0 : Int32))]) rfl ?_
  exact L_X12_readDevice_38 C  v1 w0 (0 : Int32) I L h
set_option maxHeartbeats 4000000 in
set_option maxRecDepth 100000 in
theorem l_X12_readDevice_15 {r : zI × zL} (C : zC p l e R s m args below meth c s0 a0 d cy B0 yX12_readDevice.cls cX12_readDevice 6 none bc bs bc bs 4 90 []) (w1 : Int32) (I : zI) (L : zL) (h : f_X12_readDevice_15 w1 I L = some r) : zG p l e R s m args below meth c d cy B0 6 bc bs (zQ below s args d cy B0 bc bs (.inl none) zSH zKn bc bs r.1 r.2) 15 [(0, .ref (B0 + 97))] [.int w1, .ref (B0 + 97)] zSH zKn bc bs I L := by
  unfold f_X12_readDevice_15 at h
  obtain ⟨I2, hg1, h⟩ := zb1_e h
  refine z_callV C zc_12 rfl (by decide) dX12_readDevice_15 yy_X12_take (c_X12_take C.2.2.2.2.1  w1 I L hg1) q_1404 q_1406 q_48 (by decide) (by decide) rfl rfl (Nat.le_of_ble_eq_true rfl) ⟨Nat.le_refl _, Nat.le_refl _, Nat.le_refl _, Nat.le_refl _⟩ ?_
  refine z_aload_n C rfl 0 rfl dX12_readDevice_18 ?_
  obtain ⟨x4, hg3, h⟩ := zb1_e h
  refine z_callV C zc_12 rfl (by decide) dX12_readDevice_19 yy_X12_name (c_X12_name C.2.2.2.2.1  I2 L hg3) q_1391 q_1393 q_46 (by decide) (by decide) rfl rfl (Nat.le_of_ble_eq_true rfl) ⟨Nat.le_refl _, Nat.le_refl _, Nat.le_refl _, Nat.le_refl _⟩ ?_
  refine z_lstore_n C (lv' := [(1, .long x4), (0, .ref (B0 + 97))]) rfl (by decide) rfl dX12_readDevice_22 ?_
  refine z_lload_n C rfl 0 rfl dX12_readDevice_23 ?_
  refine z_lconst C (v := 0) (by decide) dX12_readDevice_24 ?_
  refine z_lif_le C 33 (by decide) dX12_readDevice_25 dX12_readDevice_26 (fun hc => ?_) (fun hc => ?_)
  · have h := zif_t hc h
    refine z_iconst C (v := 0) (by decide) dX12_readDevice_33 ?_
    refine z_lv [1, 0] (lv' := [(0, .ref (B0 + 97)), (1, .long x4)]) rfl ?_
    exact l_X12_readDevice_34 C  x4 (0 : Int32) I2 L h
  · have h := zif_f hc h
    refine z_iconst C (v := 1) (by decide) dX12_readDevice_29 ?_
    refine z_goto C 34 (by decide) dX12_readDevice_30 ?_
    refine z_lv [1, 0] (lv' := [(0, .ref (B0 + 97)), (1, .long x4)]) rfl ?_
    exact l_X12_readDevice_34 C  x4 (1 : Int32) I2 L h
set_option maxHeartbeats 4000000 in
set_option maxRecDepth 100000 in
theorem c_X12_readDevice {r : zI × zL} (hE : zE0 l s0 a0 d cy B0) (I : zI) (L : zL) (h : f_X12_readDevice I L = some r) : zM l s0 d cy B0 yX12_readDevice cX12_readDevice 6 none 4 90 [.ref (B0 + 97)] zSH zKn bc bs I L (.inl none) zSH zKn bc bs r.1 r.2 := by
  refine z_meth yy_X12_readDevice hE (Nat.le_of_ble_eq_true rfl) (fun p e R s m args below meth c C => ?_)
  show zG p l e R s m args below meth c d cy B0 6 bc bs (zQ below s args d cy B0 bc bs (.inl none) zSH zKn bc bs r.1 r.2) 0 [(0, .ref (B0 + 97))] [] zSH zKn bc bs I L
  unfold f_X12_readDevice at h
  refine z_aload_n C rfl 0 rfl dX12_readDevice_0 ?_
  refine z_aload_n C rfl 0 rfl dX12_readDevice_1 ?_
  refine z_geti C zc_12 dX12_readDevice_2 53 97 rfl (by decide) (by decide) q_1222 rfl ?_
  refine z_bipush C (v := 8) (by decide) dX12_readDevice_5 ?_
  refine z_icmp_ge C 14 (by decide) dX12_readDevice_7 (fun hc => ?_) (fun hc => ?_)
  · have h := zif_t hc h
    refine z_iconst C (v := 0) (by decide) dX12_readDevice_14 ?_
    exact l_X12_readDevice_15 C  (0 : Int32) I L h
  · have h := zif_f hc h
    refine z_iconst C (v := 1) (by decide) dX12_readDevice_10 ?_
    refine z_goto C 15 (by decide) dX12_readDevice_11 ?_
    exact l_X12_readDevice_15 C  (1 : Int32) I L h
theorem q_47 : Cond.selects "DeviceFindModel" ⟨"DeviceFindModel", "readInput", "()V"⟩ ⟨"DeviceFindModel", "readInput", "()V"⟩ ∈ lw_tbl := List.mem_of_getElem? (i := 47) (by decide +kernel)
theorem q_52 : Cond.selects "DeviceFindModel" ⟨"DeviceFindModel", "readMake", "()V"⟩ ⟨"DeviceFindModel", "readMake", "()V"⟩ ∈ lw_tbl := List.mem_of_getElem? (i := 52) (by decide +kernel)
theorem q_54 : Cond.selects "DeviceFindModel" ⟨"DeviceFindModel", "readWire", "()V"⟩ ⟨"DeviceFindModel", "readWire", "()V"⟩ ∈ lw_tbl := List.mem_of_getElem? (i := 54) (by decide +kernel)
theorem q_55 : Cond.selects "DeviceFindModel" ⟨"DeviceFindModel", "readJoin", "()V"⟩ ⟨"DeviceFindModel", "readJoin", "()V"⟩ ∈ lw_tbl := List.mem_of_getElem? (i := 55) (by decide +kernel)
theorem q_57 : Cond.selects "DeviceFindModel" ⟨"DeviceFindModel", "readDevice", "()V"⟩ ⟨"DeviceFindModel", "readDevice", "()V"⟩ ∈ lw_tbl := List.mem_of_getElem? (i := 57) (by decide +kernel)
theorem q_1390 : (Cond.code ({ cls := "DeviceFindModel", name := "readSentence", desc := "()V" } : Jvm.MethodName) prog_14_method_28_code (3 : Nat) (Option.none : Option Jvm.ClassFile.FieldType)) ∈ lw_tbl := List.mem_of_getElem? (i := 1390) (by decide +kernel)
theorem q_1400 : (Cond.methodLink "DeviceFindModel" (214 : Nat) ({ cls := "DeviceFindModel", name := "readInput", desc := "()V" } : Jvm.MethodName)) ∈ lw_tbl := List.mem_of_getElem? (i := 1400) (by decide +kernel)
theorem q_1402 : (Cond.instanceMethod ({ cls := "DeviceFindModel", name := "readInput", desc := "()V" } : Jvm.MethodName)) ∈ lw_tbl := List.mem_of_getElem? (i := 1402) (by decide +kernel)
theorem q_1420 : (Cond.methodLink "DeviceFindModel" (217 : Nat) ({ cls := "DeviceFindModel", name := "readMake", desc := "()V" } : Jvm.MethodName)) ∈ lw_tbl := List.mem_of_getElem? (i := 1420) (by decide +kernel)
theorem q_1422 : (Cond.instanceMethod ({ cls := "DeviceFindModel", name := "readMake", desc := "()V" } : Jvm.MethodName)) ∈ lw_tbl := List.mem_of_getElem? (i := 1422) (by decide +kernel)
theorem q_1428 : (Cond.methodLink "DeviceFindModel" (220 : Nat) ({ cls := "DeviceFindModel", name := "readWire", desc := "()V" } : Jvm.MethodName)) ∈ lw_tbl := List.mem_of_getElem? (i := 1428) (by decide +kernel)
theorem q_1430 : (Cond.instanceMethod ({ cls := "DeviceFindModel", name := "readWire", desc := "()V" } : Jvm.MethodName)) ∈ lw_tbl := List.mem_of_getElem? (i := 1430) (by decide +kernel)
theorem q_1432 : (Cond.methodLink "DeviceFindModel" (223 : Nat) ({ cls := "DeviceFindModel", name := "readJoin", desc := "()V" } : Jvm.MethodName)) ∈ lw_tbl := List.mem_of_getElem? (i := 1432) (by decide +kernel)
theorem q_1434 : (Cond.instanceMethod ({ cls := "DeviceFindModel", name := "readJoin", desc := "()V" } : Jvm.MethodName)) ∈ lw_tbl := List.mem_of_getElem? (i := 1434) (by decide +kernel)
theorem q_1440 : (Cond.constantLong "DeviceFindModel" (226 : Nat) (5 : Int64)) ∈ lw_tbl := List.mem_of_getElem? (i := 1440) (by decide +kernel)
theorem q_1441 : (Cond.methodLink "DeviceFindModel" (228 : Nat) ({ cls := "DeviceFindModel", name := "readDevice", desc := "()V" } : Jvm.MethodName)) ∈ lw_tbl := List.mem_of_getElem? (i := 1441) (by decide +kernel)
theorem q_1443 : (Cond.instanceMethod ({ cls := "DeviceFindModel", name := "readDevice", desc := "()V" } : Jvm.MethodName)) ∈ lw_tbl := List.mem_of_getElem? (i := 1443) (by decide +kernel)
theorem yy_X12_readSentence : zY yX12_readSentence cX12_readSentence 3 none 0 := ⟨q_1390, q_88, by decide +kernel, by decide +kernel, by decide +kernel⟩
def f_X12_readSentence_148 (I : zI) (L : zL) : Option (zI × zL) :=
  some (I, L)
def f_X12_readSentence_134 (w1 : Int32) (I : zI) (L : zL) : Option (zI × zL) :=
  zck (zbo w1) (zlt (zu I 97 49 w1) (fun I24 => if (I24 97 49) = 0 then (f_X12_readSentence_148 I24 L) else (zb2 (f_X12_readDevice I24 L) (fun I27 L28 => f_X12_readSentence_148 I27 L28))))
def f_X12_readSentence (I : zI) (L : zL) : Option (zI × zL) :=
  zb1 (f_X12_name I) (fun x2 => zb1 (f_X12_word (105 : Int32) (110 : Int32) (112 : Int32) (117 : Int32) (116 : Int32)) (fun x4 => if x2 = x4 then (zb2 (f_X12_readInput I L) (fun I22 L23 => f_X12_readSentence_148 I22 L23)) else (zb1 (f_X12_word (109 : Int32) (97 : Int32) (107 : Int32) (101 : Int32) (0 : Int32)) (fun x6 => if x2 = x6 then (zb2 (f_X12_readMake I L) (fun I19 L20 => f_X12_readSentence_148 I19 L20)) else (zb1 (f_X12_word (119 : Int32) (105 : Int32) (114 : Int32) (101 : Int32) (0 : Int32)) (fun x8 => if x2 = x8 then (zb1 (f_X12_readWire I L) (fun I17 => f_X12_readSentence_148 I17 L)) else (zb1 (f_X12_word (106 : Int32) (111 : Int32) (105 : Int32) (110 : Int32) (0 : Int32)) (fun x10 => if x2 = x10 then (zb1 (f_X12_readJoin I L) (fun I15 => f_X12_readSentence_148 I15 L)) else (zb1 (f_X12_word (100 : Int32) (101 : Int32) (118 : Int32) (105 : Int32) (99 : Int32)) (fun x12 => zlt (((27 : Int64) * x12) + (5 : Int64)) (fun x13 => if x2 = x13 then (f_X12_readSentence_134 (1 : Int32) I L) else (f_X12_readSentence_134 (0 : Int32) I L))))))))))))
set_option maxHeartbeats 4000000 in
set_option maxRecDepth 100000 in
theorem l_X12_readSentence_148 {r : zI × zL} (C : zC p l e R s m args below meth c s0 a0 d cy B0 yX12_readSentence.cls cX12_readSentence 3 none bc bs bc bs 5 115 []) (I : zI) (L : zL) (h : f_X12_readSentence_148 I L = some r) : zG p l e R s m args below meth c d cy B0 3 bc bs (zQ below s args d cy B0 bc bs (.inl none) zSH zKn bc bs r.1 r.2) 148 [] [] zSH zKn bc bs I L := by
  unfold f_X12_readSentence_148 at h
  obtain rfl := Option.some.inj h
  exact z_vret C dX12_readSentence_148 rfl rfl
set_option maxHeartbeats 4000000 in
set_option maxRecDepth 100000 in
theorem l_X12_readSentence_134 {r : zI × zL} (C : zC p l e R s m args below meth c s0 a0 d cy B0 yX12_readSentence.cls cX12_readSentence 3 none bc bs bc bs 5 115 []) (w1 : Int32) (I : zI) (L : zL) (h : f_X12_readSentence_134 w1 I L = some r) : zG p l e R s m args below meth c d cy B0 3 bc bs (zQ below s args d cy B0 bc bs (.inl none) zSH zKn bc bs r.1 r.2) 134 [(0, .ref (B0 + 97))] [.int w1, .ref (B0 + 97)] zSH zKn bc bs I L := by
  unfold f_X12_readSentence_134 at h
  obtain ⟨hb25, h⟩ := zck_e h
  refine z_puti C zc_12 dX12_readSentence_134 49 97 rfl (by decide) (by decide) rfl q_1218 (zbo_n hb25).1 (zbo_n hb25).2 rfl ?_
  obtain ⟨I24, eI24, h⟩ := zlt_e h
  refine z_eqI C eI24 ?_
  refine z_aload_n C rfl 0 rfl dX12_readSentence_137 ?_
  refine z_geti C zc_12 dX12_readSentence_138 49 97 rfl (by decide) (by decide) q_1218 rfl ?_
  refine z_if_eq C 148 (by decide) dX12_readSentence_141 (fun hc => ?_) (fun hc => ?_)
  · have h := zif_t hc h
    refine z_lv [] (lv' := []) rfl ?_
    exact l_X12_readSentence_148 C  I24 L h
  · have h := zif_f hc h
    refine z_aload_n C rfl 0 rfl dX12_readSentence_144 ?_
    obtain ⟨I27, L28, hg26, h⟩ := zb2_e h
    refine z_callV C zc_12 rfl (by decide) dX12_readSentence_145 yy_X12_readDevice (c_X12_readDevice C.2.2.2.2.1  I24 L hg26) q_1441 q_1443 q_57 (by decide) (by decide) rfl rfl (Nat.le_of_ble_eq_true rfl) ⟨Nat.le_refl _, Nat.le_refl _, Nat.le_refl _, Nat.le_refl _⟩ ?_
    refine z_lv [] (lv' := []) rfl ?_
    exact l_X12_readSentence_148 C  I27 L28 h
set_option maxHeartbeats 4000000 in
set_option maxRecDepth 100000 in
theorem c_X12_readSentence {r : zI × zL} (hE : zE0 l s0 a0 d cy B0) (I : zI) (L : zL) (h : f_X12_readSentence I L = some r) : zM l s0 d cy B0 yX12_readSentence cX12_readSentence 3 none 5 115 [.ref (B0 + 97)] zSH zKn bc bs I L (.inl none) zSH zKn bc bs r.1 r.2 := by
  refine z_meth yy_X12_readSentence hE (Nat.le_of_ble_eq_true rfl) (fun p e R s m args below meth c C => ?_)
  show zG p l e R s m args below meth c d cy B0 3 bc bs (zQ below s args d cy B0 bc bs (.inl none) zSH zKn bc bs r.1 r.2) 0 [(0, .ref (B0 + 97))] [] zSH zKn bc bs I L
  unfold f_X12_readSentence at h
  refine z_aload_n C rfl 0 rfl dX12_readSentence_0 ?_
  obtain ⟨x2, hg1, h⟩ := zb1_e h
  refine z_callV C zc_12 rfl (by decide) dX12_readSentence_1 yy_X12_name (c_X12_name C.2.2.2.2.1  I L hg1) q_1391 q_1393 q_46 (by decide) (by decide) rfl rfl (Nat.le_of_ble_eq_true rfl) ⟨Nat.le_refl _, Nat.le_refl _, Nat.le_refl _, Nat.le_refl _⟩ ?_
  refine z_lstore_n C (lv' := [(1, .long x2), (0, .ref (B0 + 97))]) rfl (by decide) rfl dX12_readSentence_4 ?_
  refine z_lload_n C rfl 0 rfl dX12_readSentence_5 ?_
  refine z_bipush C (v := 105) (by decide) dX12_readSentence_6 ?_
  refine z_bipush C (v := 110) (by decide) dX12_readSentence_8 ?_
  refine z_bipush C (v := 112) (by decide) dX12_readSentence_10 ?_
  refine z_bipush C (v := 117) (by decide) dX12_readSentence_12 ?_
  refine z_bipush C (v := 116) (by decide) dX12_readSentence_14 ?_
  obtain ⟨x4, hg3, h⟩ := zb1_e h
  refine z_callS C dX12_readSentence_16 yy_X12_word (c_X12_word C.2.2.2.2.1  (105 : Int32) (110 : Int32) (112 : Int32) (117 : Int32) (116 : Int32) I L hg3) q_1397 q_1398 (by decide) (by decide) rfl rfl (Nat.le_of_ble_eq_true rfl) ⟨Nat.le_refl _, Nat.le_refl _, Nat.le_refl _, Nat.le_refl _⟩ ?_
  refine z_lif_ne C 30 (by decide) dX12_readSentence_19 dX12_readSentence_20 (fun hc => ?_) (fun hc => ?_)
  · have h := zif_f hc h
    refine z_lload_n C rfl 0 rfl dX12_readSentence_30 ?_
    refine z_bipush C (v := 109) (by decide) dX12_readSentence_31 ?_
    refine z_bipush C (v := 97) (by decide) dX12_readSentence_33 ?_
    refine z_bipush C (v := 107) (by decide) dX12_readSentence_35 ?_
    refine z_bipush C (v := 101) (by decide) dX12_readSentence_37 ?_
    refine z_iconst C (v := 0) (by decide) dX12_readSentence_39 ?_
    obtain ⟨x6, hg5, h⟩ := zb1_e h
    refine z_callS C dX12_readSentence_40 yy_X12_word (c_X12_word C.2.2.2.2.1  (109 : Int32) (97 : Int32) (107 : Int32) (101 : Int32) (0 : Int32) I L hg5) q_1397 q_1398 (by decide) (by decide) rfl rfl (Nat.le_of_ble_eq_true rfl) ⟨Nat.le_refl _, Nat.le_refl _, Nat.le_refl _, Nat.le_refl _⟩ ?_
    refine z_lif_ne C 54 (by decide) dX12_readSentence_43 dX12_readSentence_44 (fun hc => ?_) (fun hc => ?_)
    · have h := zif_f hc h
      refine z_lload_n C rfl 0 rfl dX12_readSentence_54 ?_
      refine z_bipush C (v := 119) (by decide) dX12_readSentence_55 ?_
      refine z_bipush C (v := 105) (by decide) dX12_readSentence_57 ?_
      refine z_bipush C (v := 114) (by decide) dX12_readSentence_59 ?_
      refine z_bipush C (v := 101) (by decide) dX12_readSentence_61 ?_
      refine z_iconst C (v := 0) (by decide) dX12_readSentence_63 ?_
      obtain ⟨x8, hg7, h⟩ := zb1_e h
      refine z_callS C dX12_readSentence_64 yy_X12_word (c_X12_word C.2.2.2.2.1  (119 : Int32) (105 : Int32) (114 : Int32) (101 : Int32) (0 : Int32) I L hg7) q_1397 q_1398 (by decide) (by decide) rfl rfl (Nat.le_of_ble_eq_true rfl) ⟨Nat.le_refl _, Nat.le_refl _, Nat.le_refl _, Nat.le_refl _⟩ ?_
      refine z_lif_ne C 78 (by decide) dX12_readSentence_67 dX12_readSentence_68 (fun hc => ?_) (fun hc => ?_)
      · have h := zif_f hc h
        refine z_lload_n C rfl 0 rfl dX12_readSentence_78 ?_
        refine z_bipush C (v := 106) (by decide) dX12_readSentence_79 ?_
        refine z_bipush C (v := 111) (by decide) dX12_readSentence_81 ?_
        refine z_bipush C (v := 105) (by decide) dX12_readSentence_83 ?_
        refine z_bipush C (v := 110) (by decide) dX12_readSentence_85 ?_
        refine z_iconst C (v := 0) (by decide) dX12_readSentence_87 ?_
        obtain ⟨x10, hg9, h⟩ := zb1_e h
        refine z_callS C dX12_readSentence_88 yy_X12_word (c_X12_word C.2.2.2.2.1  (106 : Int32) (111 : Int32) (105 : Int32) (110 : Int32) (0 : Int32) I L hg9) q_1397 q_1398 (by decide) (by decide) rfl rfl (Nat.le_of_ble_eq_true rfl) ⟨Nat.le_refl _, Nat.le_refl _, Nat.le_refl _, Nat.le_refl _⟩ ?_
        refine z_lif_ne C 102 (by decide) dX12_readSentence_91 dX12_readSentence_92 (fun hc => ?_) (fun hc => ?_)
        · have h := zif_f hc h
          refine z_aload_n C rfl 1 rfl dX12_readSentence_102 ?_
          refine z_lload_n C rfl 0 rfl dX12_readSentence_103 ?_
          refine z_ldc2 C dX12_readSentence_104 q_1395 ?_
          refine z_bipush C (v := 100) (by decide) dX12_readSentence_107 ?_
          refine z_bipush C (v := 101) (by decide) dX12_readSentence_109 ?_
          refine z_bipush C (v := 118) (by decide) dX12_readSentence_111 ?_
          refine z_bipush C (v := 105) (by decide) dX12_readSentence_113 ?_
          refine z_bipush C (v := 99) (by decide) dX12_readSentence_115 ?_
          obtain ⟨x12, hg11, h⟩ := zb1_e h
          refine z_callS C dX12_readSentence_117 yy_X12_word (c_X12_word C.2.2.2.2.1  (100 : Int32) (101 : Int32) (118 : Int32) (105 : Int32) (99 : Int32) I L hg11) q_1397 q_1398 (by decide) (by decide) rfl rfl (Nat.le_of_ble_eq_true rfl) ⟨Nat.le_refl _, Nat.le_refl _, Nat.le_refl _, Nat.le_refl _⟩ ?_
          refine z_lmul C dX12_readSentence_120 ?_
          refine z_ldc2 C dX12_readSentence_121 q_1440 ?_
          refine z_ladd C dX12_readSentence_124 ?_
          obtain ⟨x13, ex13, h⟩ := zlt_e h
          refine z_eql C ex13 ?_
          refine z_lif_ne C 133 (by decide) dX12_readSentence_125 dX12_readSentence_126 (fun hc => ?_) (fun hc => ?_)
          · have h := zif_f hc h
            refine z_iconst C (v := 0) (by decide) dX12_readSentence_133 ?_
            refine z_lv [1] (lv' := [(0, .ref (B0 + 97))]) rfl ?_
            exact l_X12_readSentence_134 C  (0 : Int32) I L h
          · have h := zif_t hc h
            refine z_iconst C (v := 1) (by decide) dX12_readSentence_129 ?_
            refine z_goto C 134 (by decide) dX12_readSentence_130 ?_
            refine z_lv [1] (lv' := [(0, .ref (B0 + 97))]) rfl ?_
            exact l_X12_readSentence_134 C  (1 : Int32) I L h
        · have h := zif_t hc h
          refine z_aload_n C rfl 1 rfl dX12_readSentence_95 ?_
          obtain ⟨I15, hg14, h⟩ := zb1_e h
          refine z_callV C zc_12 rfl (by decide) dX12_readSentence_96 yy_X12_readJoin (c_X12_readJoin C.2.2.2.2.1  I L hg14) q_1432 q_1434 q_55 (by decide) (by decide) rfl rfl (Nat.le_of_ble_eq_true rfl) ⟨Nat.le_refl _, Nat.le_refl _, Nat.le_refl _, Nat.le_refl _⟩ ?_
          refine z_goto C 148 (by decide) dX12_readSentence_99 ?_
          refine z_lv [] (lv' := []) rfl ?_
          exact l_X12_readSentence_148 C  I15 L h
      · have h := zif_t hc h
        refine z_aload_n C rfl 1 rfl dX12_readSentence_71 ?_
        obtain ⟨I17, hg16, h⟩ := zb1_e h
        refine z_callV C zc_12 rfl (by decide) dX12_readSentence_72 yy_X12_readWire (c_X12_readWire C.2.2.2.2.1  I L hg16) q_1428 q_1430 q_54 (by decide) (by decide) rfl rfl (Nat.le_of_ble_eq_true rfl) ⟨Nat.le_refl _, Nat.le_refl _, Nat.le_refl _, Nat.le_refl _⟩ ?_
        refine z_goto C 148 (by decide) dX12_readSentence_75 ?_
        refine z_lv [] (lv' := []) rfl ?_
        exact l_X12_readSentence_148 C  I17 L h
    · have h := zif_t hc h
      refine z_aload_n C rfl 1 rfl dX12_readSentence_47 ?_
      obtain ⟨I19, L20, hg18, h⟩ := zb2_e h
      refine z_callV C zc_12 rfl (by decide) dX12_readSentence_48 yy_X12_readMake (c_X12_readMake C.2.2.2.2.1  I L hg18) q_1420 q_1422 q_52 (by decide) (by decide) rfl rfl (Nat.le_of_ble_eq_true rfl) ⟨Nat.le_refl _, Nat.le_refl _, Nat.le_refl _, Nat.le_refl _⟩ ?_
      refine z_goto C 148 (by decide) dX12_readSentence_51 ?_
      refine z_lv [] (lv' := []) rfl ?_
      exact l_X12_readSentence_148 C  I19 L20 h
  · have h := zif_t hc h
    refine z_aload_n C rfl 1 rfl dX12_readSentence_23 ?_
    obtain ⟨I22, L23, hg21, h⟩ := zb2_e h
    refine z_callV C zc_12 rfl (by decide) dX12_readSentence_24 yy_X12_readInput (c_X12_readInput C.2.2.2.2.1  I L hg21) q_1400 q_1402 q_47 (by decide) (by decide) rfl rfl (Nat.le_of_ble_eq_true rfl) ⟨Nat.le_refl _, Nat.le_refl _, Nat.le_refl _, Nat.le_refl _⟩ ?_
    refine z_goto C 148 (by decide) dX12_readSentence_27 ?_
    refine z_lv [] (lv' := []) rfl ?_
    exact l_X12_readSentence_148 C  I22 L23 h
theorem q_1180 : (Cond.fieldLink "DeviceFindModel" (240 : Nat) "DeviceFindModel" "isRead" "Z") ∈ lw_tbl := List.mem_of_getElem? (i := 1180) (by decide +kernel)
theorem q_1181 : (Cond.fieldLink "DeviceFindModel" (243 : Nat) "DeviceFindModel" "layers" "I") ∈ lw_tbl := List.mem_of_getElem? (i := 1181) (by decide +kernel)
theorem q_1182 : (Cond.fieldLink "DeviceFindModel" (246 : Nat) "DeviceFindModel" "wires" "I") ∈ lw_tbl := List.mem_of_getElem? (i := 1182) (by decide +kernel)
theorem q_1183 : (Cond.fieldLink "DeviceFindModel" (249 : Nat) "DeviceFindModel" "joins" "I") ∈ lw_tbl := List.mem_of_getElem? (i := 1183) (by decide +kernel)
theorem q_1184 : (Cond.fieldLink "DeviceFindModel" (237 : Nat) "DeviceFindModel" "kinds" "I") ∈ lw_tbl := List.mem_of_getElem? (i := 1184) (by decide +kernel)
theorem q_1448 : (Cond.code ({ cls := "DeviceFindModel", name := "adopt", desc := "()V" } : Jvm.MethodName) prog_14_method_30_code (2 : Nat) (Option.none : Option Jvm.ClassFile.FieldType)) ∈ lw_tbl := List.mem_of_getElem? (i := 1448) (by decide +kernel)
theorem yy_X12_adopt : zY yX12_adopt cX12_adopt 2 none 0 := ⟨q_1448, q_88, by decide +kernel, by decide +kernel, by decide +kernel⟩
def f_X12_adopt_236 (k236 : Int32 → zI → zL → Option (zI × zL)) (v1 : Int32) (I : zI) (L : zL) : Option (zI × zL) :=
  if (32 : Int32) ≤ v1 then (some (I, L)) else (zlt ((32 : Int32) + v1) (fun x50 => zck (zbd x50 64) (zck (zbd v1 64) (zlt (zu I 116 v1.toNatClampNeg (I 116 x50.toNatClampNeg)) (fun I53 => zlt (v1 + 1) (fun x54 => k236 x54 I53 L))))))
def f_X12_adopt_177 (k177 : Int32 → zI → zL → Option (zI × zL)) (v1 : Int32) (I : zI) (L : zL) : Option (zI × zL) :=
  if (16 : Int32) ≤ v1 then (zlp3 (f_X12_adopt_236) zF (0 : Int32) I L) else (zlt ((16 : Int32) + v1) (fun x37 => zck (zbd x37 32) (zck (zbd v1 32) (zlt (zu I 110 v1.toNatClampNeg (I 110 x37.toNatClampNeg)) (fun I40 => zlt ((16 : Int32) + v1) (fun x41 => zck (zbd x41 32) (zck (zbd v1 32) (zlt (zu I40 111 v1.toNatClampNeg (I40 111 x41.toNatClampNeg)) (fun I44 => zlt ((16 : Int32) + v1) (fun x45 => zck (zbd x45 32) (zck (zbd v1 32) (zlt (zu I44 112 v1.toNatClampNeg (I44 112 x45.toNatClampNeg)) (fun I48 => zlt (v1 + 1) (fun x49 => k177 x49 I48 L))))))))))))))
def f_X12_adopt_118 (k118 : Int32 → zI → zL → Option (zI × zL)) (v1 : Int32) (I : zI) (L : zL) : Option (zI × zL) :=
  if (8 : Int32) ≤ v1 then (zlp3 (f_X12_adopt_177) zF (0 : Int32) I L) else (zlt ((8 : Int32) + v1) (fun x24 => zck (zbd x24 16) (zck (zbd v1 16) (zlt (zu I 109 v1.toNatClampNeg (I 109 x24.toNatClampNeg)) (fun I27 => zlt ((8 : Int32) + v1) (fun x28 => zck (zbd x28 16) (zck (zbd v1 16) (zlt (zu I27 114 v1.toNatClampNeg (I27 114 x28.toNatClampNeg)) (fun I31 => zlt ((8 : Int32) + v1) (fun x32 => zck (zbd x32 16) (zck (zbd v1 16) (zlt (zu I31 115 v1.toNatClampNeg (I31 115 x32.toNatClampNeg)) (fun I35 => zlt (v1 + 1) (fun x36 => k118 x36 I35 L))))))))))))))
def f_X12_adopt_44 (k44 : Int32 → zI → zL → Option (zI × zL)) (v1 : Int32) (I : zI) (L : zL) : Option (zI × zL) :=
  if (24 : Int32) ≤ v1 then (zlp3 (f_X12_adopt_118) zF (0 : Int32) I L) else (zlt ((24 : Int32) + v1) (fun x7 => zck (zbd x7 48) (zck (zbd v1 48) (zlt (zul L 105 v1.toNatClampNeg (L 105 x7.toNatClampNeg)) (fun L10 => zlt ((24 : Int32) + v1) (fun x11 => zck (zbd x11 48) (zck (zbd v1 48) (zlt (zu I 106 v1.toNatClampNeg (I 106 x11.toNatClampNeg)) (fun I14 => zlt ((24 : Int32) + v1) (fun x15 => zck (zbd x15 48) (zck (zbd v1 48) (zlt (zu I14 107 v1.toNatClampNeg (I14 107 x15.toNatClampNeg)) (fun I18 => zlt ((24 : Int32) + v1) (fun x19 => zck (zbd x19 48) (zck (zbd v1 48) (zlt (zu I18 108 v1.toNatClampNeg (I18 108 x19.toNatClampNeg)) (fun I22 => zlt (v1 + 1) (fun x23 => k44 x23 I22 L10))))))))))))))))))
def f_X12_adopt (I : zI) (L : zL) : Option (zI × zL) :=
  zlt (zu I 97 11 (1 : Int32)) (fun I1 => zlt (zu I1 97 30 (0 : Int32)) (fun I2 => zlt (zu I2 97 12 (I2 97 50)) (fun I3 => zlt (zu I3 97 13 (I3 97 51)) (fun I4 => zlt (zu I4 97 14 (I4 97 52)) (fun I5 => zlt (zu I5 97 15 (I5 97 53)) (fun I6 => zlp3 (f_X12_adopt_44) zF (0 : Int32) I6 L))))))
set_option maxHeartbeats 4000000 in
set_option maxRecDepth 100000 in
theorem l_X12_adopt_236 {r : zI × zL} (C : zC p l e R s m args below meth c s0 a0 d cy B0 yX12_adopt.cls cX12_adopt 2 none bc bs bc bs 0 0 []) (k236 : Int32 → zI → zL → Option (zI × zL)) (hk236 : ∀ (v1 : Int32) (I : zI) (L : zL), k236 v1 I L = some r → zG p l e R s m args below meth c d cy B0 2 bc bs (zQ below s args d cy B0 bc bs (.inl none) zSH zKn bc bs r.1 r.2) 236 [(0, .ref (B0 + 97)), (1, .int v1)] [] zSH zKn bc bs I L) (v1 : Int32) (I : zI) (L : zL) (h : f_X12_adopt_236 k236 v1 I L = some r) : zG p l e R s m args below meth c d cy B0 2 bc bs (zQ below s args d cy B0 bc bs (.inl none) zSH zKn bc bs r.1 r.2) 236 [(0, .ref (B0 + 97)), (1, .int v1)] [] zSH zKn bc bs I L := by
  unfold f_X12_adopt_236 at h
  refine z_iload_n C rfl 1 rfl dX12_adopt_236 ?_
  refine z_bipush C (v := 32) (by decide) dX12_adopt_237 ?_
  refine z_icmp_ge C 263 (by decide) dX12_adopt_239 (fun hc => ?_) (fun hc => ?_)
  · have h := zif_t hc h
    obtain rfl := Option.some.inj h
    exact z_vret C dX12_adopt_263 rfl rfl
  · have h := zif_f hc h
    refine z_aload_n C rfl 0 rfl dX12_adopt_242 ?_
    refine z_getr C zc_12 dX12_adopt_243 27 97 116 rfl (by decide) (by decide) q_1196 rfl rfl ?_
    refine z_iload_n C rfl 1 rfl dX12_adopt_246 ?_
    refine z_aload_n C rfl 0 rfl dX12_adopt_247 ?_
    refine z_getr C zc_12 dX12_adopt_248 27 97 116 rfl (by decide) (by decide) q_1196 rfl rfl ?_
    refine z_bipush C (v := 32) (by decide) dX12_adopt_251 ?_
    refine z_iload_n C rfl 1 rfl dX12_adopt_253 ?_
    refine z_iadd C dX12_adopt_254 ?_
    obtain ⟨x50, ex50, h⟩ := zlt_e h
    refine z_eqi C ex50 ?_
    obtain ⟨hb51, h⟩ := zck_e h
    refine z_iaload C dX12_adopt_255 rfl rfl (by decide) (zbd_in hb51) ?_
    obtain ⟨hb52, h⟩ := zck_e h
    refine z_iastore C dX12_adopt_256 rfl rfl (by decide) (zbd_in hb52) ?_
    obtain ⟨I53, eI53, h⟩ := zlt_e h
    refine z_eqI C eI53 ?_
    obtain ⟨x54, ex54, h⟩ := zlt_e h
    refine z_iinc C (j := 1) (v := x54) (lv' := [(1, .int x54), (0, .ref (B0 + 97))]) rfl (by rw [ex54]; rfl) (by decide) rfl dX12_adopt_257 ?_
    refine z_goto C 236 (by decide) dX12_adopt_260 ?_
    refine z_lv [1, 0] (lv' := [(0, .ref (B0 + 97)), (1, .int x54)]) rfl ?_
    exact hk236 x54 I53 L h
set_option maxHeartbeats 4000000 in
set_option maxRecDepth 100000 in
theorem L_X12_adopt_236 {r : zI × zL} (C : zC p l e R s m args below meth c s0 a0 d cy B0 yX12_adopt.cls cX12_adopt 2 none bc bs bc bs 0 0 []) (v1 : Int32) (I : zI) (L : zL) (h : zlp3 (f_X12_adopt_236) zF v1 I L = some r) : zG p l e R s m args below meth c d cy B0 2 bc bs (zQ below s args d cy B0 bc bs (.inl none) zSH zKn bc bs r.1 r.2) 236 [(0, .ref (B0 + 97)), (1, .int v1)] [] zSH zKn bc bs I L :=
 zlp3_e (fun (v1 : Int32) (I : zI) (L : zL) => zG p l e R s m args below meth c d cy B0 2 bc bs (zQ below s args d cy B0 bc bs (.inl none) zSH zKn bc bs r.1 r.2) 236 [(0, .ref (B0 + 97)), (1, .int v1)] [] zSH zKn bc bs I L) (fun k9 hk9 v1 I L h => l_X12_adopt_236 C k9 hk9 v1 I L h) zF v1 I L h
set_option maxHeartbeats 4000000 in
set_option maxRecDepth 100000 in
theorem l_X12_adopt_177 {r : zI × zL} (C : zC p l e R s m args below meth c s0 a0 d cy B0 yX12_adopt.cls cX12_adopt 2 none bc bs bc bs 0 0 []) (k177 : Int32 → zI → zL → Option (zI × zL)) (hk177 : ∀ (v1 : Int32) (I : zI) (L : zL), k177 v1 I L = some r → zG p l e R s m args below meth c d cy B0 2 bc bs (zQ below s args d cy B0 bc bs (.inl none) zSH zKn bc bs r.1 r.2) 177 [(0, .ref (B0 + 97)), (1, .int v1)] [] zSH zKn bc bs I L) (v1 : Int32) (I : zI) (L : zL) (h : f_X12_adopt_177 k177 v1 I L = some r) : zG p l e R s m args below meth c d cy B0 2 bc bs (zQ below s args d cy B0 bc bs (.inl none) zSH zKn bc bs r.1 r.2) 177 [(0, .ref (B0 + 97)), (1, .int v1)] [] zSH zKn bc bs I L := by
  unfold f_X12_adopt_177 at h
  refine z_iload_n C rfl 1 rfl dX12_adopt_177 ?_
  refine z_bipush C (v := 16) (by decide) dX12_adopt_178 ?_
  refine z_icmp_ge C 234 (by decide) dX12_adopt_180 (fun hc => ?_) (fun hc => ?_)
  · have h := zif_t hc h
    refine z_iconst C (v := 0) (by decide) dX12_adopt_234 ?_
    refine z_istore_n C (lv' := [(1, .int (0 : Int32)), (0, .ref (B0 + 97))]) rfl (by decide) rfl dX12_adopt_235 ?_
    refine z_lv [1, 0] (lv' := [(0, .ref (B0 + 97)), (1, .int (0 : Int32))]) rfl ?_
    exact L_X12_adopt_236 C  (0 : Int32) I L h
  · have h := zif_f hc h
    refine z_aload_n C rfl 0 rfl dX12_adopt_183 ?_
    refine z_getr C zc_12 dX12_adopt_184 21 97 110 rfl (by decide) (by decide) q_1190 rfl rfl ?_
    refine z_iload_n C rfl 1 rfl dX12_adopt_187 ?_
    refine z_aload_n C rfl 0 rfl dX12_adopt_188 ?_
    refine z_getr C zc_12 dX12_adopt_189 21 97 110 rfl (by decide) (by decide) q_1190 rfl rfl ?_
    refine z_bipush C (v := 16) (by decide) dX12_adopt_192 ?_
    refine z_iload_n C rfl 1 rfl dX12_adopt_194 ?_
    refine z_iadd C dX12_adopt_195 ?_
    obtain ⟨x37, ex37, h⟩ := zlt_e h
    refine z_eqi C ex37 ?_
    obtain ⟨hb38, h⟩ := zck_e h
    refine z_iaload C dX12_adopt_196 rfl rfl (by decide) (zbd_in hb38) ?_
    obtain ⟨hb39, h⟩ := zck_e h
    refine z_iastore C dX12_adopt_197 rfl rfl (by decide) (zbd_in hb39) ?_
    obtain ⟨I40, eI40, h⟩ := zlt_e h
    refine z_eqI C eI40 ?_
    refine z_aload_n C rfl 0 rfl dX12_adopt_198 ?_
    refine z_getr C zc_12 dX12_adopt_199 22 97 111 rfl (by decide) (by decide) q_1191 rfl rfl ?_
    refine z_iload_n C rfl 1 rfl dX12_adopt_202 ?_
    refine z_aload_n C rfl 0 rfl dX12_adopt_203 ?_
    refine z_getr C zc_12 dX12_adopt_204 22 97 111 rfl (by decide) (by decide) q_1191 rfl rfl ?_
    refine z_bipush C (v := 16) (by decide) dX12_adopt_207 ?_
    refine z_iload_n C rfl 1 rfl dX12_adopt_209 ?_
    refine z_iadd C dX12_adopt_210 ?_
    obtain ⟨x41, ex41, h⟩ := zlt_e h
    refine z_eqi C ex41 ?_
    obtain ⟨hb42, h⟩ := zck_e h
    refine z_iaload C dX12_adopt_211 rfl rfl (by decide) (zbd_in hb42) ?_
    obtain ⟨hb43, h⟩ := zck_e h
    refine z_iastore C dX12_adopt_212 rfl rfl (by decide) (zbd_in hb43) ?_
    obtain ⟨I44, eI44, h⟩ := zlt_e h
    refine z_eqI C eI44 ?_
    refine z_aload_n C rfl 0 rfl dX12_adopt_213 ?_
    refine z_getr C zc_12 dX12_adopt_214 23 97 112 rfl (by decide) (by decide) q_1192 rfl rfl ?_
    refine z_iload_n C rfl 1 rfl dX12_adopt_217 ?_
    refine z_aload_n C rfl 0 rfl dX12_adopt_218 ?_
    refine z_getr C zc_12 dX12_adopt_219 23 97 112 rfl (by decide) (by decide) q_1192 rfl rfl ?_
    refine z_bipush C (v := 16) (by decide) dX12_adopt_222 ?_
    refine z_iload_n C rfl 1 rfl dX12_adopt_224 ?_
    refine z_iadd C dX12_adopt_225 ?_
    obtain ⟨x45, ex45, h⟩ := zlt_e h
    refine z_eqi C ex45 ?_
    obtain ⟨hb46, h⟩ := zck_e h
    refine z_iaload C dX12_adopt_226 rfl rfl (by decide) (zbd_in hb46) ?_
    obtain ⟨hb47, h⟩ := zck_e h
    refine z_iastore C dX12_adopt_227 rfl rfl (by decide) (zbd_in hb47) ?_
    obtain ⟨I48, eI48, h⟩ := zlt_e h
    refine z_eqI C eI48 ?_
    obtain ⟨x49, ex49, h⟩ := zlt_e h
    refine z_iinc C (j := 1) (v := x49) (lv' := [(1, .int x49), (0, .ref (B0 + 97))]) rfl (by rw [ex49]; rfl) (by decide) rfl dX12_adopt_228 ?_
    refine z_goto C 177 (by decide) dX12_adopt_231 ?_
    refine z_lv [1, 0] (lv' := [(0, .ref (B0 + 97)), (1, .int x49)]) rfl ?_
    exact hk177 x49 I48 L h
set_option maxHeartbeats 4000000 in
set_option maxRecDepth 100000 in
theorem L_X12_adopt_177 {r : zI × zL} (C : zC p l e R s m args below meth c s0 a0 d cy B0 yX12_adopt.cls cX12_adopt 2 none bc bs bc bs 0 0 []) (v1 : Int32) (I : zI) (L : zL) (h : zlp3 (f_X12_adopt_177) zF v1 I L = some r) : zG p l e R s m args below meth c d cy B0 2 bc bs (zQ below s args d cy B0 bc bs (.inl none) zSH zKn bc bs r.1 r.2) 177 [(0, .ref (B0 + 97)), (1, .int v1)] [] zSH zKn bc bs I L :=
 zlp3_e (fun (v1 : Int32) (I : zI) (L : zL) => zG p l e R s m args below meth c d cy B0 2 bc bs (zQ below s args d cy B0 bc bs (.inl none) zSH zKn bc bs r.1 r.2) 177 [(0, .ref (B0 + 97)), (1, .int v1)] [] zSH zKn bc bs I L) (fun k9 hk9 v1 I L h => l_X12_adopt_177 C k9 hk9 v1 I L h) zF v1 I L h
set_option maxHeartbeats 4000000 in
set_option maxRecDepth 100000 in
theorem l_X12_adopt_118 {r : zI × zL} (C : zC p l e R s m args below meth c s0 a0 d cy B0 yX12_adopt.cls cX12_adopt 2 none bc bs bc bs 0 0 []) (k118 : Int32 → zI → zL → Option (zI × zL)) (hk118 : ∀ (v1 : Int32) (I : zI) (L : zL), k118 v1 I L = some r → zG p l e R s m args below meth c d cy B0 2 bc bs (zQ below s args d cy B0 bc bs (.inl none) zSH zKn bc bs r.1 r.2) 118 [(0, .ref (B0 + 97)), (1, .int v1)] [] zSH zKn bc bs I L) (v1 : Int32) (I : zI) (L : zL) (h : f_X12_adopt_118 k118 v1 I L = some r) : zG p l e R s m args below meth c d cy B0 2 bc bs (zQ below s args d cy B0 bc bs (.inl none) zSH zKn bc bs r.1 r.2) 118 [(0, .ref (B0 + 97)), (1, .int v1)] [] zSH zKn bc bs I L := by
  unfold f_X12_adopt_118 at h
  refine z_iload_n C rfl 1 rfl dX12_adopt_118 ?_
  refine z_bipush C (v := 8) (by decide) dX12_adopt_119 ?_
  refine z_icmp_ge C 175 (by decide) dX12_adopt_121 (fun hc => ?_) (fun hc => ?_)
  · have h := zif_t hc h
    refine z_iconst C (v := 0) (by decide) dX12_adopt_175 ?_
    refine z_istore_n C (lv' := [(1, .int (0 : Int32)), (0, .ref (B0 + 97))]) rfl (by decide) rfl dX12_adopt_176 ?_
    refine z_lv [1, 0] (lv' := [(0, .ref (B0 + 97)), (1, .int (0 : Int32))]) rfl ?_
    exact L_X12_adopt_177 C  (0 : Int32) I L h
  · have h := zif_f hc h
    refine z_aload_n C rfl 0 rfl dX12_adopt_124 ?_
    refine z_getr C zc_12 dX12_adopt_125 20 97 109 rfl (by decide) (by decide) q_1189 rfl rfl ?_
    refine z_iload_n C rfl 1 rfl dX12_adopt_128 ?_
    refine z_aload_n C rfl 0 rfl dX12_adopt_129 ?_
    refine z_getr C zc_12 dX12_adopt_130 20 97 109 rfl (by decide) (by decide) q_1189 rfl rfl ?_
    refine z_bipush C (v := 8) (by decide) dX12_adopt_133 ?_
    refine z_iload_n C rfl 1 rfl dX12_adopt_135 ?_
    refine z_iadd C dX12_adopt_136 ?_
    obtain ⟨x24, ex24, h⟩ := zlt_e h
    refine z_eqi C ex24 ?_
    obtain ⟨hb25, h⟩ := zck_e h
    refine z_iaload C dX12_adopt_137 rfl rfl (by decide) (zbd_in hb25) ?_
    obtain ⟨hb26, h⟩ := zck_e h
    refine z_iastore C dX12_adopt_138 rfl rfl (by decide) (zbd_in hb26) ?_
    obtain ⟨I27, eI27, h⟩ := zlt_e h
    refine z_eqI C eI27 ?_
    refine z_aload_n C rfl 0 rfl dX12_adopt_139 ?_
    refine z_getr C zc_12 dX12_adopt_140 25 97 114 rfl (by decide) (by decide) q_1194 rfl rfl ?_
    refine z_iload_n C rfl 1 rfl dX12_adopt_143 ?_
    refine z_aload_n C rfl 0 rfl dX12_adopt_144 ?_
    refine z_getr C zc_12 dX12_adopt_145 25 97 114 rfl (by decide) (by decide) q_1194 rfl rfl ?_
    refine z_bipush C (v := 8) (by decide) dX12_adopt_148 ?_
    refine z_iload_n C rfl 1 rfl dX12_adopt_150 ?_
    refine z_iadd C dX12_adopt_151 ?_
    obtain ⟨x28, ex28, h⟩ := zlt_e h
    refine z_eqi C ex28 ?_
    obtain ⟨hb29, h⟩ := zck_e h
    refine z_iaload C dX12_adopt_152 rfl rfl (by decide) (zbd_in hb29) ?_
    obtain ⟨hb30, h⟩ := zck_e h
    refine z_iastore C dX12_adopt_153 rfl rfl (by decide) (zbd_in hb30) ?_
    obtain ⟨I31, eI31, h⟩ := zlt_e h
    refine z_eqI C eI31 ?_
    refine z_aload_n C rfl 0 rfl dX12_adopt_154 ?_
    refine z_getr C zc_12 dX12_adopt_155 26 97 115 rfl (by decide) (by decide) q_1195 rfl rfl ?_
    refine z_iload_n C rfl 1 rfl dX12_adopt_158 ?_
    refine z_aload_n C rfl 0 rfl dX12_adopt_159 ?_
    refine z_getr C zc_12 dX12_adopt_160 26 97 115 rfl (by decide) (by decide) q_1195 rfl rfl ?_
    refine z_bipush C (v := 8) (by decide) dX12_adopt_163 ?_
    refine z_iload_n C rfl 1 rfl dX12_adopt_165 ?_
    refine z_iadd C dX12_adopt_166 ?_
    obtain ⟨x32, ex32, h⟩ := zlt_e h
    refine z_eqi C ex32 ?_
    obtain ⟨hb33, h⟩ := zck_e h
    refine z_iaload C dX12_adopt_167 rfl rfl (by decide) (zbd_in hb33) ?_
    obtain ⟨hb34, h⟩ := zck_e h
    refine z_iastore C dX12_adopt_168 rfl rfl (by decide) (zbd_in hb34) ?_
    obtain ⟨I35, eI35, h⟩ := zlt_e h
    refine z_eqI C eI35 ?_
    obtain ⟨x36, ex36, h⟩ := zlt_e h
    refine z_iinc C (j := 1) (v := x36) (lv' := [(1, .int x36), (0, .ref (B0 + 97))]) rfl (by rw [ex36]; rfl) (by decide) rfl dX12_adopt_169 ?_
    refine z_goto C 118 (by decide) dX12_adopt_172 ?_
    refine z_lv [1, 0] (lv' := [(0, .ref (B0 + 97)), (1, .int x36)]) rfl ?_
    exact hk118 x36 I35 L h
set_option maxHeartbeats 4000000 in
set_option maxRecDepth 100000 in
theorem L_X12_adopt_118 {r : zI × zL} (C : zC p l e R s m args below meth c s0 a0 d cy B0 yX12_adopt.cls cX12_adopt 2 none bc bs bc bs 0 0 []) (v1 : Int32) (I : zI) (L : zL) (h : zlp3 (f_X12_adopt_118) zF v1 I L = some r) : zG p l e R s m args below meth c d cy B0 2 bc bs (zQ below s args d cy B0 bc bs (.inl none) zSH zKn bc bs r.1 r.2) 118 [(0, .ref (B0 + 97)), (1, .int v1)] [] zSH zKn bc bs I L :=
 zlp3_e (fun (v1 : Int32) (I : zI) (L : zL) => zG p l e R s m args below meth c d cy B0 2 bc bs (zQ below s args d cy B0 bc bs (.inl none) zSH zKn bc bs r.1 r.2) 118 [(0, .ref (B0 + 97)), (1, .int v1)] [] zSH zKn bc bs I L) (fun k9 hk9 v1 I L h => l_X12_adopt_118 C k9 hk9 v1 I L h) zF v1 I L h
set_option maxHeartbeats 4000000 in
set_option maxRecDepth 100000 in
theorem l_X12_adopt_44 {r : zI × zL} (C : zC p l e R s m args below meth c s0 a0 d cy B0 yX12_adopt.cls cX12_adopt 2 none bc bs bc bs 0 0 []) (k44 : Int32 → zI → zL → Option (zI × zL)) (hk44 : ∀ (v1 : Int32) (I : zI) (L : zL), k44 v1 I L = some r → zG p l e R s m args below meth c d cy B0 2 bc bs (zQ below s args d cy B0 bc bs (.inl none) zSH zKn bc bs r.1 r.2) 44 [(0, .ref (B0 + 97)), (1, .int v1)] [] zSH zKn bc bs I L) (v1 : Int32) (I : zI) (L : zL) (h : f_X12_adopt_44 k44 v1 I L = some r) : zG p l e R s m args below meth c d cy B0 2 bc bs (zQ below s args d cy B0 bc bs (.inl none) zSH zKn bc bs r.1 r.2) 44 [(0, .ref (B0 + 97)), (1, .int v1)] [] zSH zKn bc bs I L := by
  unfold f_X12_adopt_44 at h
  refine z_iload_n C rfl 1 rfl dX12_adopt_44 ?_
  refine z_bipush C (v := 24) (by decide) dX12_adopt_45 ?_
  refine z_icmp_ge C 116 (by decide) dX12_adopt_47 (fun hc => ?_) (fun hc => ?_)
  · have h := zif_t hc h
    refine z_iconst C (v := 0) (by decide) dX12_adopt_116 ?_
    refine z_istore_n C (lv' := [(1, .int (0 : Int32)), (0, .ref (B0 + 97))]) rfl (by decide) rfl dX12_adopt_117 ?_
    refine z_lv [1, 0] (lv' := [(0, .ref (B0 + 97)), (1, .int (0 : Int32))]) rfl ?_
    exact L_X12_adopt_118 C  (0 : Int32) I L h
  · have h := zif_f hc h
    refine z_aload_n C rfl 0 rfl dX12_adopt_50 ?_
    refine z_getr C zc_12 dX12_adopt_51 16 97 105 rfl (by decide) (by decide) q_1185 rfl rfl ?_
    refine z_iload_n C rfl 1 rfl dX12_adopt_54 ?_
    refine z_aload_n C rfl 0 rfl dX12_adopt_55 ?_
    refine z_getr C zc_12 dX12_adopt_56 16 97 105 rfl (by decide) (by decide) q_1185 rfl rfl ?_
    refine z_bipush C (v := 24) (by decide) dX12_adopt_59 ?_
    refine z_iload_n C rfl 1 rfl dX12_adopt_61 ?_
    refine z_iadd C dX12_adopt_62 ?_
    obtain ⟨x7, ex7, h⟩ := zlt_e h
    refine z_eqi C ex7 ?_
    obtain ⟨hb8, h⟩ := zck_e h
    refine z_laload C dX12_adopt_63 rfl rfl (by decide) (zbd_in hb8) ?_
    obtain ⟨hb9, h⟩ := zck_e h
    refine z_lastore C dX12_adopt_64 rfl rfl (by decide) (zbd_in hb9) ?_
    obtain ⟨L10, eL10, h⟩ := zlt_e h
    refine z_eqL C eL10 ?_
    refine z_aload_n C rfl 0 rfl dX12_adopt_65 ?_
    refine z_getr C zc_12 dX12_adopt_66 17 97 106 rfl (by decide) (by decide) q_1186 rfl rfl ?_
    refine z_iload_n C rfl 1 rfl dX12_adopt_69 ?_
    refine z_aload_n C rfl 0 rfl dX12_adopt_70 ?_
    refine z_getr C zc_12 dX12_adopt_71 17 97 106 rfl (by decide) (by decide) q_1186 rfl rfl ?_
    refine z_bipush C (v := 24) (by decide) dX12_adopt_74 ?_
    refine z_iload_n C rfl 1 rfl dX12_adopt_76 ?_
    refine z_iadd C dX12_adopt_77 ?_
    obtain ⟨x11, ex11, h⟩ := zlt_e h
    refine z_eqi C ex11 ?_
    obtain ⟨hb12, h⟩ := zck_e h
    refine z_iaload C dX12_adopt_78 rfl rfl (by decide) (zbd_in hb12) ?_
    obtain ⟨hb13, h⟩ := zck_e h
    refine z_iastore C dX12_adopt_79 rfl rfl (by decide) (zbd_in hb13) ?_
    obtain ⟨I14, eI14, h⟩ := zlt_e h
    refine z_eqI C eI14 ?_
    refine z_aload_n C rfl 0 rfl dX12_adopt_80 ?_
    refine z_getr C zc_12 dX12_adopt_81 18 97 107 rfl (by decide) (by decide) q_1187 rfl rfl ?_
    refine z_iload_n C rfl 1 rfl dX12_adopt_84 ?_
    refine z_aload_n C rfl 0 rfl dX12_adopt_85 ?_
    refine z_getr C zc_12 dX12_adopt_86 18 97 107 rfl (by decide) (by decide) q_1187 rfl rfl ?_
    refine z_bipush C (v := 24) (by decide) dX12_adopt_89 ?_
    refine z_iload_n C rfl 1 rfl dX12_adopt_91 ?_
    refine z_iadd C dX12_adopt_92 ?_
    obtain ⟨x15, ex15, h⟩ := zlt_e h
    refine z_eqi C ex15 ?_
    obtain ⟨hb16, h⟩ := zck_e h
    refine z_iaload C dX12_adopt_93 rfl rfl (by decide) (zbd_in hb16) ?_
    obtain ⟨hb17, h⟩ := zck_e h
    refine z_iastore C dX12_adopt_94 rfl rfl (by decide) (zbd_in hb17) ?_
    obtain ⟨I18, eI18, h⟩ := zlt_e h
    refine z_eqI C eI18 ?_
    refine z_aload_n C rfl 0 rfl dX12_adopt_95 ?_
    refine z_getr C zc_12 dX12_adopt_96 19 97 108 rfl (by decide) (by decide) q_1188 rfl rfl ?_
    refine z_iload_n C rfl 1 rfl dX12_adopt_99 ?_
    refine z_aload_n C rfl 0 rfl dX12_adopt_100 ?_
    refine z_getr C zc_12 dX12_adopt_101 19 97 108 rfl (by decide) (by decide) q_1188 rfl rfl ?_
    refine z_bipush C (v := 24) (by decide) dX12_adopt_104 ?_
    refine z_iload_n C rfl 1 rfl dX12_adopt_106 ?_
    refine z_iadd C dX12_adopt_107 ?_
    obtain ⟨x19, ex19, h⟩ := zlt_e h
    refine z_eqi C ex19 ?_
    obtain ⟨hb20, h⟩ := zck_e h
    refine z_iaload C dX12_adopt_108 rfl rfl (by decide) (zbd_in hb20) ?_
    obtain ⟨hb21, h⟩ := zck_e h
    refine z_iastore C dX12_adopt_109 rfl rfl (by decide) (zbd_in hb21) ?_
    obtain ⟨I22, eI22, h⟩ := zlt_e h
    refine z_eqI C eI22 ?_
    obtain ⟨x23, ex23, h⟩ := zlt_e h
    refine z_iinc C (j := 1) (v := x23) (lv' := [(1, .int x23), (0, .ref (B0 + 97))]) rfl (by rw [ex23]; rfl) (by decide) rfl dX12_adopt_110 ?_
    refine z_goto C 44 (by decide) dX12_adopt_113 ?_
    refine z_lv [1, 0] (lv' := [(0, .ref (B0 + 97)), (1, .int x23)]) rfl ?_
    exact hk44 x23 I22 L10 h
set_option maxHeartbeats 4000000 in
set_option maxRecDepth 100000 in
theorem L_X12_adopt_44 {r : zI × zL} (C : zC p l e R s m args below meth c s0 a0 d cy B0 yX12_adopt.cls cX12_adopt 2 none bc bs bc bs 0 0 []) (v1 : Int32) (I : zI) (L : zL) (h : zlp3 (f_X12_adopt_44) zF v1 I L = some r) : zG p l e R s m args below meth c d cy B0 2 bc bs (zQ below s args d cy B0 bc bs (.inl none) zSH zKn bc bs r.1 r.2) 44 [(0, .ref (B0 + 97)), (1, .int v1)] [] zSH zKn bc bs I L :=
 zlp3_e (fun (v1 : Int32) (I : zI) (L : zL) => zG p l e R s m args below meth c d cy B0 2 bc bs (zQ below s args d cy B0 bc bs (.inl none) zSH zKn bc bs r.1 r.2) 44 [(0, .ref (B0 + 97)), (1, .int v1)] [] zSH zKn bc bs I L) (fun k9 hk9 v1 I L h => l_X12_adopt_44 C k9 hk9 v1 I L h) zF v1 I L h
set_option maxHeartbeats 4000000 in
set_option maxRecDepth 100000 in
theorem c_X12_adopt {r : zI × zL} (hE : zE0 l s0 a0 d cy B0) (I : zI) (L : zL) (h : f_X12_adopt I L = some r) : zM l s0 d cy B0 yX12_adopt cX12_adopt 2 none 0 0 [.ref (B0 + 97)] zSH zKn bc bs I L (.inl none) zSH zKn bc bs r.1 r.2 := by
  refine z_meth yy_X12_adopt hE (Nat.le_of_ble_eq_true rfl) (fun p e R s m args below meth c C => ?_)
  show zG p l e R s m args below meth c d cy B0 2 bc bs (zQ below s args d cy B0 bc bs (.inl none) zSH zKn bc bs r.1 r.2) 0 [(0, .ref (B0 + 97))] [] zSH zKn bc bs I L
  unfold f_X12_adopt at h
  refine z_aload_n C rfl 0 rfl dX12_adopt_0 ?_
  refine z_iconst C (v := 1) (by decide) dX12_adopt_1 ?_
  refine z_puti C zc_12 dX12_adopt_2 11 97 rfl (by decide) (by decide) rfl q_1180 rfl rfl rfl ?_
  obtain ⟨I1, eI1, h⟩ := zlt_e h
  refine z_eqI C eI1 ?_
  refine z_aload_n C rfl 0 rfl dX12_adopt_5 ?_
  refine z_iconst C (v := 0) (by decide) dX12_adopt_6 ?_
  refine z_puti C zc_12 dX12_adopt_7 30 97 rfl (by decide) (by decide) rfl q_1199 rfl rfl rfl ?_
  obtain ⟨I2, eI2, h⟩ := zlt_e h
  refine z_eqI C eI2 ?_
  refine z_aload_n C rfl 0 rfl dX12_adopt_10 ?_
  refine z_aload_n C rfl 0 rfl dX12_adopt_11 ?_
  refine z_geti C zc_12 dX12_adopt_12 50 97 rfl (by decide) (by decide) q_1219 rfl ?_
  refine z_puti C zc_12 dX12_adopt_15 12 97 rfl (by decide) (by decide) rfl q_1181 rfl rfl rfl ?_
  obtain ⟨I3, eI3, h⟩ := zlt_e h
  refine z_eqI C eI3 ?_
  refine z_aload_n C rfl 0 rfl dX12_adopt_18 ?_
  refine z_aload_n C rfl 0 rfl dX12_adopt_19 ?_
  refine z_geti C zc_12 dX12_adopt_20 51 97 rfl (by decide) (by decide) q_1220 rfl ?_
  refine z_puti C zc_12 dX12_adopt_23 13 97 rfl (by decide) (by decide) rfl q_1182 rfl rfl rfl ?_
  obtain ⟨I4, eI4, h⟩ := zlt_e h
  refine z_eqI C eI4 ?_
  refine z_aload_n C rfl 0 rfl dX12_adopt_26 ?_
  refine z_aload_n C rfl 0 rfl dX12_adopt_27 ?_
  refine z_geti C zc_12 dX12_adopt_28 52 97 rfl (by decide) (by decide) q_1221 rfl ?_
  refine z_puti C zc_12 dX12_adopt_31 14 97 rfl (by decide) (by decide) rfl q_1183 rfl rfl rfl ?_
  obtain ⟨I5, eI5, h⟩ := zlt_e h
  refine z_eqI C eI5 ?_
  refine z_aload_n C rfl 0 rfl dX12_adopt_34 ?_
  refine z_aload_n C rfl 0 rfl dX12_adopt_35 ?_
  refine z_geti C zc_12 dX12_adopt_36 53 97 rfl (by decide) (by decide) q_1222 rfl ?_
  refine z_puti C zc_12 dX12_adopt_39 15 97 rfl (by decide) (by decide) rfl q_1184 rfl rfl rfl ?_
  obtain ⟨I6, eI6, h⟩ := zlt_e h
  refine z_eqI C eI6 ?_
  refine z_iconst C (v := 0) (by decide) dX12_adopt_42 ?_
  refine z_istore_n C (lv' := [(1, .int (0 : Int32)), (0, .ref (B0 + 97))]) rfl (by decide) rfl dX12_adopt_43 ?_
  refine z_lv [1, 0] (lv' := [(0, .ref (B0 + 97)), (1, .int (0 : Int32))]) rfl ?_
  exact L_X12_adopt_44 C  (0 : Int32) I6 L h
theorem q_45 : Cond.selects "DeviceFindModel" ⟨"DeviceFindModel", "readSentence", "()V"⟩ ⟨"DeviceFindModel", "readSentence", "()V"⟩ ∈ lw_tbl := List.mem_of_getElem? (i := 45) (by decide +kernel)
theorem q_58 : Cond.selects "DeviceFindModel" ⟨"DeviceFindModel", "adopt", "()V"⟩ ⟨"DeviceFindModel", "adopt", "()V"⟩ ∈ lw_tbl := List.mem_of_getElem? (i := 58) (by decide +kernel)
theorem q_1376 : (Cond.code ({ cls := "DeviceFindModel", name := "read", desc := "()I" } : Jvm.MethodName) prog_14_method_29_code (1 : Nat) (Option.some Jvm.ClassFile.FieldType.int)) ∈ lw_tbl := List.mem_of_getElem? (i := 1376) (by decide +kernel)
theorem q_1387 : (Cond.methodLink "DeviceFindModel" (231 : Nat) ({ cls := "DeviceFindModel", name := "readSentence", desc := "()V" } : Jvm.MethodName)) ∈ lw_tbl := List.mem_of_getElem? (i := 1387) (by decide +kernel)
theorem q_1389 : (Cond.instanceMethod ({ cls := "DeviceFindModel", name := "readSentence", desc := "()V" } : Jvm.MethodName)) ∈ lw_tbl := List.mem_of_getElem? (i := 1389) (by decide +kernel)
theorem q_1445 : (Cond.methodLink "DeviceFindModel" (234 : Nat) ({ cls := "DeviceFindModel", name := "adopt", desc := "()V" } : Jvm.MethodName)) ∈ lw_tbl := List.mem_of_getElem? (i := 1445) (by decide +kernel)
theorem q_1447 : (Cond.instanceMethod ({ cls := "DeviceFindModel", name := "adopt", desc := "()V" } : Jvm.MethodName)) ∈ lw_tbl := List.mem_of_getElem? (i := 1447) (by decide +kernel)
theorem yy_X12_read : zY yX12_read cX12_read 1 (some .int) 0 := ⟨q_1376, q_88, by decide +kernel, by decide +kernel, by decide +kernel⟩
def f_X12_read_69 (I : zI) (L : zL) : Option (Int32 × zI × zL) :=
  zlt (zu I 97 29 (0 : Int32)) (fun I14 => if (I14 97 49) = 0 then (zlt ((-1 : Int32) - (I14 97 48)) (fun x18 => some (x18, I14, L))) else (zb2 (f_X12_adopt I14 L) (fun I16 L17 => some (I16 97 15, I16, L17))))
def f_X12_read_44 (k44 : zI → zL → Option (Int32 × zI × zL)) (I : zI) (L : zL) : Option (Int32 × zI × zL) :=
  if (I 97 49) = 0 then (f_X12_read_69 I L) else (if (I 97 29) ≤ (I 97 46) then (f_X12_read_69 I L) else (zb2 (f_X12_readSentence I L) (fun I12 L13 => k44 I12 L13)))
def f_X12_read (I : zI) (L : zL) : Option (Int32 × zI × zL) :=
  zlt (zu I 97 0 (0 : Int32)) (fun I1 => zlt (zu I1 97 47 (0 : Int32)) (fun I2 => zlt (zu I2 97 48 (-1 : Int32)) (fun I3 => zlt (zu I3 97 49 (1 : Int32)) (fun I4 => zlt (zu I4 97 50 (0 : Int32)) (fun I5 => zlt (zu I5 97 51 (0 : Int32)) (fun I6 => zlt (zu I6 97 52 (0 : Int32)) (fun I7 => zlt (zu I7 97 53 (0 : Int32)) (fun I8 => zb1 (f_X12_next I8) (fun I10 => zlp2 (f_X12_read_44) zF I10 L)))))))))
set_option maxHeartbeats 4000000 in
set_option maxRecDepth 100000 in
theorem l_X12_read_69 {r : Int32 × zI × zL} (C : zC p l e R s m args below meth c s0 a0 d cy B0 yX12_read.cls cX12_read 1 (some .int) bc bs bc bs 6 137 []) (I : zI) (L : zL) (h : f_X12_read_69 I L = some r) : zG p l e R s m args below meth c d cy B0 1 bc bs (zQ below s args d cy B0 bc bs (.inl (some (.int r.1))) zSH zKn bc bs r.2.1 r.2.2) 69 [(0, .ref (B0 + 97))] [] zSH zKn bc bs I L := by
  unfold f_X12_read_69 at h
  refine z_aload_n C rfl 0 rfl dX12_read_69 ?_
  refine z_iconst C (v := 0) (by decide) dX12_read_70 ?_
  refine z_puti C zc_12 dX12_read_71 29 97 rfl (by decide) (by decide) rfl q_1198 rfl rfl rfl ?_
  obtain ⟨I14, eI14, h⟩ := zlt_e h
  refine z_eqI C eI14 ?_
  refine z_aload_n C rfl 0 rfl dX12_read_74 ?_
  refine z_geti C zc_12 dX12_read_75 49 97 rfl (by decide) (by decide) q_1218 rfl ?_
  refine z_if_ne C 88 (by decide) dX12_read_78 (fun hc => ?_) (fun hc => ?_)
  · have h := zif_f hc h
    refine z_aload_n C rfl 0 rfl dX12_read_88 ?_
    obtain ⟨I16, L17, hg15, h⟩ := zb2_e h
    refine z_callV C zc_12 rfl (by decide) dX12_read_89 yy_X12_adopt (c_X12_adopt C.2.2.2.2.1  I14 L hg15) q_1445 q_1447 q_58 (by decide) (by decide) rfl rfl (Nat.le_of_ble_eq_true rfl) ⟨Nat.le_refl _, Nat.le_refl _, Nat.le_refl _, Nat.le_refl _⟩ ?_
    refine z_aload_n C rfl 0 rfl dX12_read_92 ?_
    refine z_geti C zc_12 dX12_read_93 15 97 rfl (by decide) (by decide) q_1184 rfl ?_
    obtain rfl := Option.some.inj h
    exact z_iret C dX12_read_96 .int rfl rfl rfl
  · have h := zif_t hc h
    refine z_iconst C (v := -1) (by decide) dX12_read_81 ?_
    refine z_aload_n C rfl 0 rfl dX12_read_82 ?_
    refine z_geti C zc_12 dX12_read_83 48 97 rfl (by decide) (by decide) q_1217 rfl ?_
    refine z_isub C dX12_read_86 ?_
    obtain ⟨x18, ex18, h⟩ := zlt_e h
    refine z_eqi C ex18 ?_
    obtain rfl := Option.some.inj h
    exact z_iret C dX12_read_87 .int rfl rfl rfl
set_option maxHeartbeats 4000000 in
set_option maxRecDepth 100000 in
theorem l_X12_read_44 {r : Int32 × zI × zL} (C : zC p l e R s m args below meth c s0 a0 d cy B0 yX12_read.cls cX12_read 1 (some .int) bc bs bc bs 6 137 []) (k44 : zI → zL → Option (Int32 × zI × zL)) (hk44 : ∀ (I : zI) (L : zL), k44 I L = some r → zG p l e R s m args below meth c d cy B0 1 bc bs (zQ below s args d cy B0 bc bs (.inl (some (.int r.1))) zSH zKn bc bs r.2.1 r.2.2) 44 [(0, .ref (B0 + 97))] [] zSH zKn bc bs I L) (I : zI) (L : zL) (h : f_X12_read_44 k44 I L = some r) : zG p l e R s m args below meth c d cy B0 1 bc bs (zQ below s args d cy B0 bc bs (.inl (some (.int r.1))) zSH zKn bc bs r.2.1 r.2.2) 44 [(0, .ref (B0 + 97))] [] zSH zKn bc bs I L := by
  unfold f_X12_read_44 at h
  refine z_aload_n C rfl 0 rfl dX12_read_44 ?_
  refine z_geti C zc_12 dX12_read_45 49 97 rfl (by decide) (by decide) q_1218 rfl ?_
  refine z_if_eq C 69 (by decide) dX12_read_48 (fun hc => ?_) (fun hc => ?_)
  · have h := zif_t hc h
    exact l_X12_read_69 C  I L h
  · have h := zif_f hc h
    refine z_aload_n C rfl 0 rfl dX12_read_51 ?_
    refine z_geti C zc_12 dX12_read_52 46 97 rfl (by decide) (by decide) q_1215 rfl ?_
    refine z_aload_n C rfl 0 rfl dX12_read_55 ?_
    refine z_geti C zc_12 dX12_read_56 29 97 rfl (by decide) (by decide) q_1198 rfl ?_
    refine z_icmp_ge C 69 (by decide) dX12_read_59 (fun hc => ?_) (fun hc => ?_)
    · have h := zif_t hc h
      exact l_X12_read_69 C  I L h
    · have h := zif_f hc h
      refine z_aload_n C rfl 0 rfl dX12_read_62 ?_
      obtain ⟨I12, L13, hg11, h⟩ := zb2_e h
      refine z_callV C zc_12 rfl (by decide) dX12_read_63 yy_X12_readSentence (c_X12_readSentence C.2.2.2.2.1  I L hg11) q_1387 q_1389 q_45 (by decide) (by decide) rfl rfl (Nat.le_of_ble_eq_true rfl) ⟨Nat.le_refl _, Nat.le_refl _, Nat.le_refl _, Nat.le_refl _⟩ ?_
      refine z_goto C 44 (by decide) dX12_read_66 ?_
      exact hk44 I12 L13 h
set_option maxHeartbeats 4000000 in
set_option maxRecDepth 100000 in
theorem L_X12_read_44 {r : Int32 × zI × zL} (C : zC p l e R s m args below meth c s0 a0 d cy B0 yX12_read.cls cX12_read 1 (some .int) bc bs bc bs 6 137 []) (I : zI) (L : zL) (h : zlp2 (f_X12_read_44) zF I L = some r) : zG p l e R s m args below meth c d cy B0 1 bc bs (zQ below s args d cy B0 bc bs (.inl (some (.int r.1))) zSH zKn bc bs r.2.1 r.2.2) 44 [(0, .ref (B0 + 97))] [] zSH zKn bc bs I L :=
 zlp2_e (fun (I : zI) (L : zL) => zG p l e R s m args below meth c d cy B0 1 bc bs (zQ below s args d cy B0 bc bs (.inl (some (.int r.1))) zSH zKn bc bs r.2.1 r.2.2) 44 [(0, .ref (B0 + 97))] [] zSH zKn bc bs I L) (fun k9 hk9 I L h => l_X12_read_44 C k9 hk9 I L h) zF I L h
set_option maxHeartbeats 4000000 in
set_option maxRecDepth 100000 in
theorem c_X12_read {r : Int32 × zI × zL} (hE : zE0 l s0 a0 d cy B0) (I : zI) (L : zL) (h : f_X12_read I L = some r) : zM l s0 d cy B0 yX12_read cX12_read 1 (some .int) 6 137 [.ref (B0 + 97)] zSH zKn bc bs I L (.inl (some (.int r.1))) zSH zKn bc bs r.2.1 r.2.2 := by
  refine z_meth yy_X12_read hE (Nat.le_of_ble_eq_true rfl) (fun p e R s m args below meth c C => ?_)
  show zG p l e R s m args below meth c d cy B0 1 bc bs (zQ below s args d cy B0 bc bs (.inl (some (.int r.1))) zSH zKn bc bs r.2.1 r.2.2) 0 [(0, .ref (B0 + 97))] [] zSH zKn bc bs I L
  unfold f_X12_read at h
  refine z_aload_n C rfl 0 rfl dX12_read_0 ?_
  refine z_iconst C (v := 0) (by decide) dX12_read_1 ?_
  refine z_puti C zc_12 dX12_read_2 0 97 rfl (by decide) (by decide) rfl q_1169 rfl rfl rfl ?_
  obtain ⟨I1, eI1, h⟩ := zlt_e h
  refine z_eqI C eI1 ?_
  refine z_aload_n C rfl 0 rfl dX12_read_5 ?_
  refine z_iconst C (v := 0) (by decide) dX12_read_6 ?_
  refine z_puti C zc_12 dX12_read_7 47 97 rfl (by decide) (by decide) rfl q_1216 rfl rfl rfl ?_
  obtain ⟨I2, eI2, h⟩ := zlt_e h
  refine z_eqI C eI2 ?_
  refine z_aload_n C rfl 0 rfl dX12_read_10 ?_
  refine z_iconst C (v := -1) (by decide) dX12_read_11 ?_
  refine z_puti C zc_12 dX12_read_12 48 97 rfl (by decide) (by decide) rfl q_1217 rfl rfl rfl ?_
  obtain ⟨I3, eI3, h⟩ := zlt_e h
  refine z_eqI C eI3 ?_
  refine z_aload_n C rfl 0 rfl dX12_read_15 ?_
  refine z_iconst C (v := 1) (by decide) dX12_read_16 ?_
  refine z_puti C zc_12 dX12_read_17 49 97 rfl (by decide) (by decide) rfl q_1218 rfl rfl rfl ?_
  obtain ⟨I4, eI4, h⟩ := zlt_e h
  refine z_eqI C eI4 ?_
  refine z_aload_n C rfl 0 rfl dX12_read_20 ?_
  refine z_iconst C (v := 0) (by decide) dX12_read_21 ?_
  refine z_puti C zc_12 dX12_read_22 50 97 rfl (by decide) (by decide) rfl q_1219 rfl rfl rfl ?_
  obtain ⟨I5, eI5, h⟩ := zlt_e h
  refine z_eqI C eI5 ?_
  refine z_aload_n C rfl 0 rfl dX12_read_25 ?_
  refine z_iconst C (v := 0) (by decide) dX12_read_26 ?_
  refine z_puti C zc_12 dX12_read_27 51 97 rfl (by decide) (by decide) rfl q_1220 rfl rfl rfl ?_
  obtain ⟨I6, eI6, h⟩ := zlt_e h
  refine z_eqI C eI6 ?_
  refine z_aload_n C rfl 0 rfl dX12_read_30 ?_
  refine z_iconst C (v := 0) (by decide) dX12_read_31 ?_
  refine z_puti C zc_12 dX12_read_32 52 97 rfl (by decide) (by decide) rfl q_1221 rfl rfl rfl ?_
  obtain ⟨I7, eI7, h⟩ := zlt_e h
  refine z_eqI C eI7 ?_
  refine z_aload_n C rfl 0 rfl dX12_read_35 ?_
  refine z_iconst C (v := 0) (by decide) dX12_read_36 ?_
  refine z_puti C zc_12 dX12_read_37 53 97 rfl (by decide) (by decide) rfl q_1222 rfl rfl rfl ?_
  obtain ⟨I8, eI8, h⟩ := zlt_e h
  refine z_eqI C eI8 ?_
  refine z_aload_n C rfl 0 rfl dX12_read_40 ?_
  obtain ⟨I10, hg9, h⟩ := zb1_e h
  refine z_callV C zc_12 rfl (by decide) dX12_read_41 yy_X12_next (c_X12_next C.2.2.2.2.1  I8 L hg9) q_1377 q_1379 q_44 (by decide) (by decide) rfl rfl (Nat.le_of_ble_eq_true rfl) ⟨Nat.le_refl _, Nat.le_refl _, Nat.le_refl _, Nat.le_refl _⟩ ?_
  exact L_X12_read_44 C  I10 L h
end Zp05_12_walk
