section Zp05_18_walk
variable {p : Program} {l : Launch} {e : Env} {R : Room} {s : State} {m : MethodId} {args : Array Value} {below : List Frame} {meth : Method} {c : Code} {s0 : State} {a0 : Array Value} {d : va_G} {cy : Nat → ClassId} {B0 : Nat} {bc bs : Nat}
theorem q_1180 : (Cond.fieldLink "DeviceFindModel" (240 : Nat) "DeviceFindModel" "isRead" "Z") ∈ lw_tbl := List.mem_of_getElem? (i := 1180) (by decide +kernel)
theorem q_1181 : (Cond.fieldLink "DeviceFindModel" (243 : Nat) "DeviceFindModel" "layers" "I") ∈ lw_tbl := List.mem_of_getElem? (i := 1181) (by decide +kernel)
theorem q_1182 : (Cond.fieldLink "DeviceFindModel" (246 : Nat) "DeviceFindModel" "wires" "I") ∈ lw_tbl := List.mem_of_getElem? (i := 1182) (by decide +kernel)
theorem q_1183 : (Cond.fieldLink "DeviceFindModel" (249 : Nat) "DeviceFindModel" "joins" "I") ∈ lw_tbl := List.mem_of_getElem? (i := 1183) (by decide +kernel)
theorem q_1184 : (Cond.fieldLink "DeviceFindModel" (237 : Nat) "DeviceFindModel" "kinds" "I") ∈ lw_tbl := List.mem_of_getElem? (i := 1184) (by decide +kernel)
theorem q_1448 : (Cond.code ({ cls := "DeviceFindModel", name := "adopt", desc := "()V" } : Jvm.MethodName) prog_14_method_30_code (2 : Nat) (Option.none : Option Jvm.ClassFile.FieldType)) ∈ lw_tbl := List.mem_of_getElem? (i := 1448) (by decide +kernel)
theorem yy_X12_adopt : zY yX12_adopt cX12_adopt 2 none 0 := ⟨q_1448, q_88, by decide +kernel, by decide +kernel, by decide +kernel⟩
noncomputable def f_X12_adopt_236 (k236 : Int32 → zI → zL → Option (zI × zL)) (v1 : Int32) (I : zI) (L : zL) : Option (zI × zL) :=
  if (32 : Int32) ≤ v1 then (some (I, L)) else (zlt ((32 : Int32) + v1) (fun x50 => zck (zbd x50 64) (zck (zbd v1 64) (zlt (zu I 116 v1.toNatClampNeg (I 116 x50.toNatClampNeg)) (fun I53 => zlt (v1 + 1) (fun x54 => k236 x54 I53 L))))))
noncomputable def f_X12_adopt_177 (k177 : Int32 → zI → zL → Option (zI × zL)) (v1 : Int32) (I : zI) (L : zL) : Option (zI × zL) :=
  if (16 : Int32) ≤ v1 then (zlp3 (f_X12_adopt_236) zF (0 : Int32) I L) else (zlt ((16 : Int32) + v1) (fun x37 => zck (zbd x37 32) (zck (zbd v1 32) (zlt (zu I 110 v1.toNatClampNeg (I 110 x37.toNatClampNeg)) (fun I40 => zlt ((16 : Int32) + v1) (fun x41 => zck (zbd x41 32) (zck (zbd v1 32) (zlt (zu I40 111 v1.toNatClampNeg (I40 111 x41.toNatClampNeg)) (fun I44 => zlt ((16 : Int32) + v1) (fun x45 => zck (zbd x45 32) (zck (zbd v1 32) (zlt (zu I44 112 v1.toNatClampNeg (I44 112 x45.toNatClampNeg)) (fun I48 => zlt (v1 + 1) (fun x49 => k177 x49 I48 L))))))))))))))
noncomputable def f_X12_adopt_118 (k118 : Int32 → zI → zL → Option (zI × zL)) (v1 : Int32) (I : zI) (L : zL) : Option (zI × zL) :=
  if (8 : Int32) ≤ v1 then (zlp3 (f_X12_adopt_177) zF (0 : Int32) I L) else (zlt ((8 : Int32) + v1) (fun x24 => zck (zbd x24 16) (zck (zbd v1 16) (zlt (zu I 109 v1.toNatClampNeg (I 109 x24.toNatClampNeg)) (fun I27 => zlt ((8 : Int32) + v1) (fun x28 => zck (zbd x28 16) (zck (zbd v1 16) (zlt (zu I27 114 v1.toNatClampNeg (I27 114 x28.toNatClampNeg)) (fun I31 => zlt ((8 : Int32) + v1) (fun x32 => zck (zbd x32 16) (zck (zbd v1 16) (zlt (zu I31 115 v1.toNatClampNeg (I31 115 x32.toNatClampNeg)) (fun I35 => zlt (v1 + 1) (fun x36 => k118 x36 I35 L))))))))))))))
noncomputable def f_X12_adopt_44 (k44 : Int32 → zI → zL → Option (zI × zL)) (v1 : Int32) (I : zI) (L : zL) : Option (zI × zL) :=
  if (24 : Int32) ≤ v1 then (zlp3 (f_X12_adopt_118) zF (0 : Int32) I L) else (zlt ((24 : Int32) + v1) (fun x7 => zck (zbd x7 48) (zck (zbd v1 48) (zlt (zul L 105 v1.toNatClampNeg (L 105 x7.toNatClampNeg)) (fun L10 => zlt ((24 : Int32) + v1) (fun x11 => zck (zbd x11 48) (zck (zbd v1 48) (zlt (zu I 106 v1.toNatClampNeg (I 106 x11.toNatClampNeg)) (fun I14 => zlt ((24 : Int32) + v1) (fun x15 => zck (zbd x15 48) (zck (zbd v1 48) (zlt (zu I14 107 v1.toNatClampNeg (I14 107 x15.toNatClampNeg)) (fun I18 => zlt ((24 : Int32) + v1) (fun x19 => zck (zbd x19 48) (zck (zbd v1 48) (zlt (zu I18 108 v1.toNatClampNeg (I18 108 x19.toNatClampNeg)) (fun I22 => zlt (v1 + 1) (fun x23 => k44 x23 I22 L10))))))))))))))))))
noncomputable def f_X12_adopt (I : zI) (L : zL) : Option (zI × zL) :=
  zlt (zu I 97 11 (1 : Int32)) (fun I1 => zlt (zu I1 97 30 (0 : Int32)) (fun I2 => zlt (zu I2 97 12 (I2 97 50)) (fun I3 => zlt (zu I3 97 13 (I3 97 51)) (fun I4 => zlt (zu I4 97 14 (I4 97 52)) (fun I5 => zlt (zu I5 97 15 (I5 97 53)) (fun I6 => zlp3 (f_X12_adopt_44) zF (0 : Int32) I6 L))))))
set_option maxHeartbeats 4000000 in
set_option maxRecDepth 100000 in
theorem l_X12_adopt_236 {r : zI × zL} (C : zC p l e R s m args below meth c s0 a0 d cy B0 yX12_adopt.cls cX12_adopt 2 none bc bs bc bs 0 0 []) (k236 : Int32 → zI → zL → Option (zI × zL)) (hk236 : ∀ (v1 : Int32) (I : zI) (L : zL), k236 v1 I L = some r → zG p l e R s m args below meth c d cy B0 2 bc bs (zQ below s args d cy B0 bc bs (.inl none) zSH zKn bc bs r.1 r.2) 236 [(0, .ref (B0 + 97)), (1, .int v1)] [] zSH zKn bc bs I L) (v1 : Int32) (I : zI) (L : zL) (h : f_X12_adopt_236 k236 v1 I L = some r) : zG p l e R s m args below meth c d cy B0 2 bc bs (zQ below s args d cy B0 bc bs (.inl none) zSH zKn bc bs r.1 r.2) 236 [(0, .ref (B0 + 97)), (1, .int v1)] [] zSH zKn bc bs I L := by
  unfold f_X12_adopt_236 at h
  refine z_iload_n C rfl 1 rfl dX12_adopt_236 ?_
  refine z_bipush C (v := 32) (by decide) dX12_adopt_237 ?_
  refine z_icmp_ge C 263 (by decide) dX12_adopt_239 (fun hc => ?_) (fun hc => ?_)
  · have h := zif_t hc h
    obtain rfl := Option.some.inj h
    exact z_vret C dX12_adopt_263 rfl rfl
  · have h := zif_f hc h
    refine z_aload_n C rfl 0 rfl dX12_adopt_242 ?_
    refine z_getr C zc_12 dX12_adopt_243 27 97 116 rfl (by decide) (by decide) q_1196 rfl rfl ?_
    refine z_iload_n C rfl 1 rfl dX12_adopt_246 ?_
    refine z_aload_n C rfl 0 rfl dX12_adopt_247 ?_
    refine z_getr C zc_12 dX12_adopt_248 27 97 116 rfl (by decide) (by decide) q_1196 rfl rfl ?_
    refine z_bipush C (v := 32) (by decide) dX12_adopt_251 ?_
    refine z_iload_n C rfl 1 rfl dX12_adopt_253 ?_
    refine z_iadd C dX12_adopt_254 ?_
    obtain ⟨x50, ex50, h⟩ := zlt_e h
    refine z_eqi C ex50 ?_
    obtain ⟨hb51, h⟩ := zck_e h
    refine z_iaload C dX12_adopt_255 rfl rfl (by decide) (zbd_in hb51) ?_
    obtain ⟨hb52, h⟩ := zck_e h
    refine z_iastore C dX12_adopt_256 rfl rfl (by decide) (zbd_in hb52) ?_
    obtain ⟨I53, eI53, h⟩ := zlt_e h
    refine z_eqI C eI53 ?_
    obtain ⟨x54, ex54, h⟩ := zlt_e h
    refine z_iinc C (j := 1) (v := x54) (lv' := [(1, .int x54), (0, .ref (B0 + 97))]) rfl (by rw [ex54]; rfl) (by decide) rfl dX12_adopt_257 ?_
    refine z_goto C 236 (by decide) dX12_adopt_260 ?_
    refine z_lv [1, 0] (lv' := [(0, .ref (B0 + 97)), (1, .int x54)]) rfl ?_
    exact hk236 x54 I53 L h
set_option maxHeartbeats 4000000 in
set_option maxRecDepth 100000 in
theorem L_X12_adopt_236 {r : zI × zL} (C : zC p l e R s m args below meth c s0 a0 d cy B0 yX12_adopt.cls cX12_adopt 2 none bc bs bc bs 0 0 []) (v1 : Int32) (I : zI) (L : zL) (h : zlp3 (f_X12_adopt_236) zF v1 I L = some r) : zG p l e R s m args below meth c d cy B0 2 bc bs (zQ below s args d cy B0 bc bs (.inl none) zSH zKn bc bs r.1 r.2) 236 [(0, .ref (B0 + 97)), (1, .int v1)] [] zSH zKn bc bs I L :=
 zlp3_e (fun (v1 : Int32) (I : zI) (L : zL) => zG p l e R s m args below meth c d cy B0 2 bc bs (zQ below s args d cy B0 bc bs (.inl none) zSH zKn bc bs r.1 r.2) 236 [(0, .ref (B0 + 97)), (1, .int v1)] [] zSH zKn bc bs I L) (fun k9 hk9 v1 I L h => l_X12_adopt_236 C k9 hk9 v1 I L h) zF v1 I L h
set_option maxHeartbeats 4000000 in
set_option maxRecDepth 100000 in
theorem l_X12_adopt_177 {r : zI × zL} (C : zC p l e R s m args below meth c s0 a0 d cy B0 yX12_adopt.cls cX12_adopt 2 none bc bs bc bs 0 0 []) (k177 : Int32 → zI → zL → Option (zI × zL)) (hk177 : ∀ (v1 : Int32) (I : zI) (L : zL), k177 v1 I L = some r → zG p l e R s m args below meth c d cy B0 2 bc bs (zQ below s args d cy B0 bc bs (.inl none) zSH zKn bc bs r.1 r.2) 177 [(0, .ref (B0 + 97)), (1, .int v1)] [] zSH zKn bc bs I L) (v1 : Int32) (I : zI) (L : zL) (h : f_X12_adopt_177 k177 v1 I L = some r) : zG p l e R s m args below meth c d cy B0 2 bc bs (zQ below s args d cy B0 bc bs (.inl none) zSH zKn bc bs r.1 r.2) 177 [(0, .ref (B0 + 97)), (1, .int v1)] [] zSH zKn bc bs I L := by
  unfold f_X12_adopt_177 at h
  refine z_iload_n C rfl 1 rfl dX12_adopt_177 ?_
  refine z_bipush C (v := 16) (by decide) dX12_adopt_178 ?_
  refine z_icmp_ge C 234 (by decide) dX12_adopt_180 (fun hc => ?_) (fun hc => ?_)
  · have h := zif_t hc h
    refine z_iconst C (v := 0) (by decide) dX12_adopt_234 ?_
    refine z_istore_n C (lv' := [(1, .int (0 : Int32)), (0, .ref (B0 + 97))]) rfl (by decide) rfl dX12_adopt_235 ?_
    refine z_lv [1, 0] (lv' := [(0, .ref (B0 + 97)), (1, .int (0 : Int32))]) rfl ?_
    exact L_X12_adopt_236 C  (0 : Int32) I L h
  · have h := zif_f hc h
    refine z_aload_n C rfl 0 rfl dX12_adopt_183 ?_
    refine z_getr C zc_12 dX12_adopt_184 21 97 110 rfl (by decide) (by decide) q_1190 rfl rfl ?_
    refine z_iload_n C rfl 1 rfl dX12_adopt_187 ?_
    refine z_aload_n C rfl 0 rfl dX12_adopt_188 ?_
    refine z_getr C zc_12 dX12_adopt_189 21 97 110 rfl (by decide) (by decide) q_1190 rfl rfl ?_
    refine z_bipush C (v := 16) (by decide) dX12_adopt_192 ?_
    refine z_iload_n C rfl 1 rfl dX12_adopt_194 ?_
    refine z_iadd C dX12_adopt_195 ?_
    obtain ⟨x37, ex37, h⟩ := zlt_e h
    refine z_eqi C ex37 ?_
    obtain ⟨hb38, h⟩ := zck_e h
    refine z_iaload C dX12_adopt_196 rfl rfl (by decide) (zbd_in hb38) ?_
    obtain ⟨hb39, h⟩ := zck_e h
    refine z_iastore C dX12_adopt_197 rfl rfl (by decide) (zbd_in hb39) ?_
    obtain ⟨I40, eI40, h⟩ := zlt_e h
    refine z_eqI C eI40 ?_
    refine z_aload_n C rfl 0 rfl dX12_adopt_198 ?_
    refine z_getr C zc_12 dX12_adopt_199 22 97 111 rfl (by decide) (by decide) q_1191 rfl rfl ?_
    refine z_iload_n C rfl 1 rfl dX12_adopt_202 ?_
    refine z_aload_n C rfl 0 rfl dX12_adopt_203 ?_
    refine z_getr C zc_12 dX12_adopt_204 22 97 111 rfl (by decide) (by decide) q_1191 rfl rfl ?_
    refine z_bipush C (v := 16) (by decide) dX12_adopt_207 ?_
    refine z_iload_n C rfl 1 rfl dX12_adopt_209 ?_
    refine z_iadd C dX12_adopt_210 ?_
    obtain ⟨x41, ex41, h⟩ := zlt_e h
    refine z_eqi C ex41 ?_
    obtain ⟨hb42, h⟩ := zck_e h
    refine z_iaload C dX12_adopt_211 rfl rfl (by decide) (zbd_in hb42) ?_
    obtain ⟨hb43, h⟩ := zck_e h
    refine z_iastore C dX12_adopt_212 rfl rfl (by decide) (zbd_in hb43) ?_
    obtain ⟨I44, eI44, h⟩ := zlt_e h
    refine z_eqI C eI44 ?_
    refine z_aload_n C rfl 0 rfl dX12_adopt_213 ?_
    refine z_getr C zc_12 dX12_adopt_214 23 97 112 rfl (by decide) (by decide) q_1192 rfl rfl ?_
    refine z_iload_n C rfl 1 rfl dX12_adopt_217 ?_
    refine z_aload_n C rfl 0 rfl dX12_adopt_218 ?_
    refine z_getr C zc_12 dX12_adopt_219 23 97 112 rfl (by decide) (by decide) q_1192 rfl rfl ?_
    refine z_bipush C (v := 16) (by decide) dX12_adopt_222 ?_
    refine z_iload_n C rfl 1 rfl dX12_adopt_224 ?_
    refine z_iadd C dX12_adopt_225 ?_
    obtain ⟨x45, ex45, h⟩ := zlt_e h
    refine z_eqi C ex45 ?_
    obtain ⟨hb46, h⟩ := zck_e h
    refine z_iaload C dX12_adopt_226 rfl rfl (by decide) (zbd_in hb46) ?_
    obtain ⟨hb47, h⟩ := zck_e h
    refine z_iastore C dX12_adopt_227 rfl rfl (by decide) (zbd_in hb47) ?_
    obtain ⟨I48, eI48, h⟩ := zlt_e h
    refine z_eqI C eI48 ?_
    obtain ⟨x49, ex49, h⟩ := zlt_e h
    refine z_iinc C (j := 1) (v := x49) (lv' := [(1, .int x49), (0, .ref (B0 + 97))]) rfl (by rw [ex49]; rfl) (by decide) rfl dX12_adopt_228 ?_
    refine z_goto C 177 (by decide) dX12_adopt_231 ?_
    refine z_lv [1, 0] (lv' := [(0, .ref (B0 + 97)), (1, .int x49)]) rfl ?_
    exact hk177 x49 I48 L h
set_option maxHeartbeats 4000000 in
set_option maxRecDepth 100000 in
theorem L_X12_adopt_177 {r : zI × zL} (C : zC p l e R s m args below meth c s0 a0 d cy B0 yX12_adopt.cls cX12_adopt 2 none bc bs bc bs 0 0 []) (v1 : Int32) (I : zI) (L : zL) (h : zlp3 (f_X12_adopt_177) zF v1 I L = some r) : zG p l e R s m args below meth c d cy B0 2 bc bs (zQ below s args d cy B0 bc bs (.inl none) zSH zKn bc bs r.1 r.2) 177 [(0, .ref (B0 + 97)), (1, .int v1)] [] zSH zKn bc bs I L :=
 zlp3_e (fun (v1 : Int32) (I : zI) (L : zL) => zG p l e R s m args below meth c d cy B0 2 bc bs (zQ below s args d cy B0 bc bs (.inl none) zSH zKn bc bs r.1 r.2) 177 [(0, .ref (B0 + 97)), (1, .int v1)] [] zSH zKn bc bs I L) (fun k9 hk9 v1 I L h => l_X12_adopt_177 C k9 hk9 v1 I L h) zF v1 I L h
set_option maxHeartbeats 4000000 in
set_option maxRecDepth 100000 in
theorem l_X12_adopt_118 {r : zI × zL} (C : zC p l e R s m args below meth c s0 a0 d cy B0 yX12_adopt.cls cX12_adopt 2 none bc bs bc bs 0 0 []) (k118 : Int32 → zI → zL → Option (zI × zL)) (hk118 : ∀ (v1 : Int32) (I : zI) (L : zL), k118 v1 I L = some r → zG p l e R s m args below meth c d cy B0 2 bc bs (zQ below s args d cy B0 bc bs (.inl none) zSH zKn bc bs r.1 r.2) 118 [(0, .ref (B0 + 97)), (1, .int v1)] [] zSH zKn bc bs I L) (v1 : Int32) (I : zI) (L : zL) (h : f_X12_adopt_118 k118 v1 I L = some r) : zG p l e R s m args below meth c d cy B0 2 bc bs (zQ below s args d cy B0 bc bs (.inl none) zSH zKn bc bs r.1 r.2) 118 [(0, .ref (B0 + 97)), (1, .int v1)] [] zSH zKn bc bs I L := by
  unfold f_X12_adopt_118 at h
  refine z_iload_n C rfl 1 rfl dX12_adopt_118 ?_
  refine z_bipush C (v := 8) (by decide) dX12_adopt_119 ?_
  refine z_icmp_ge C 175 (by decide) dX12_adopt_121 (fun hc => ?_) (fun hc => ?_)
  · have h := zif_t hc h
    refine z_iconst C (v := 0) (by decide) dX12_adopt_175 ?_
    refine z_istore_n C (lv' := [(1, .int (0 : Int32)), (0, .ref (B0 + 97))]) rfl (by decide) rfl dX12_adopt_176 ?_
    refine z_lv [1, 0] (lv' := [(0, .ref (B0 + 97)), (1, .int (0 : Int32))]) rfl ?_
    exact L_X12_adopt_177 C  (0 : Int32) I L h
  · have h := zif_f hc h
    refine z_aload_n C rfl 0 rfl dX12_adopt_124 ?_
    refine z_getr C zc_12 dX12_adopt_125 20 97 109 rfl (by decide) (by decide) q_1189 rfl rfl ?_
    refine z_iload_n C rfl 1 rfl dX12_adopt_128 ?_
    refine z_aload_n C rfl 0 rfl dX12_adopt_129 ?_
    refine z_getr C zc_12 dX12_adopt_130 20 97 109 rfl (by decide) (by decide) q_1189 rfl rfl ?_
    refine z_bipush C (v := 8) (by decide) dX12_adopt_133 ?_
    refine z_iload_n C rfl 1 rfl dX12_adopt_135 ?_
    refine z_iadd C dX12_adopt_136 ?_
    obtain ⟨x24, ex24, h⟩ := zlt_e h
    refine z_eqi C ex24 ?_
    obtain ⟨hb25, h⟩ := zck_e h
    refine z_iaload C dX12_adopt_137 rfl rfl (by decide) (zbd_in hb25) ?_
    obtain ⟨hb26, h⟩ := zck_e h
    refine z_iastore C dX12_adopt_138 rfl rfl (by decide) (zbd_in hb26) ?_
    obtain ⟨I27, eI27, h⟩ := zlt_e h
    refine z_eqI C eI27 ?_
    refine z_aload_n C rfl 0 rfl dX12_adopt_139 ?_
    refine z_getr C zc_12 dX12_adopt_140 25 97 114 rfl (by decide) (by decide) q_1194 rfl rfl ?_
    refine z_iload_n C rfl 1 rfl dX12_adopt_143 ?_
    refine z_aload_n C rfl 0 rfl dX12_adopt_144 ?_
    refine z_getr C zc_12 dX12_adopt_145 25 97 114 rfl (by decide) (by decide) q_1194 rfl rfl ?_
    refine z_bipush C (v := 8) (by decide) dX12_adopt_148 ?_
    refine z_iload_n C rfl 1 rfl dX12_adopt_150 ?_
    refine z_iadd C dX12_adopt_151 ?_
    obtain ⟨x28, ex28, h⟩ := zlt_e h
    refine z_eqi C ex28 ?_
    obtain ⟨hb29, h⟩ := zck_e h
    refine z_iaload C dX12_adopt_152 rfl rfl (by decide) (zbd_in hb29) ?_
    obtain ⟨hb30, h⟩ := zck_e h
    refine z_iastore C dX12_adopt_153 rfl rfl (by decide) (zbd_in hb30) ?_
    obtain ⟨I31, eI31, h⟩ := zlt_e h
    refine z_eqI C eI31 ?_
    refine z_aload_n C rfl 0 rfl dX12_adopt_154 ?_
    refine z_getr C zc_12 dX12_adopt_155 26 97 115 rfl (by decide) (by decide) q_1195 rfl rfl ?_
    refine z_iload_n C rfl 1 rfl dX12_adopt_158 ?_
    refine z_aload_n C rfl 0 rfl dX12_adopt_159 ?_
    refine z_getr C zc_12 dX12_adopt_160 26 97 115 rfl (by decide) (by decide) q_1195 rfl rfl ?_
    refine z_bipush C (v := 8) (by decide) dX12_adopt_163 ?_
    refine z_iload_n C rfl 1 rfl dX12_adopt_165 ?_
    refine z_iadd C dX12_adopt_166 ?_
    obtain ⟨x32, ex32, h⟩ := zlt_e h
    refine z_eqi C ex32 ?_
    obtain ⟨hb33, h⟩ := zck_e h
    refine z_iaload C dX12_adopt_167 rfl rfl (by decide) (zbd_in hb33) ?_
    obtain ⟨hb34, h⟩ := zck_e h
    refine z_iastore C dX12_adopt_168 rfl rfl (by decide) (zbd_in hb34) ?_
    obtain ⟨I35, eI35, h⟩ := zlt_e h
    refine z_eqI C eI35 ?_
    obtain ⟨x36, ex36, h⟩ := zlt_e h
    refine z_iinc C (j := 1) (v := x36) (lv' := [(1, .int x36), (0, .ref (B0 + 97))]) rfl (by rw [ex36]; rfl) (by decide) rfl dX12_adopt_169 ?_
    refine z_goto C 118 (by decide) dX12_adopt_172 ?_
    refine z_lv [1, 0] (lv' := [(0, .ref (B0 + 97)), (1, .int x36)]) rfl ?_
    exact hk118 x36 I35 L h
set_option maxHeartbeats 4000000 in
set_option maxRecDepth 100000 in
theorem L_X12_adopt_118 {r : zI × zL} (C : zC p l e R s m args below meth c s0 a0 d cy B0 yX12_adopt.cls cX12_adopt 2 none bc bs bc bs 0 0 []) (v1 : Int32) (I : zI) (L : zL) (h : zlp3 (f_X12_adopt_118) zF v1 I L = some r) : zG p l e R s m args below meth c d cy B0 2 bc bs (zQ below s args d cy B0 bc bs (.inl none) zSH zKn bc bs r.1 r.2) 118 [(0, .ref (B0 + 97)), (1, .int v1)] [] zSH zKn bc bs I L :=
 zlp3_e (fun (v1 : Int32) (I : zI) (L : zL) => zG p l e R s m args below meth c d cy B0 2 bc bs (zQ below s args d cy B0 bc bs (.inl none) zSH zKn bc bs r.1 r.2) 118 [(0, .ref (B0 + 97)), (1, .int v1)] [] zSH zKn bc bs I L) (fun k9 hk9 v1 I L h => l_X12_adopt_118 C k9 hk9 v1 I L h) zF v1 I L h
set_option maxHeartbeats 4000000 in
set_option maxRecDepth 100000 in
theorem l_X12_adopt_44 {r : zI × zL} (C : zC p l e R s m args below meth c s0 a0 d cy B0 yX12_adopt.cls cX12_adopt 2 none bc bs bc bs 0 0 []) (k44 : Int32 → zI → zL → Option (zI × zL)) (hk44 : ∀ (v1 : Int32) (I : zI) (L : zL), k44 v1 I L = some r → zG p l e R s m args below meth c d cy B0 2 bc bs (zQ below s args d cy B0 bc bs (.inl none) zSH zKn bc bs r.1 r.2) 44 [(0, .ref (B0 + 97)), (1, .int v1)] [] zSH zKn bc bs I L) (v1 : Int32) (I : zI) (L : zL) (h : f_X12_adopt_44 k44 v1 I L = some r) : zG p l e R s m args below meth c d cy B0 2 bc bs (zQ below s args d cy B0 bc bs (.inl none) zSH zKn bc bs r.1 r.2) 44 [(0, .ref (B0 + 97)), (1, .int v1)] [] zSH zKn bc bs I L := by
  unfold f_X12_adopt_44 at h
  refine z_iload_n C rfl 1 rfl dX12_adopt_44 ?_
  refine z_bipush C (v := 24) (by decide) dX12_adopt_45 ?_
  refine z_icmp_ge C 116 (by decide) dX12_adopt_47 (fun hc => ?_) (fun hc => ?_)
  · have h := zif_t hc h
    refine z_iconst C (v := 0) (by decide) dX12_adopt_116 ?_
    refine z_istore_n C (lv' := [(1, .int (0 : Int32)), (0, .ref (B0 + 97))]) rfl (by decide) rfl dX12_adopt_117 ?_
    refine z_lv [1, 0] (lv' := [(0, .ref (B0 + 97)), (1, .int (0 : Int32))]) rfl ?_
    exact L_X12_adopt_118 C  (0 : Int32) I L h
  · have h := zif_f hc h
    refine z_aload_n C rfl 0 rfl dX12_adopt_50 ?_
    refine z_getr C zc_12 dX12_adopt_51 16 97 105 rfl (by decide) (by decide) q_1185 rfl rfl ?_
    refine z_iload_n C rfl 1 rfl dX12_adopt_54 ?_
    refine z_aload_n C rfl 0 rfl dX12_adopt_55 ?_
    refine z_getr C zc_12 dX12_adopt_56 16 97 105 rfl (by decide) (by decide) q_1185 rfl rfl ?_
    refine z_bipush C (v := 24) (by decide) dX12_adopt_59 ?_
    refine z_iload_n C rfl 1 rfl dX12_adopt_61 ?_
    refine z_iadd C dX12_adopt_62 ?_
    obtain ⟨x7, ex7, h⟩ := zlt_e h
    refine z_eqi C ex7 ?_
    obtain ⟨hb8, h⟩ := zck_e h
    refine z_laload C dX12_adopt_63 rfl rfl (by decide) (zbd_in hb8) ?_
    obtain ⟨hb9, h⟩ := zck_e h
    refine z_lastore C dX12_adopt_64 rfl rfl (by decide) (zbd_in hb9) ?_
    obtain ⟨L10, eL10, h⟩ := zlt_e h
    refine z_eqL C eL10 ?_
    refine z_aload_n C rfl 0 rfl dX12_adopt_65 ?_
    refine z_getr C zc_12 dX12_adopt_66 17 97 106 rfl (by decide) (by decide) q_1186 rfl rfl ?_
    refine z_iload_n C rfl 1 rfl dX12_adopt_69 ?_
    refine z_aload_n C rfl 0 rfl dX12_adopt_70 ?_
    refine z_getr C zc_12 dX12_adopt_71 17 97 106 rfl (by decide) (by decide) q_1186 rfl rfl ?_
    refine z_bipush C (v := 24) (by decide) dX12_adopt_74 ?_
    refine z_iload_n C rfl 1 rfl dX12_adopt_76 ?_
    refine z_iadd C dX12_adopt_77 ?_
    obtain ⟨x11, ex11, h⟩ := zlt_e h
    refine z_eqi C ex11 ?_
    obtain ⟨hb12, h⟩ := zck_e h
    refine z_iaload C dX12_adopt_78 rfl rfl (by decide) (zbd_in hb12) ?_
    obtain ⟨hb13, h⟩ := zck_e h
    refine z_iastore C dX12_adopt_79 rfl rfl (by decide) (zbd_in hb13) ?_
    obtain ⟨I14, eI14, h⟩ := zlt_e h
    refine z_eqI C eI14 ?_
    refine z_aload_n C rfl 0 rfl dX12_adopt_80 ?_
    refine z_getr C zc_12 dX12_adopt_81 18 97 107 rfl (by decide) (by decide) q_1187 rfl rfl ?_
    refine z_iload_n C rfl 1 rfl dX12_adopt_84 ?_
    refine z_aload_n C rfl 0 rfl dX12_adopt_85 ?_
    refine z_getr C zc_12 dX12_adopt_86 18 97 107 rfl (by decide) (by decide) q_1187 rfl rfl ?_
    refine z_bipush C (v := 24) (by decide) dX12_adopt_89 ?_
    refine z_iload_n C rfl 1 rfl dX12_adopt_91 ?_
    refine z_iadd C dX12_adopt_92 ?_
    obtain ⟨x15, ex15, h⟩ := zlt_e h
    refine z_eqi C ex15 ?_
    obtain ⟨hb16, h⟩ := zck_e h
    refine z_iaload C dX12_adopt_93 rfl rfl (by decide) (zbd_in hb16) ?_
    obtain ⟨hb17, h⟩ := zck_e h
    refine z_iastore C dX12_adopt_94 rfl rfl (by decide) (zbd_in hb17) ?_
    obtain ⟨I18, eI18, h⟩ := zlt_e h
    refine z_eqI C eI18 ?_
    refine z_aload_n C rfl 0 rfl dX12_adopt_95 ?_
    refine z_getr C zc_12 dX12_adopt_96 19 97 108 rfl (by decide) (by decide) q_1188 rfl rfl ?_
    refine z_iload_n C rfl 1 rfl dX12_adopt_99 ?_
    refine z_aload_n C rfl 0 rfl dX12_adopt_100 ?_
    refine z_getr C zc_12 dX12_adopt_101 19 97 108 rfl (by decide) (by decide) q_1188 rfl rfl ?_
    refine z_bipush C (v := 24) (by decide) dX12_adopt_104 ?_
    refine z_iload_n C rfl 1 rfl dX12_adopt_106 ?_
    refine z_iadd C dX12_adopt_107 ?_
    obtain ⟨x19, ex19, h⟩ := zlt_e h
    refine z_eqi C ex19 ?_
    obtain ⟨hb20, h⟩ := zck_e h
    refine z_iaload C dX12_adopt_108 rfl rfl (by decide) (zbd_in hb20) ?_
    obtain ⟨hb21, h⟩ := zck_e h
    refine z_iastore C dX12_adopt_109 rfl rfl (by decide) (zbd_in hb21) ?_
    obtain ⟨I22, eI22, h⟩ := zlt_e h
    refine z_eqI C eI22 ?_
    obtain ⟨x23, ex23, h⟩ := zlt_e h
    refine z_iinc C (j := 1) (v := x23) (lv' := [(1, .int x23), (0, .ref (B0 + 97))]) rfl (by rw [ex23]; rfl) (by decide) rfl dX12_adopt_110 ?_
    refine z_goto C 44 (by decide) dX12_adopt_113 ?_
    refine z_lv [1, 0] (lv' := [(0, .ref (B0 + 97)), (1, .int x23)]) rfl ?_
    exact hk44 x23 I22 L10 h
set_option maxHeartbeats 4000000 in
set_option maxRecDepth 100000 in
theorem L_X12_adopt_44 {r : zI × zL} (C : zC p l e R s m args below meth c s0 a0 d cy B0 yX12_adopt.cls cX12_adopt 2 none bc bs bc bs 0 0 []) (v1 : Int32) (I : zI) (L : zL) (h : zlp3 (f_X12_adopt_44) zF v1 I L = some r) : zG p l e R s m args below meth c d cy B0 2 bc bs (zQ below s args d cy B0 bc bs (.inl none) zSH zKn bc bs r.1 r.2) 44 [(0, .ref (B0 + 97)), (1, .int v1)] [] zSH zKn bc bs I L :=
 zlp3_e (fun (v1 : Int32) (I : zI) (L : zL) => zG p l e R s m args below meth c d cy B0 2 bc bs (zQ below s args d cy B0 bc bs (.inl none) zSH zKn bc bs r.1 r.2) 44 [(0, .ref (B0 + 97)), (1, .int v1)] [] zSH zKn bc bs I L) (fun k9 hk9 v1 I L h => l_X12_adopt_44 C k9 hk9 v1 I L h) zF v1 I L h
set_option maxHeartbeats 4000000 in
set_option maxRecDepth 100000 in
theorem c_X12_adopt {r : zI × zL} (hE : zE0 l s0 a0 d cy B0) (I : zI) (L : zL) (h : f_X12_adopt I L = some r) : zM l s0 d cy B0 yX12_adopt cX12_adopt 2 none 0 0 [.ref (B0 + 97)] zSH zKn bc bs I L (.inl none) zSH zKn bc bs r.1 r.2 := by
  refine z_meth yy_X12_adopt hE (Nat.le_of_ble_eq_true rfl) (fun p e R s m args below meth c C => ?_)
  show zG p l e R s m args below meth c d cy B0 2 bc bs (zQ below s args d cy B0 bc bs (.inl none) zSH zKn bc bs r.1 r.2) 0 [(0, .ref (B0 + 97))] [] zSH zKn bc bs I L
  unfold f_X12_adopt at h
  refine z_aload_n C rfl 0 rfl dX12_adopt_0 ?_
  refine z_iconst C (v := 1) (by decide) dX12_adopt_1 ?_
  refine z_puti C zc_12 dX12_adopt_2 11 97 rfl (by decide) (by decide) rfl q_1180 rfl rfl rfl ?_
  obtain ⟨I1, eI1, h⟩ := zlt_e h
  refine z_eqI C eI1 ?_
  refine z_aload_n C rfl 0 rfl dX12_adopt_5 ?_
  refine z_iconst C (v := 0) (by decide) dX12_adopt_6 ?_
  refine z_puti C zc_12 dX12_adopt_7 30 97 rfl (by decide) (by decide) rfl q_1199 rfl rfl rfl ?_
  obtain ⟨I2, eI2, h⟩ := zlt_e h
  refine z_eqI C eI2 ?_
  refine z_aload_n C rfl 0 rfl dX12_adopt_10 ?_
  refine z_aload_n C rfl 0 rfl dX12_adopt_11 ?_
  refine z_geti C zc_12 dX12_adopt_12 50 97 rfl (by decide) (by decide) q_1219 rfl ?_
  refine z_puti C zc_12 dX12_adopt_15 12 97 rfl (by decide) (by decide) rfl q_1181 rfl rfl rfl ?_
  obtain ⟨I3, eI3, h⟩ := zlt_e h
  refine z_eqI C eI3 ?_
  refine z_aload_n C rfl 0 rfl dX12_adopt_18 ?_
  refine z_aload_n C rfl 0 rfl dX12_adopt_19 ?_
  refine z_geti C zc_12 dX12_adopt_20 51 97 rfl (by decide) (by decide) q_1220 rfl ?_
  refine z_puti C zc_12 dX12_adopt_23 13 97 rfl (by decide) (by decide) rfl q_1182 rfl rfl rfl ?_
  obtain ⟨I4, eI4, h⟩ := zlt_e h
  refine z_eqI C eI4 ?_
  refine z_aload_n C rfl 0 rfl dX12_adopt_26 ?_
  refine z_aload_n C rfl 0 rfl dX12_adopt_27 ?_
  refine z_geti C zc_12 dX12_adopt_28 52 97 rfl (by decide) (by decide) q_1221 rfl ?_
  refine z_puti C zc_12 dX12_adopt_31 14 97 rfl (by decide) (by decide) rfl q_1183 rfl rfl rfl ?_
  obtain ⟨I5, eI5, h⟩ := zlt_e h
  refine z_eqI C eI5 ?_
  refine z_aload_n C rfl 0 rfl dX12_adopt_34 ?_
  refine z_aload_n C rfl 0 rfl dX12_adopt_35 ?_
  refine z_geti C zc_12 dX12_adopt_36 53 97 rfl (by decide) (by decide) q_1222 rfl ?_
  refine z_puti C zc_12 dX12_adopt_39 15 97 rfl (by decide) (by decide) rfl q_1184 rfl rfl rfl ?_
  obtain ⟨I6, eI6, h⟩ := zlt_e h
  refine z_eqI C eI6 ?_
  refine z_iconst C (v := 0) (by decide) dX12_adopt_42 ?_
  refine z_istore_n C (lv' := [(1, .int (0 : Int32)), (0, .ref (B0 + 97))]) rfl (by decide) rfl dX12_adopt_43 ?_
  refine z_lv [1, 0] (lv' := [(0, .ref (B0 + 97)), (1, .int (0 : Int32))]) rfl ?_
  exact L_X12_adopt_44 C  (0 : Int32) I6 L h
theorem q_45 : Cond.selects "DeviceFindModel" ⟨"DeviceFindModel", "readSentence", "()V"⟩ ⟨"DeviceFindModel", "readSentence", "()V"⟩ ∈ lw_tbl := List.mem_of_getElem? (i := 45) (by decide +kernel)
theorem q_58 : Cond.selects "DeviceFindModel" ⟨"DeviceFindModel", "adopt", "()V"⟩ ⟨"DeviceFindModel", "adopt", "()V"⟩ ∈ lw_tbl := List.mem_of_getElem? (i := 58) (by decide +kernel)
theorem q_1376 : (Cond.code ({ cls := "DeviceFindModel", name := "read", desc := "()I" } : Jvm.MethodName) prog_14_method_29_code (1 : Nat) (Option.some Jvm.ClassFile.FieldType.int)) ∈ lw_tbl := List.mem_of_getElem? (i := 1376) (by decide +kernel)
theorem q_1387 : (Cond.methodLink "DeviceFindModel" (231 : Nat) ({ cls := "DeviceFindModel", name := "readSentence", desc := "()V" } : Jvm.MethodName)) ∈ lw_tbl := List.mem_of_getElem? (i := 1387) (by decide +kernel)
theorem q_1389 : (Cond.instanceMethod ({ cls := "DeviceFindModel", name := "readSentence", desc := "()V" } : Jvm.MethodName)) ∈ lw_tbl := List.mem_of_getElem? (i := 1389) (by decide +kernel)
theorem q_1445 : (Cond.methodLink "DeviceFindModel" (234 : Nat) ({ cls := "DeviceFindModel", name := "adopt", desc := "()V" } : Jvm.MethodName)) ∈ lw_tbl := List.mem_of_getElem? (i := 1445) (by decide +kernel)
theorem q_1447 : (Cond.instanceMethod ({ cls := "DeviceFindModel", name := "adopt", desc := "()V" } : Jvm.MethodName)) ∈ lw_tbl := List.mem_of_getElem? (i := 1447) (by decide +kernel)
theorem yy_X12_read : zY yX12_read cX12_read 1 (some .int) 0 := ⟨q_1376, q_88, by decide +kernel, by decide +kernel, by decide +kernel⟩
noncomputable def f_X12_read_69 (I : zI) (L : zL) : Option (Int32 × zI × zL) :=
  zlt (zu I 97 29 (0 : Int32)) (fun I14 => if (I14 97 49) = 0 then (zlt ((-1 : Int32) - (I14 97 48)) (fun x19 => some (x19, I14, L))) else (zb2 (f_X12_adopt I14 L) (fun I16 L17 => zlt (I16 97 15) (fun x18 => some (x18, I16, L17)))))
noncomputable def f_X12_read_44 (k44 : zI → zL → Option (Int32 × zI × zL)) (I : zI) (L : zL) : Option (Int32 × zI × zL) :=
  if (I 97 49) = 0 then (f_X12_read_69 I L) else (if (I 97 29) ≤ (I 97 46) then (f_X12_read_69 I L) else (zb2 (f_X12_readSentence I L) (fun I12 L13 => k44 I12 L13)))
noncomputable def f_X12_read (I : zI) (L : zL) : Option (Int32 × zI × zL) :=
  zlt (zu I 97 0 (0 : Int32)) (fun I1 => zlt (zu I1 97 47 (0 : Int32)) (fun I2 => zlt (zu I2 97 48 (-1 : Int32)) (fun I3 => zlt (zu I3 97 49 (1 : Int32)) (fun I4 => zlt (zu I4 97 50 (0 : Int32)) (fun I5 => zlt (zu I5 97 51 (0 : Int32)) (fun I6 => zlt (zu I6 97 52 (0 : Int32)) (fun I7 => zlt (zu I7 97 53 (0 : Int32)) (fun I8 => zb1 (f_X12_next I8) (fun I10 => zlp2 (f_X12_read_44) zF I10 L)))))))))
set_option maxHeartbeats 4000000 in
set_option maxRecDepth 100000 in
theorem l_X12_read_69 {r : Int32 × zI × zL} (C : zC p l e R s m args below meth c s0 a0 d cy B0 yX12_read.cls cX12_read 1 (some .int) bc bs bc bs 6 137 []) (I : zI) (L : zL) (h : f_X12_read_69 I L = some r) : zG p l e R s m args below meth c d cy B0 1 bc bs (zQ below s args d cy B0 bc bs (.inl (some (.int r.1))) zSH zKn bc bs r.2.1 r.2.2) 69 [(0, .ref (B0 + 97))] [] zSH zKn bc bs I L := by
  unfold f_X12_read_69 at h
  refine z_aload_n C rfl 0 rfl dX12_read_69 ?_
  refine z_iconst C (v := 0) (by decide) dX12_read_70 ?_
  refine z_puti C zc_12 dX12_read_71 29 97 rfl (by decide) (by decide) rfl q_1198 rfl rfl rfl ?_
  obtain ⟨I14, eI14, h⟩ := zlt_e h
  refine z_eqI C eI14 ?_
  refine z_aload_n C rfl 0 rfl dX12_read_74 ?_
  refine z_geti C zc_12 dX12_read_75 49 97 rfl (by decide) (by decide) q_1218 rfl ?_
  refine z_if_ne C 88 (by decide) dX12_read_78 (fun hc => ?_) (fun hc => ?_)
  · have h := zif_f hc h
    refine z_aload_n C rfl 0 rfl dX12_read_88 ?_
    obtain ⟨I16, L17, hg15, h⟩ := zb2_e h
    refine z_callV C zc_12 rfl (by decide) dX12_read_89 yy_X12_adopt (c_X12_adopt C.2.2.2.2.1  I14 L hg15) q_1445 q_1447 q_58 (by decide) (by decide) rfl rfl (Nat.le_of_ble_eq_true rfl) ⟨Nat.le_refl _, Nat.le_refl _, Nat.le_refl _, Nat.le_refl _⟩ ?_
    refine z_aload_n C rfl 0 rfl dX12_read_92 ?_
    refine z_geti C zc_12 dX12_read_93 15 97 rfl (by decide) (by decide) q_1184 rfl ?_
    obtain ⟨x18, ex18, h⟩ := zlt_e h
    refine z_eqi C ex18 ?_
    obtain rfl := Option.some.inj h
    exact z_iret C dX12_read_96 .int rfl rfl rfl
  · have h := zif_t hc h
    refine z_iconst C (v := -1) (by decide) dX12_read_81 ?_
    refine z_aload_n C rfl 0 rfl dX12_read_82 ?_
    refine z_geti C zc_12 dX12_read_83 48 97 rfl (by decide) (by decide) q_1217 rfl ?_
    refine z_isub C dX12_read_86 ?_
    obtain ⟨x19, ex19, h⟩ := zlt_e h
    refine z_eqi C ex19 ?_
    obtain rfl := Option.some.inj h
    exact z_iret C dX12_read_87 .int rfl rfl rfl
set_option maxHeartbeats 4000000 in
set_option maxRecDepth 100000 in
theorem l_X12_read_44 {r : Int32 × zI × zL} (C : zC p l e R s m args below meth c s0 a0 d cy B0 yX12_read.cls cX12_read 1 (some .int) bc bs bc bs 6 137 []) (k44 : zI → zL → Option (Int32 × zI × zL)) (hk44 : ∀ (I : zI) (L : zL), k44 I L = some r → zG p l e R s m args below meth c d cy B0 1 bc bs (zQ below s args d cy B0 bc bs (.inl (some (.int r.1))) zSH zKn bc bs r.2.1 r.2.2) 44 [(0, .ref (B0 + 97))] [] zSH zKn bc bs I L) (I : zI) (L : zL) (h : f_X12_read_44 k44 I L = some r) : zG p l e R s m args below meth c d cy B0 1 bc bs (zQ below s args d cy B0 bc bs (.inl (some (.int r.1))) zSH zKn bc bs r.2.1 r.2.2) 44 [(0, .ref (B0 + 97))] [] zSH zKn bc bs I L := by
  unfold f_X12_read_44 at h
  refine z_aload_n C rfl 0 rfl dX12_read_44 ?_
  refine z_geti C zc_12 dX12_read_45 49 97 rfl (by decide) (by decide) q_1218 rfl ?_
  refine z_if_eq C 69 (by decide) dX12_read_48 (fun hc => ?_) (fun hc => ?_)
  · have h := zif_t hc h
    exact l_X12_read_69 C  I L h
  · have h := zif_f hc h
    refine z_aload_n C rfl 0 rfl dX12_read_51 ?_
    refine z_geti C zc_12 dX12_read_52 46 97 rfl (by decide) (by decide) q_1215 rfl ?_
    refine z_aload_n C rfl 0 rfl dX12_read_55 ?_
    refine z_geti C zc_12 dX12_read_56 29 97 rfl (by decide) (by decide) q_1198 rfl ?_
    refine z_icmp_ge C 69 (by decide) dX12_read_59 (fun hc => ?_) (fun hc => ?_)
    · have h := zif_t hc h
      exact l_X12_read_69 C  I L h
    · have h := zif_f hc h
      refine z_aload_n C rfl 0 rfl dX12_read_62 ?_
      obtain ⟨I12, L13, hg11, h⟩ := zb2_e h
      refine z_callV C zc_12 rfl (by decide) dX12_read_63 yy_X12_readSentence (c_X12_readSentence C.2.2.2.2.1  I L hg11) q_1387 q_1389 q_45 (by decide) (by decide) rfl rfl (Nat.le_of_ble_eq_true rfl) ⟨Nat.le_refl _, Nat.le_refl _, Nat.le_refl _, Nat.le_refl _⟩ ?_
      refine z_goto C 44 (by decide) dX12_read_66 ?_
      exact hk44 I12 L13 h
set_option maxHeartbeats 4000000 in
set_option maxRecDepth 100000 in
theorem L_X12_read_44 {r : Int32 × zI × zL} (C : zC p l e R s m args below meth c s0 a0 d cy B0 yX12_read.cls cX12_read 1 (some .int) bc bs bc bs 6 137 []) (I : zI) (L : zL) (h : zlp2 (f_X12_read_44) zF I L = some r) : zG p l e R s m args below meth c d cy B0 1 bc bs (zQ below s args d cy B0 bc bs (.inl (some (.int r.1))) zSH zKn bc bs r.2.1 r.2.2) 44 [(0, .ref (B0 + 97))] [] zSH zKn bc bs I L :=
 zlp2_e (fun (I : zI) (L : zL) => zG p l e R s m args below meth c d cy B0 1 bc bs (zQ below s args d cy B0 bc bs (.inl (some (.int r.1))) zSH zKn bc bs r.2.1 r.2.2) 44 [(0, .ref (B0 + 97))] [] zSH zKn bc bs I L) (fun k9 hk9 I L h => l_X12_read_44 C k9 hk9 I L h) zF I L h
set_option maxHeartbeats 4000000 in
set_option maxRecDepth 100000 in
theorem c_X12_read {r : Int32 × zI × zL} (hE : zE0 l s0 a0 d cy B0) (I : zI) (L : zL) (h : f_X12_read I L = some r) : zM l s0 d cy B0 yX12_read cX12_read 1 (some .int) 6 137 [.ref (B0 + 97)] zSH zKn bc bs I L (.inl (some (.int r.1))) zSH zKn bc bs r.2.1 r.2.2 := by
  refine z_meth yy_X12_read hE (Nat.le_of_ble_eq_true rfl) (fun p e R s m args below meth c C => ?_)
  show zG p l e R s m args below meth c d cy B0 1 bc bs (zQ below s args d cy B0 bc bs (.inl (some (.int r.1))) zSH zKn bc bs r.2.1 r.2.2) 0 [(0, .ref (B0 + 97))] [] zSH zKn bc bs I L
  unfold f_X12_read at h
  refine z_aload_n C rfl 0 rfl dX12_read_0 ?_
  refine z_iconst C (v := 0) (by decide) dX12_read_1 ?_
  refine z_puti C zc_12 dX12_read_2 0 97 rfl (by decide) (by decide) rfl q_1169 rfl rfl rfl ?_
  obtain ⟨I1, eI1, h⟩ := zlt_e h
  refine z_eqI C eI1 ?_
  refine z_aload_n C rfl 0 rfl dX12_read_5 ?_
  refine z_iconst C (v := 0) (by decide) dX12_read_6 ?_
  refine z_puti C zc_12 dX12_read_7 47 97 rfl (by decide) (by decide) rfl q_1216 rfl rfl rfl ?_
  obtain ⟨I2, eI2, h⟩ := zlt_e h
  refine z_eqI C eI2 ?_
  refine z_aload_n C rfl 0 rfl dX12_read_10 ?_
  refine z_iconst C (v := -1) (by decide) dX12_read_11 ?_
  refine z_puti C zc_12 dX12_read_12 48 97 rfl (by decide) (by decide) rfl q_1217 rfl rfl rfl ?_
  obtain ⟨I3, eI3, h⟩ := zlt_e h
  refine z_eqI C eI3 ?_
  refine z_aload_n C rfl 0 rfl dX12_read_15 ?_
  refine z_iconst C (v := 1) (by decide) dX12_read_16 ?_
  refine z_puti C zc_12 dX12_read_17 49 97 rfl (by decide) (by decide) rfl q_1218 rfl rfl rfl ?_
  obtain ⟨I4, eI4, h⟩ := zlt_e h
  refine z_eqI C eI4 ?_
  refine z_aload_n C rfl 0 rfl dX12_read_20 ?_
  refine z_iconst C (v := 0) (by decide) dX12_read_21 ?_
  refine z_puti C zc_12 dX12_read_22 50 97 rfl (by decide) (by decide) rfl q_1219 rfl rfl rfl ?_
  obtain ⟨I5, eI5, h⟩ := zlt_e h
  refine z_eqI C eI5 ?_
  refine z_aload_n C rfl 0 rfl dX12_read_25 ?_
  refine z_iconst C (v := 0) (by decide) dX12_read_26 ?_
  refine z_puti C zc_12 dX12_read_27 51 97 rfl (by decide) (by decide) rfl q_1220 rfl rfl rfl ?_
  obtain ⟨I6, eI6, h⟩ := zlt_e h
  refine z_eqI C eI6 ?_
  refine z_aload_n C rfl 0 rfl dX12_read_30 ?_
  refine z_iconst C (v := 0) (by decide) dX12_read_31 ?_
  refine z_puti C zc_12 dX12_read_32 52 97 rfl (by decide) (by decide) rfl q_1221 rfl rfl rfl ?_
  obtain ⟨I7, eI7, h⟩ := zlt_e h
  refine z_eqI C eI7 ?_
  refine z_aload_n C rfl 0 rfl dX12_read_35 ?_
  refine z_iconst C (v := 0) (by decide) dX12_read_36 ?_
  refine z_puti C zc_12 dX12_read_37 53 97 rfl (by decide) (by decide) rfl q_1222 rfl rfl rfl ?_
  obtain ⟨I8, eI8, h⟩ := zlt_e h
  refine z_eqI C eI8 ?_
  refine z_aload_n C rfl 0 rfl dX12_read_40 ?_
  obtain ⟨I10, hg9, h⟩ := zb1_e h
  refine z_callV C zc_12 rfl (by decide) dX12_read_41 yy_X12_next (c_X12_next C.2.2.2.2.1  I8 L hg9) q_1377 q_1379 q_44 (by decide) (by decide) rfl rfl (Nat.le_of_ble_eq_true rfl) ⟨Nat.le_refl _, Nat.le_refl _, Nat.le_refl _, Nat.le_refl _⟩ ?_
  exact L_X12_read_44 C  I10 L h
theorem q_60 : Cond.selects "DeviceFindModel" ⟨"DeviceFindModel", "isOpen", "(I)Z"⟩ ⟨"DeviceFindModel", "isOpen", "(I)Z"⟩ ∈ lw_tbl := List.mem_of_getElem? (i := 60) (by decide +kernel)
theorem q_61 : Cond.selects "DeviceFindModel" ⟨"DeviceFindModel", "covers", "(III)Z"⟩ ⟨"DeviceFindModel", "covers", "(III)Z"⟩ ∈ lw_tbl := List.mem_of_getElem? (i := 61) (by decide +kernel)
theorem q_1200 : (Cond.fieldLink "DeviceFindModel" (72 : Nat) "DeviceFindModel" "has" "[Z") ∈ lw_tbl := List.mem_of_getElem? (i := 1200) (by decide +kernel)
theorem q_1201 : (Cond.fieldLink "DeviceFindModel" (76 : Nat) "DeviceFindModel" "shape" "[I") ∈ lw_tbl := List.mem_of_getElem? (i := 1201) (by decide +kernel)
theorem q_1456 : (Cond.code ({ cls := "DeviceFindModel", name := "make", desc := "(I)V" } : Jvm.MethodName) prog_14_method_31_code (6 : Nat) (Option.none : Option Jvm.ClassFile.FieldType)) ∈ lw_tbl := List.mem_of_getElem? (i := 1456) (by decide +kernel)
theorem q_1457 : (Cond.methodLink "DeviceFindModel" (252 : Nat) ({ cls := "DeviceFindModel", name := "isOpen", desc := "(I)Z" } : Jvm.MethodName)) ∈ lw_tbl := List.mem_of_getElem? (i := 1457) (by decide +kernel)
theorem q_1459 : (Cond.instanceMethod ({ cls := "DeviceFindModel", name := "isOpen", desc := "(I)Z" } : Jvm.MethodName)) ∈ lw_tbl := List.mem_of_getElem? (i := 1459) (by decide +kernel)
theorem q_1461 : (Cond.methodLink "DeviceFindModel" (255 : Nat) ({ cls := "DeviceFindModel", name := "covers", desc := "(III)Z" } : Jvm.MethodName)) ∈ lw_tbl := List.mem_of_getElem? (i := 1461) (by decide +kernel)
theorem q_1463 : (Cond.instanceMethod ({ cls := "DeviceFindModel", name := "covers", desc := "(III)Z" } : Jvm.MethodName)) ∈ lw_tbl := List.mem_of_getElem? (i := 1463) (by decide +kernel)
theorem yy_X12_make : zY yX12_make cX12_make 6 none 1 := ⟨q_1456, q_88, by decide +kernel, by decide +kernel, by decide +kernel⟩
noncomputable def f_X12_make_83 (k2 : Int32 → Int32 → zI → Option zI) (k23 : Int32 → Int32 → Int32 → Int32 → zI → Option zI) (v1 : Int32) (v2 : Int32) (v4 : Int32) (w0 : Int32) (I : zI) : Option zI :=
  zlt (v4 + 1) (fun x31 => k23 v1 v2 w0 x31 I)
noncomputable def f_X12_make_82 (k2 : Int32 → Int32 → zI → Option zI) (k23 : Int32 → Int32 → Int32 → Int32 → zI → Option zI) (v1 : Int32) (v2 : Int32) (v4 : Int32) (I : zI) : Option zI :=
  f_X12_make_83 k2 k23 v1 v2 v4 (0 : Int32) I
noncomputable def f_X12_make_203 (k2 : Int32 → Int32 → zI → Option zI) (v1 : Int32) (v2 : Int32) (v3 : Int32) (I : zI) : Option zI :=
  zlt (((4096 : Int32) * v1) + v2) (fun x24 => zck (zbd x24 98304) (zlt (zu I 118 x24.toNatClampNeg (vp_nar .boolean v3)) (fun I26 => zlt (((4096 : Int32) * v1) + v2) (fun x27 => zck (zbd x27 98304) (zlt (zu I26 119 x27.toNatClampNeg (-1 : Int32)) (fun I29 => zlt (v2 + 1) (fun x30 => k2 v1 x30 I29)))))))
noncomputable def f_X12_make_90 (k2 : Int32 → Int32 → zI → Option zI) (v1 : Int32) (v2 : Int32) (v3 : Int32) (I : zI) : Option zI :=
  f_X12_make_203 k2 v1 v2 v3 I
noncomputable def f_X12_make_23 (k2 : Int32 → Int32 → zI → Option zI) (k23 : Int32 → Int32 → Int32 → Int32 → zI → Option zI) (v1 : Int32) (v2 : Int32) (v3 : Int32) (v4 : Int32) (I : zI) : Option zI :=
  if (I 97 2) ≤ v4 then (f_X12_make_90 k2 v1 v2 v3 I) else (if v3 = 0 then (zck (zbd v4 60) (zck (zbd v1 48) (if (I 98 v4.toNatClampNeg) = (I 107 v1.toNatClampNeg) then (zb1 (f_X12_isOpen v4 I) (fun x17 => if x17 = 0 then (zlt (v2 - v2 / (64 : Int32) * (64 : Int32)) (fun x19 => zlt (v2 / (64 : Int32)) (fun x21 => zb1 (f_X12_covers v4 x19 x21 I) (fun x23 => if x23 = 0 then (f_X12_make_82 k2 k23 v1 v2 v4 I) else (f_X12_make_83 k2 k23 v1 v2 v4 (1 : Int32) I))))) else (f_X12_make_82 k2 k23 v1 v2 v4 I))) else (f_X12_make_82 k2 k23 v1 v2 v4 I)))) else (f_X12_make_90 k2 v1 v2 v3 I))
noncomputable def f_X12_make_202 (k2 : Int32 → Int32 → zI → Option zI) (v1 : Int32) (v2 : Int32) (w0 : Int32) (I : zI) : Option zI :=
  f_X12_make_203 k2 v1 v2 w0 I
noncomputable def f_X12_make_155 (k2 : Int32 → Int32 → zI → Option zI) (v1 : Int32) (v2 : Int32) (I : zI) : Option zI :=
  f_X12_make_202 k2 v1 v2 (0 : Int32) I
noncomputable def f_X12_make_179 (k2 : Int32 → Int32 → zI → Option zI) (v1 : Int32) (v2 : Int32) (I : zI) : Option zI :=
  f_X12_make_202 k2 v1 v2 (1 : Int32) I
noncomputable def f_X12_make_201 (k2 : Int32 → Int32 → zI → Option zI) (v1 : Int32) (v2 : Int32) (I : zI) : Option zI :=
  f_X12_make_202 k2 v1 v2 (0 : Int32) I
noncomputable def f_X12_make_2 (k2 : Int32 → Int32 → zI → Option zI) (v1 : Int32) (v2 : Int32) (I : zI) : Option zI :=
  if (4096 : Int32) ≤ v2 then (some I) else (zck (zbd v1 48) (if (I 106 v1.toNatClampNeg) = 0 then (zlp5 (f_X12_make_23 k2) zF v1 v2 (0 : Int32) (0 : Int32) I) else (zck (zbd v1 48) (zlt ((4096 : Int32) * (I 107 v1.toNatClampNeg)) (fun x3 => zlt (x3 + v2) (fun x4 => zck (zbd x4 98304) (zlt (I 118 x4.toNatClampNeg) (fun x6 => zck (zbd v1 48) (zlt ((4096 : Int32) * (I 108 v1.toNatClampNeg)) (fun x8 => zlt (x8 + v2) (fun x9 => zck (zbd x9 98304) (zlt (I 118 x9.toNatClampNeg) (fun x11 => zck (zbd v1 48) (if (I 106 v1.toNatClampNeg) = (1 : Int32) then (if x6 = 0 then (f_X12_make_155 k2 v1 v2 I) else (if x11 = 0 then (f_X12_make_155 k2 v1 v2 I) else (f_X12_make_202 k2 v1 v2 (1 : Int32) I))) else (zck (zbd v1 48) (if (I 106 v1.toNatClampNeg) = (2 : Int32) then (if x6 = 0 then (if x11 = 0 then (f_X12_make_202 k2 v1 v2 (0 : Int32) I) else (f_X12_make_179 k2 v1 v2 I)) else (f_X12_make_179 k2 v1 v2 I)) else (if x6 = 0 then (f_X12_make_201 k2 v1 v2 I) else (if x11 = 0 then (f_X12_make_202 k2 v1 v2 (1 : Int32) I) else (f_X12_make_201 k2 v1 v2 I)))))))))))))))))))
noncomputable def f_X12_make (a1 : Int32) (I : zI) : Option zI :=
  zlp3 (f_X12_make_2) zF a1 (0 : Int32) I
set_option maxHeartbeats 4000000 in
set_option maxRecDepth 100000 in
theorem l_X12_make_83 {r : zI} (C : zC p l e R s m args below meth c s0 a0 d cy B0 yX12_make.cls cX12_make 6 none bc bs bc bs 1 28 []) (L : zL) (k2 : Int32 → Int32 → zI → Option zI) (hk2 : ∀ (v1 : Int32) (v2 : Int32) (I : zI), k2 v1 v2 I = some r → zG p l e R s m args below meth c d cy B0 6 bc bs (zQ below s args d cy B0 bc bs (.inl none) zSH zKn bc bs r L) 2 [(0, .ref (B0 + 97)), (1, .int v1), (2, .int v2)] [] zSH zKn bc bs I L) (k23 : Int32 → Int32 → Int32 → Int32 → zI → Option zI) (hk23 : ∀ (v1 : Int32) (v2 : Int32) (v3 : Int32) (v4 : Int32) (I : zI), k23 v1 v2 v3 v4 I = some r → zG p l e R s m args below meth c d cy B0 6 bc bs (zQ below s args d cy B0 bc bs (.inl none) zSH zKn bc bs r L) 23 [(0, .ref (B0 + 97)), (1, .int v1), (2, .int v2), (3, .int v3), (4, .int v4)] [] zSH zKn bc bs I L) (v1 : Int32) (v2 : Int32) (v4 : Int32) (w0 : Int32) (I : zI) (h : f_X12_make_83 k2 k23 v1 v2 v4 w0 I = some r) : zG p l e R s m args below meth c d cy B0 6 bc bs (zQ below s args d cy B0 bc bs (.inl none) zSH zKn bc bs r L) 83 [(0, .ref (B0 + 97)), (1, .int v1), (2, .int v2), (4, .int v4)] [.int w0] zSH zKn bc bs I L := by
  unfold f_X12_make_83 at h
  refine z_istore_n C (lv' := [(3, .int w0), (0, .ref (B0 + 97)), (1, .int v1), (2, .int v2), (4, .int v4)]) rfl (by decide) rfl dX12_make_83 ?_
  obtain ⟨x31, ex31, h⟩ := zlt_e h
  refine z_iinc C (j := 4) (v := x31) (lv' := [(4, .int x31), (3, .int w0), (0, .ref (B0 + 97)), (1, .int v1), (2, .int v2)]) rfl (by rw [ex31]; rfl) (by decide) rfl dX12_make_84 ?_
  refine z_goto C 23 (by decide) dX12_make_87 ?_
  refine z_lv [2, 3, 4, 1, 0] (lv' := [(0, .ref (B0 + 97)), (1, .int v1), (2, .int v2), (3, .int w0), (4, .int x31)]) rfl ?_
  exact hk23 v1 v2 w0 x31 I h
set_option maxHeartbeats 4000000 in
set_option maxRecDepth 100000 in
theorem l_X12_make_82 {r : zI} (C : zC p l e R s m args below meth c s0 a0 d cy B0 yX12_make.cls cX12_make 6 none bc bs bc bs 1 28 []) (L : zL) (k2 : Int32 → Int32 → zI → Option zI) (hk2 : ∀ (v1 : Int32) (v2 : Int32) (I : zI), k2 v1 v2 I = some r → zG p l e R s m args below meth c d cy B0 6 bc bs (zQ below s args d cy B0 bc bs (.inl none) zSH zKn bc bs r L) 2 [(0, .ref (B0 + 97)), (1, .int v1), (2, .int v2)] [] zSH zKn bc bs I L) (k23 : Int32 → Int32 → Int32 → Int32 → zI → Option zI) (hk23 : ∀ (v1 : Int32) (v2 : Int32) (v3 : Int32) (v4 : Int32) (I : zI), k23 v1 v2 v3 v4 I = some r → zG p l e R s m args below meth c d cy B0 6 bc bs (zQ below s args d cy B0 bc bs (.inl none) zSH zKn bc bs r L) 23 [(0, .ref (B0 + 97)), (1, .int v1), (2, .int v2), (3, .int v3), (4, .int v4)] [] zSH zKn bc bs I L) (v1 : Int32) (v2 : Int32) (v4 : Int32) (I : zI) (h : f_X12_make_82 k2 k23 v1 v2 v4 I = some r) : zG p l e R s m args below meth c d cy B0 6 bc bs (zQ below s args d cy B0 bc bs (.inl none) zSH zKn bc bs r L) 82 [(0, .ref (B0 + 97)), (1, .int v1), (2, .int v2), (4, .int v4)] [] zSH zKn bc bs I L := by
  unfold f_X12_make_82 at h
  refine z_iconst C (v := 0) (by decide) dX12_make_82 ?_
  exact l_X12_make_83 C L k2 hk2 k23 hk23 v1 v2 v4 (0 : Int32) I h
set_option maxHeartbeats 4000000 in
set_option maxRecDepth 100000 in
theorem l_X12_make_203 {r : zI} (C : zC p l e R s m args below meth c s0 a0 d cy B0 yX12_make.cls cX12_make 6 none bc bs bc bs 1 28 []) (L : zL) (k2 : Int32 → Int32 → zI → Option zI) (hk2 : ∀ (v1 : Int32) (v2 : Int32) (I : zI), k2 v1 v2 I = some r → zG p l e R s m args below meth c d cy B0 6 bc bs (zQ below s args d cy B0 bc bs (.inl none) zSH zKn bc bs r L) 2 [(0, .ref (B0 + 97)), (1, .int v1), (2, .int v2)] [] zSH zKn bc bs I L) (v1 : Int32) (v2 : Int32) (v3 : Int32) (I : zI) (h : f_X12_make_203 k2 v1 v2 v3 I = some r) : zG p l e R s m args below meth c d cy B0 6 bc bs (zQ below s args d cy B0 bc bs (.inl none) zSH zKn bc bs r L) 203 [(0, .ref (B0 + 97)), (1, .int v1), (2, .int v2), (3, .int v3)] [] zSH zKn bc bs I L := by
  unfold f_X12_make_203 at h
  refine z_aload_n C rfl 0 rfl dX12_make_203 ?_
  refine z_getr C zc_12 dX12_make_204 31 97 118 rfl (by decide) (by decide) q_1200 rfl rfl ?_
  refine z_sipush C (v := 4096) (by decide) dX12_make_207 ?_
  refine z_iload_n C rfl 1 rfl dX12_make_210 ?_
  refine z_imul C dX12_make_211 ?_
  refine z_iload_n C rfl 2 rfl dX12_make_212 ?_
  refine z_iadd C dX12_make_213 ?_
  obtain ⟨x24, ex24, h⟩ := zlt_e h
  refine z_eqi C ex24 ?_
  refine z_iload_n C rfl 3 rfl dX12_make_214 ?_
  obtain ⟨hb25, h⟩ := zck_e h
  refine z_zastore C dX12_make_215 rfl rfl (by decide) (zbd_in hb25) ?_
  obtain ⟨I26, eI26, h⟩ := zlt_e h
  refine z_eqI C eI26 ?_
  refine z_aload_n C rfl 0 rfl dX12_make_216 ?_
  refine z_getr C zc_12 dX12_make_217 32 97 119 rfl (by decide) (by decide) q_1201 rfl rfl ?_
  refine z_sipush C (v := 4096) (by decide) dX12_make_220 ?_
  refine z_iload_n C rfl 1 rfl dX12_make_223 ?_
  refine z_imul C dX12_make_224 ?_
  refine z_iload_n C rfl 2 rfl dX12_make_225 ?_
  refine z_iadd C dX12_make_226 ?_
  obtain ⟨x27, ex27, h⟩ := zlt_e h
  refine z_eqi C ex27 ?_
  refine z_iconst C (v := -1) (by decide) dX12_make_227 ?_
  obtain ⟨hb28, h⟩ := zck_e h
  refine z_iastore C dX12_make_228 rfl rfl (by decide) (zbd_in hb28) ?_
  obtain ⟨I29, eI29, h⟩ := zlt_e h
  refine z_eqI C eI29 ?_
  obtain ⟨x30, ex30, h⟩ := zlt_e h
  refine z_iinc C (j := 2) (v := x30) (lv' := [(2, .int x30), (0, .ref (B0 + 97)), (1, .int v1), (3, .int v3)]) rfl (by rw [ex30]; rfl) (by decide) rfl dX12_make_229 ?_
  refine z_goto C 2 (by decide) dX12_make_232 ?_
  refine z_lv [1, 2, 0] (lv' := [(0, .ref (B0 + 97)), (1, .int v1), (2, .int x30)]) rfl ?_
  exact hk2 v1 x30 I29 h
set_option maxHeartbeats 4000000 in
set_option maxRecDepth 100000 in
theorem l_X12_make_90 {r : zI} (C : zC p l e R s m args below meth c s0 a0 d cy B0 yX12_make.cls cX12_make 6 none bc bs bc bs 1 28 []) (L : zL) (k2 : Int32 → Int32 → zI → Option zI) (hk2 : ∀ (v1 : Int32) (v2 : Int32) (I : zI), k2 v1 v2 I = some r → zG p l e R s m args below meth c d cy B0 6 bc bs (zQ below s args d cy B0 bc bs (.inl none) zSH zKn bc bs r L) 2 [(0, .ref (B0 + 97)), (1, .int v1), (2, .int v2)] [] zSH zKn bc bs I L) (v1 : Int32) (v2 : Int32) (v3 : Int32) (I : zI) (h : f_X12_make_90 k2 v1 v2 v3 I = some r) : zG p l e R s m args below meth c d cy B0 6 bc bs (zQ below s args d cy B0 bc bs (.inl none) zSH zKn bc bs r L) 90 [(0, .ref (B0 + 97)), (1, .int v1), (2, .int v2), (3, .int v3)] [] zSH zKn bc bs I L := by
  unfold f_X12_make_90 at h
  refine z_goto C 203 (by decide) dX12_make_90 ?_
  exact l_X12_make_203 C L k2 hk2 v1 v2 v3 I h
set_option maxHeartbeats 4000000 in
set_option maxRecDepth 100000 in
theorem l_X12_make_23 {r : zI} (C : zC p l e R s m args below meth c s0 a0 d cy B0 yX12_make.cls cX12_make 6 none bc bs bc bs 1 28 []) (L : zL) (k2 : Int32 → Int32 → zI → Option zI) (hk2 : ∀ (v1 : Int32) (v2 : Int32) (I : zI), k2 v1 v2 I = some r → zG p l e R s m args below meth c d cy B0 6 bc bs (zQ below s args d cy B0 bc bs (.inl none) zSH zKn bc bs r L) 2 [(0, .ref (B0 + 97)), (1, .int v1), (2, .int v2)] [] zSH zKn bc bs I L) (k23 : Int32 → Int32 → Int32 → Int32 → zI → Option zI) (hk23 : ∀ (v1 : Int32) (v2 : Int32) (v3 : Int32) (v4 : Int32) (I : zI), k23 v1 v2 v3 v4 I = some r → zG p l e R s m args below meth c d cy B0 6 bc bs (zQ below s args d cy B0 bc bs (.inl none) zSH zKn bc bs r L) 23 [(0, .ref (B0 + 97)), (1, .int v1), (2, .int v2), (3, .int v3), (4, .int v4)] [] zSH zKn bc bs I L) (v1 : Int32) (v2 : Int32) (v3 : Int32) (v4 : Int32) (I : zI) (h : f_X12_make_23 k2 k23 v1 v2 v3 v4 I = some r) : zG p l e R s m args below meth c d cy B0 6 bc bs (zQ below s args d cy B0 bc bs (.inl none) zSH zKn bc bs r L) 23 [(0, .ref (B0 + 97)), (1, .int v1), (2, .int v2), (3, .int v3), (4, .int v4)] [] zSH zKn bc bs I L := by
  unfold f_X12_make_23 at h
  refine z_iload C 4 rfl dX12_make_23 ?_
  refine z_aload_n C rfl 0 rfl dX12_make_25 ?_
  refine z_geti C zc_12 dX12_make_26 2 97 rfl (by decide) (by decide) q_1171 rfl ?_
  refine z_icmp_ge C 90 (by decide) dX12_make_29 (fun hc => ?_) (fun hc => ?_)
  · have h := zif_t hc h
    refine z_lv [0, 1, 2, 3] (lv' := [(0, .ref (B0 + 97)), (1, .int v1), (2, .int v2), (3, .int v3)]) rfl ?_
    exact l_X12_make_90 C L k2 hk2 v1 v2 v3 I h
  · have h := zif_f hc h
    refine z_iload_n C rfl 3 rfl dX12_make_32 ?_
    refine z_if_ne C 90 (by decide) dX12_make_33 (fun hc => ?_) (fun hc => ?_)
    · have h := zif_f hc h
      refine z_lv [0, 1, 2, 3] (lv' := [(0, .ref (B0 + 97)), (1, .int v1), (2, .int v2), (3, .int v3)]) rfl ?_
      exact l_X12_make_90 C L k2 hk2 v1 v2 v3 I h
    · have h := zif_t hc h
      refine z_aload_n C rfl 0 rfl dX12_make_36 ?_
      refine z_getr C zc_12 dX12_make_37 3 97 98 rfl (by decide) (by decide) q_1172 rfl rfl ?_
      refine z_iload C 4 rfl dX12_make_40 ?_
      obtain ⟨hb14, h⟩ := zck_e h
      refine z_iaload C dX12_make_42 rfl rfl (by decide) (zbd_in hb14) ?_
      refine z_aload_n C rfl 0 rfl dX12_make_43 ?_
      refine z_getr C zc_12 dX12_make_44 18 97 107 rfl (by decide) (by decide) q_1187 rfl rfl ?_
      refine z_iload_n C rfl 1 rfl dX12_make_47 ?_
      obtain ⟨hb15, h⟩ := zck_e h
      refine z_iaload C dX12_make_48 rfl rfl (by decide) (zbd_in hb15) ?_
      refine z_icmp_ne C 82 (by decide) dX12_make_49 (fun hc => ?_) (fun hc => ?_)
      · have h := zif_f hc h
        refine z_lv [0, 1, 2, 4] (lv' := [(0, .ref (B0 + 97)), (1, .int v1), (2, .int v2), (4, .int v4)]) rfl ?_
        exact l_X12_make_82 C L k2 hk2 k23 hk23 v1 v2 v4 I h
      · have h := zif_t hc h
        refine z_aload_n C rfl 0 rfl dX12_make_52 ?_
        refine z_iload C 4 rfl dX12_make_53 ?_
        obtain ⟨x17, hg16, h⟩ := zb1_e h
        refine z_callV C zc_12 rfl (by decide) dX12_make_55 yy_X12_isOpen (c_X12_isOpen C.2.2.2.2.1  v4 I L hg16) q_1457 q_1459 q_60 (by decide) (by decide) rfl rfl (Nat.le_of_ble_eq_true rfl) ⟨Nat.le_refl _, Nat.le_refl _, Nat.le_refl _, Nat.le_refl _⟩ ?_
        refine z_if_ne C 82 (by decide) dX12_make_58 (fun hc => ?_) (fun hc => ?_)
        · have h := zif_f hc h
          refine z_lv [0, 1, 2, 4] (lv' := [(0, .ref (B0 + 97)), (1, .int v1), (2, .int v2), (4, .int v4)]) rfl ?_
          exact l_X12_make_82 C L k2 hk2 k23 hk23 v1 v2 v4 I h
        · have h := zif_t hc h
          refine z_aload_n C rfl 0 rfl dX12_make_61 ?_
          refine z_iload C 4 rfl dX12_make_62 ?_
          refine z_iload_n C rfl 2 rfl dX12_make_64 ?_
          refine z_bipush C (v := 64) (by decide) dX12_make_65 ?_
          refine z_irem C (by decide) dX12_make_67 ?_
          obtain ⟨x19, ex19, h⟩ := zlt_e h
          refine z_eqi C ex19 ?_
          refine z_iload_n C rfl 2 rfl dX12_make_68 ?_
          refine z_bipush C (v := 64) (by decide) dX12_make_69 ?_
          refine z_idiv C (by decide) dX12_make_71 ?_
          obtain ⟨x21, ex21, h⟩ := zlt_e h
          refine z_eqi C ex21 ?_
          obtain ⟨x23, hg22, h⟩ := zb1_e h
          refine z_callV C zc_12 rfl (by decide) dX12_make_72 yy_X12_covers (c_X12_covers C.2.2.2.2.1  v4 x19 x21 I L hg22) q_1461 q_1463 q_61 (by decide) (by decide) rfl rfl (Nat.le_of_ble_eq_true rfl) ⟨Nat.le_refl _, Nat.le_refl _, Nat.le_refl _, Nat.le_refl _⟩ ?_
          refine z_if_eq C 82 (by decide) dX12_make_75 (fun hc => ?_) (fun hc => ?_)
          · have h := zif_t hc h
            refine z_lv [0, 1, 2, 4] (lv' := [(0, .ref (B0 + 97)), (1, .int v1), (2, .int v2), (4, .int v4)]) rfl ?_
            exact l_X12_make_82 C L k2 hk2 k23 hk23 v1 v2 v4 I h
          · have h := zif_f hc h
            refine z_iconst C (v := 1) (by decide) dX12_make_78 ?_
            refine z_goto C 83 (by decide) dX12_make_79 ?_
            refine z_lv [0, 1, 2, 4] (lv' := [(0, .ref (B0 + 97)), (1, .int v1), (2, .int v2), (4, .int v4)]) rfl ?_
            exact l_X12_make_83 C L k2 hk2 k23 hk23 v1 v2 v4 (1 : Int32) I h
set_option maxHeartbeats 4000000 in
set_option maxRecDepth 100000 in
theorem L_X12_make_23 {r : zI} (C : zC p l e R s m args below meth c s0 a0 d cy B0 yX12_make.cls cX12_make 6 none bc bs bc bs 1 28 []) (L : zL) (k2 : Int32 → Int32 → zI → Option zI) (hk2 : ∀ (v1 : Int32) (v2 : Int32) (I : zI), k2 v1 v2 I = some r → zG p l e R s m args below meth c d cy B0 6 bc bs (zQ below s args d cy B0 bc bs (.inl none) zSH zKn bc bs r L) 2 [(0, .ref (B0 + 97)), (1, .int v1), (2, .int v2)] [] zSH zKn bc bs I L) (v1 : Int32) (v2 : Int32) (v3 : Int32) (v4 : Int32) (I : zI) (h : zlp5 (f_X12_make_23 k2) zF v1 v2 v3 v4 I = some r) : zG p l e R s m args below meth c d cy B0 6 bc bs (zQ below s args d cy B0 bc bs (.inl none) zSH zKn bc bs r L) 23 [(0, .ref (B0 + 97)), (1, .int v1), (2, .int v2), (3, .int v3), (4, .int v4)] [] zSH zKn bc bs I L :=
 zlp5_e (fun (v1 : Int32) (v2 : Int32) (v3 : Int32) (v4 : Int32) (I : zI) => zG p l e R s m args below meth c d cy B0 6 bc bs (zQ below s args d cy B0 bc bs (.inl none) zSH zKn bc bs r L) 23 [(0, .ref (B0 + 97)), (1, .int v1), (2, .int v2), (3, .int v3), (4, .int v4)] [] zSH zKn bc bs I L) (fun k9 hk9 v1 v2 v3 v4 I h => l_X12_make_23 C L k2 hk2 k9 hk9 v1 v2 v3 v4 I h) zF v1 v2 v3 v4 I h
set_option maxHeartbeats 4000000 in
set_option maxRecDepth 100000 in
theorem l_X12_make_202 {r : zI} (C : zC p l e R s m args below meth c s0 a0 d cy B0 yX12_make.cls cX12_make 6 none bc bs bc bs 1 28 []) (L : zL) (k2 : Int32 → Int32 → zI → Option zI) (hk2 : ∀ (v1 : Int32) (v2 : Int32) (I : zI), k2 v1 v2 I = some r → zG p l e R s m args below meth c d cy B0 6 bc bs (zQ below s args d cy B0 bc bs (.inl none) zSH zKn bc bs r L) 2 [(0, .ref (B0 + 97)), (1, .int v1), (2, .int v2)] [] zSH zKn bc bs I L) (v1 : Int32) (v2 : Int32) (w0 : Int32) (I : zI) (h : f_X12_make_202 k2 v1 v2 w0 I = some r) : zG p l e R s m args below meth c d cy B0 6 bc bs (zQ below s args d cy B0 bc bs (.inl none) zSH zKn bc bs r L) 202 [(0, .ref (B0 + 97)), (1, .int v1), (2, .int v2)] [.int w0] zSH zKn bc bs I L := by
  unfold f_X12_make_202 at h
  refine z_istore_n C (lv' := [(3, .int w0), (0, .ref (B0 + 97)), (1, .int v1), (2, .int v2)]) rfl (by decide) rfl dX12_make_202 ?_
  refine z_lv [1, 2, 3, 0] (lv' := [(0, .ref (B0 + 97)), (1, .int v1), (2, .int v2), (3, .int w0)]) rfl ?_
  exact l_X12_make_203 C L k2 hk2 v1 v2 w0 I h
set_option maxHeartbeats 4000000 in
set_option maxRecDepth 100000 in
theorem l_X12_make_155 {r : zI} (C : zC p l e R s m args below meth c s0 a0 d cy B0 yX12_make.cls cX12_make 6 none bc bs bc bs 1 28 []) (L : zL) (k2 : Int32 → Int32 → zI → Option zI) (hk2 : ∀ (v1 : Int32) (v2 : Int32) (I : zI), k2 v1 v2 I = some r → zG p l e R s m args below meth c d cy B0 6 bc bs (zQ below s args d cy B0 bc bs (.inl none) zSH zKn bc bs r L) 2 [(0, .ref (B0 + 97)), (1, .int v1), (2, .int v2)] [] zSH zKn bc bs I L) (v1 : Int32) (v2 : Int32) (I : zI) (h : f_X12_make_155 k2 v1 v2 I = some r) : zG p l e R s m args below meth c d cy B0 6 bc bs (zQ below s args d cy B0 bc bs (.inl none) zSH zKn bc bs r L) 155 [(0, .ref (B0 + 97)), (1, .int v1), (2, .int v2)] [] zSH zKn bc bs I L := by
  unfold f_X12_make_155 at h
  refine z_iconst C (v := 0) (by decide) dX12_make_155 ?_
  refine z_goto C 202 (by decide) dX12_make_156 ?_
  exact l_X12_make_202 C L k2 hk2 v1 v2 (0 : Int32) I h
set_option maxHeartbeats 4000000 in
set_option maxRecDepth 100000 in
theorem l_X12_make_179 {r : zI} (C : zC p l e R s m args below meth c s0 a0 d cy B0 yX12_make.cls cX12_make 6 none bc bs bc bs 1 28 []) (L : zL) (k2 : Int32 → Int32 → zI → Option zI) (hk2 : ∀ (v1 : Int32) (v2 : Int32) (I : zI), k2 v1 v2 I = some r → zG p l e R s m args below meth c d cy B0 6 bc bs (zQ below s args d cy B0 bc bs (.inl none) zSH zKn bc bs r L) 2 [(0, .ref (B0 + 97)), (1, .int v1), (2, .int v2)] [] zSH zKn bc bs I L) (v1 : Int32) (v2 : Int32) (I : zI) (h : f_X12_make_179 k2 v1 v2 I = some r) : zG p l e R s m args below meth c d cy B0 6 bc bs (zQ below s args d cy B0 bc bs (.inl none) zSH zKn bc bs r L) 179 [(0, .ref (B0 + 97)), (1, .int v1), (2, .int v2)] [] zSH zKn bc bs I L := by
  unfold f_X12_make_179 at h
  refine z_iconst C (v := 1) (by decide) dX12_make_179 ?_
  refine z_goto C 202 (by decide) dX12_make_180 ?_
  exact l_X12_make_202 C L k2 hk2 v1 v2 (1 : Int32) I h
set_option maxHeartbeats 4000000 in
set_option maxRecDepth 100000 in
theorem l_X12_make_201 {r : zI} (C : zC p l e R s m args below meth c s0 a0 d cy B0 yX12_make.cls cX12_make 6 none bc bs bc bs 1 28 []) (L : zL) (k2 : Int32 → Int32 → zI → Option zI) (hk2 : ∀ (v1 : Int32) (v2 : Int32) (I : zI), k2 v1 v2 I = some r → zG p l e R s m args below meth c d cy B0 6 bc bs (zQ below s args d cy B0 bc bs (.inl none) zSH zKn bc bs r L) 2 [(0, .ref (B0 + 97)), (1, .int v1), (2, .int v2)] [] zSH zKn bc bs I L) (v1 : Int32) (v2 : Int32) (I : zI) (h : f_X12_make_201 k2 v1 v2 I = some r) : zG p l e R s m args below meth c d cy B0 6 bc bs (zQ below s args d cy B0 bc bs (.inl none) zSH zKn bc bs r L) 201 [(0, .ref (B0 + 97)), (1, .int v1), (2, .int v2)] [] zSH zKn bc bs I L := by
  unfold f_X12_make_201 at h
  refine z_iconst C (v := 0) (by decide) dX12_make_201 ?_
  exact l_X12_make_202 C L k2 hk2 v1 v2 (0 : Int32) I h
set_option maxHeartbeats 4000000 in
set_option maxRecDepth 100000 in
theorem l_X12_make_2 {r : zI} (C : zC p l e R s m args below meth c s0 a0 d cy B0 yX12_make.cls cX12_make 6 none bc bs bc bs 1 28 []) (L : zL) (k2 : Int32 → Int32 → zI → Option zI) (hk2 : ∀ (v1 : Int32) (v2 : Int32) (I : zI), k2 v1 v2 I = some r → zG p l e R s m args below meth c d cy B0 6 bc bs (zQ below s args d cy B0 bc bs (.inl none) zSH zKn bc bs r L) 2 [(0, .ref (B0 + 97)), (1, .int v1), (2, .int v2)] [] zSH zKn bc bs I L) (v1 : Int32) (v2 : Int32) (I : zI) (h : f_X12_make_2 k2 v1 v2 I = some r) : zG p l e R s m args below meth c d cy B0 6 bc bs (zQ below s args d cy B0 bc bs (.inl none) zSH zKn bc bs r L) 2 [(0, .ref (B0 + 97)), (1, .int v1), (2, .int v2)] [] zSH zKn bc bs I L := by
  unfold f_X12_make_2 at h
  refine z_iload_n C rfl 2 rfl dX12_make_2 ?_
  refine z_sipush C (v := 4096) (by decide) dX12_make_3 ?_
  refine z_icmp_ge C 235 (by decide) dX12_make_6 (fun hc => ?_) (fun hc => ?_)
  · have h := zif_t hc h
    obtain rfl := Option.some.inj h
    exact z_vret C dX12_make_235 rfl rfl
  · have h := zif_f hc h
    refine z_iconst C (v := 0) (by decide) dX12_make_9 ?_
    refine z_istore_n C (lv' := [(3, .int (0 : Int32)), (0, .ref (B0 + 97)), (1, .int v1), (2, .int v2)]) rfl (by decide) rfl dX12_make_10 ?_
    refine z_aload_n C rfl 1 rfl dX12_make_11 ?_
    refine z_getr C zc_12 dX12_make_12 17 97 106 rfl (by decide) (by decide) q_1186 rfl rfl ?_
    refine z_iload_n C rfl 2 rfl dX12_make_15 ?_
    obtain ⟨hb1, h⟩ := zck_e h
    refine z_iaload C dX12_make_16 rfl rfl (by decide) (zbd_in hb1) ?_
    refine z_if_ne C 93 (by decide) dX12_make_17 (fun hc => ?_) (fun hc => ?_)
    · have h := zif_f hc h
      refine z_aload_n C rfl 1 rfl dX12_make_93 ?_
      refine z_getr C zc_12 dX12_make_94 31 97 118 rfl (by decide) (by decide) q_1200 rfl rfl ?_
      refine z_sipush C (v := 4096) (by decide) dX12_make_97 ?_
      refine z_aload_n C rfl 1 rfl dX12_make_100 ?_
      refine z_getr C zc_12 dX12_make_101 18 97 107 rfl (by decide) (by decide) q_1187 rfl rfl ?_
      refine z_iload_n C rfl 2 rfl dX12_make_104 ?_
      obtain ⟨hb2, h⟩ := zck_e h
      refine z_iaload C dX12_make_105 rfl rfl (by decide) (zbd_in hb2) ?_
      refine z_imul C dX12_make_106 ?_
      obtain ⟨x3, ex3, h⟩ := zlt_e h
      refine z_eqi C ex3 ?_
      refine z_iload_n C rfl 3 rfl dX12_make_107 ?_
      refine z_iadd C dX12_make_108 ?_
      obtain ⟨x4, ex4, h⟩ := zlt_e h
      refine z_eqi C ex4 ?_
      obtain ⟨hb5, h⟩ := zck_e h
      refine z_zaload C dX12_make_109 rfl rfl (by decide) (zbd_in hb5) ?_
      obtain ⟨x6, ex6, h⟩ := zlt_e h
      refine z_eqi C ex6 ?_
      refine z_istore C (lv' := [(4, .int x6), (3, .int (0 : Int32)), (0, .ref (B0 + 97)), (1, .int v1), (2, .int v2)]) (by decide) rfl dX12_make_110 ?_
      refine z_aload_n C rfl 2 rfl dX12_make_112 ?_
      refine z_getr C zc_12 dX12_make_113 31 97 118 rfl (by decide) (by decide) q_1200 rfl rfl ?_
      refine z_sipush C (v := 4096) (by decide) dX12_make_116 ?_
      refine z_aload_n C rfl 2 rfl dX12_make_119 ?_
      refine z_getr C zc_12 dX12_make_120 19 97 108 rfl (by decide) (by decide) q_1188 rfl rfl ?_
      refine z_iload_n C rfl 3 rfl dX12_make_123 ?_
      obtain ⟨hb7, h⟩ := zck_e h
      refine z_iaload C dX12_make_124 rfl rfl (by decide) (zbd_in hb7) ?_
      refine z_imul C dX12_make_125 ?_
      obtain ⟨x8, ex8, h⟩ := zlt_e h
      refine z_eqi C ex8 ?_
      refine z_iload_n C rfl 4 rfl dX12_make_126 ?_
      refine z_iadd C dX12_make_127 ?_
      obtain ⟨x9, ex9, h⟩ := zlt_e h
      refine z_eqi C ex9 ?_
      obtain ⟨hb10, h⟩ := zck_e h
      refine z_zaload C dX12_make_128 rfl rfl (by decide) (zbd_in hb10) ?_
      obtain ⟨x11, ex11, h⟩ := zlt_e h
      refine z_eqi C ex11 ?_
      refine z_istore C (lv' := [(5, .int x11), (4, .int x6), (3, .int (0 : Int32)), (0, .ref (B0 + 97)), (1, .int v1), (2, .int v2)]) (by decide) rfl dX12_make_129 ?_
      refine z_aload_n C rfl 3 rfl dX12_make_131 ?_
      refine z_getr C zc_12 dX12_make_132 17 97 106 rfl (by decide) (by decide) q_1186 rfl rfl ?_
      refine z_iload_n C rfl 4 rfl dX12_make_135 ?_
      obtain ⟨hb12, h⟩ := zck_e h
      refine z_iaload C dX12_make_136 rfl rfl (by decide) (zbd_in hb12) ?_
      refine z_iconst C (v := 1) (by decide) dX12_make_137 ?_
      refine z_icmp_ne C 159 (by decide) dX12_make_138 (fun hc => ?_) (fun hc => ?_)
      · have h := zif_f hc h
        refine z_aload_n C rfl 3 rfl dX12_make_159 ?_
        refine z_getr C zc_12 dX12_make_160 17 97 106 rfl (by decide) (by decide) q_1186 rfl rfl ?_
        refine z_iload_n C rfl 4 rfl dX12_make_163 ?_
        obtain ⟨hb13, h⟩ := zck_e h
        refine z_iaload C dX12_make_164 rfl rfl (by decide) (zbd_in hb13) ?_
        refine z_iconst C (v := 2) (by decide) dX12_make_165 ?_
        refine z_icmp_ne C 187 (by decide) dX12_make_166 (fun hc => ?_) (fun hc => ?_)
        · have h := zif_f hc h
          refine z_iload C 1 rfl dX12_make_187 ?_
          refine z_if_eq C 201 (by decide) dX12_make_189 (fun hc => ?_) (fun hc => ?_)
          · have h := zif_t hc h
            refine z_lv [3, 4, 5] (lv' := [(0, .ref (B0 + 97)), (1, .int v1), (2, .int v2)]) rfl ?_
            exact l_X12_make_201 C L k2 hk2 v1 v2 I h
          · have h := zif_f hc h
            refine z_iload C 0 rfl dX12_make_192 ?_
            refine z_if_ne C 201 (by decide) dX12_make_194 (fun hc => ?_) (fun hc => ?_)
            · have h := zif_f hc h
              refine z_lv [3, 4, 5] (lv' := [(0, .ref (B0 + 97)), (1, .int v1), (2, .int v2)]) rfl ?_
              exact l_X12_make_201 C L k2 hk2 v1 v2 I h
            · have h := zif_t hc h
              refine z_iconst C (v := 1) (by decide) dX12_make_197 ?_
              refine z_goto C 202 (by decide) dX12_make_198 ?_
              refine z_lv [3, 4, 5] (lv' := [(0, .ref (B0 + 97)), (1, .int v1), (2, .int v2)]) rfl ?_
              exact l_X12_make_202 C L k2 hk2 v1 v2 (1 : Int32) I h
        · have h := zif_t hc h
          refine z_iload C 1 rfl dX12_make_169 ?_
          refine z_if_ne C 179 (by decide) dX12_make_171 (fun hc => ?_) (fun hc => ?_)
          · have h := zif_f hc h
            refine z_lv [3, 4, 5] (lv' := [(0, .ref (B0 + 97)), (1, .int v1), (2, .int v2)]) rfl ?_
            exact l_X12_make_179 C L k2 hk2 v1 v2 I h
          · have h := zif_t hc h
            refine z_iload C 0 rfl dX12_make_174 ?_
            refine z_if_eq C 183 (by decide) dX12_make_176 (fun hc => ?_) (fun hc => ?_)
            · have h := zif_t hc h
              refine z_iconst C (v := 0) (by decide) dX12_make_183 ?_
              refine z_goto C 202 (by decide) dX12_make_184 ?_
              refine z_lv [3, 4, 5] (lv' := [(0, .ref (B0 + 97)), (1, .int v1), (2, .int v2)]) rfl ?_
              exact l_X12_make_202 C L k2 hk2 v1 v2 (0 : Int32) I h
            · have h := zif_f hc h
              refine z_lv [3, 4, 5] (lv' := [(0, .ref (B0 + 97)), (1, .int v1), (2, .int v2)]) rfl ?_
              exact l_X12_make_179 C L k2 hk2 v1 v2 I h
      · have h := zif_t hc h
        refine z_iload C 1 rfl dX12_make_141 ?_
        refine z_if_eq C 155 (by decide) dX12_make_143 (fun hc => ?_) (fun hc => ?_)
        · have h := zif_t hc h
          refine z_lv [3, 4, 5] (lv' := [(0, .ref (B0 + 97)), (1, .int v1), (2, .int v2)]) rfl ?_
          exact l_X12_make_155 C L k2 hk2 v1 v2 I h
        · have h := zif_f hc h
          refine z_iload C 0 rfl dX12_make_146 ?_
          refine z_if_eq C 155 (by decide) dX12_make_148 (fun hc => ?_) (fun hc => ?_)
          · have h := zif_t hc h
            refine z_lv [3, 4, 5] (lv' := [(0, .ref (B0 + 97)), (1, .int v1), (2, .int v2)]) rfl ?_
            exact l_X12_make_155 C L k2 hk2 v1 v2 I h
          · have h := zif_f hc h
            refine z_iconst C (v := 1) (by decide) dX12_make_151 ?_
            refine z_goto C 202 (by decide) dX12_make_152 ?_
            refine z_lv [3, 4, 5] (lv' := [(0, .ref (B0 + 97)), (1, .int v1), (2, .int v2)]) rfl ?_
            exact l_X12_make_202 C L k2 hk2 v1 v2 (1 : Int32) I h
    · have h := zif_t hc h
      refine z_iconst C (v := 0) (by decide) dX12_make_20 ?_
      refine z_istore C (lv' := [(4, .int (0 : Int32)), (3, .int (0 : Int32)), (0, .ref (B0 + 97)), (1, .int v1), (2, .int v2)]) (by decide) rfl dX12_make_21 ?_
      refine z_lv [2, 3, 4, 1, 0] (lv' := [(0, .ref (B0 + 97)), (1, .int v1), (2, .int v2), (3, .int (0 : Int32)), (4, .int (0 : Int32))]) rfl ?_
      exact L_X12_make_23 C L k2 hk2 v1 v2 (0 : Int32) (0 : Int32) I h
set_option maxHeartbeats 4000000 in
set_option maxRecDepth 100000 in
theorem L_X12_make_2 {r : zI} (C : zC p l e R s m args below meth c s0 a0 d cy B0 yX12_make.cls cX12_make 6 none bc bs bc bs 1 28 []) (L : zL) (v1 : Int32) (v2 : Int32) (I : zI) (h : zlp3 (f_X12_make_2) zF v1 v2 I = some r) : zG p l e R s m args below meth c d cy B0 6 bc bs (zQ below s args d cy B0 bc bs (.inl none) zSH zKn bc bs r L) 2 [(0, .ref (B0 + 97)), (1, .int v1), (2, .int v2)] [] zSH zKn bc bs I L :=
 zlp3_e (fun (v1 : Int32) (v2 : Int32) (I : zI) => zG p l e R s m args below meth c d cy B0 6 bc bs (zQ below s args d cy B0 bc bs (.inl none) zSH zKn bc bs r L) 2 [(0, .ref (B0 + 97)), (1, .int v1), (2, .int v2)] [] zSH zKn bc bs I L) (fun k9 hk9 v1 v2 I h => l_X12_make_2 C L k9 hk9 v1 v2 I h) zF v1 v2 I h
set_option maxHeartbeats 4000000 in
set_option maxRecDepth 100000 in
theorem c_X12_make {r : zI} (hE : zE0 l s0 a0 d cy B0) (a1 : Int32) (I : zI) (L : zL) (h : f_X12_make a1 I = some r) : zM l s0 d cy B0 yX12_make cX12_make 6 none 1 28 [.ref (B0 + 97), .int a1] zSH zKn bc bs I L (.inl none) zSH zKn bc bs r L := by
  refine z_meth yy_X12_make hE (Nat.le_of_ble_eq_true rfl) (fun p e R s m args below meth c C => ?_)
  show zG p l e R s m args below meth c d cy B0 6 bc bs (zQ below s args d cy B0 bc bs (.inl none) zSH zKn bc bs r L) 0 [(0, .ref (B0 + 97)), (1, .int a1)] [] zSH zKn bc bs I L
  unfold f_X12_make at h
  refine z_iconst C (v := 0) (by decide) dX12_make_0 ?_
  refine z_istore_n C (lv' := [(2, .int (0 : Int32)), (0, .ref (B0 + 97)), (1, .int a1)]) rfl (by decide) rfl dX12_make_1 ?_
  refine z_lv [1, 2, 0] (lv' := [(0, .ref (B0 + 97)), (1, .int a1), (2, .int (0 : Int32))]) rfl ?_
  exact L_X12_make_2 C L a1 (0 : Int32) I h
theorem q_1475 : (Cond.code ({ cls := "DeviceFindModel", name := "beside", desc := "(II)I" } : Jvm.MethodName) prog_14_method_32_code (4 : Nat) (Option.some Jvm.ClassFile.FieldType.int)) ∈ lw_tbl := List.mem_of_getElem? (i := 1475) (by decide +kernel)
theorem yy_X12_beside : zY yX12_beside cX12_beside 4 (some .int) 2 := ⟨q_1475, q_88, by decide +kernel, by decide +kernel, by decide +kernel⟩
noncomputable def f_X12_beside_69 (w0 : Int32) : Option Int32 :=
  some w0
noncomputable def f_X12_beside_47 (v2 : Int32) (w0 : Int32) (w1 : Int32) : Option Int32 :=
  zlt (w0 + w1) (fun x6 => zb1 (f_X12_isSquare v2.toInt64 x6.toInt64) (fun x8 => if x8 = 0 then (f_X12_beside_69 (-1 : Int32)) else (zlt (((64 : Int32) * x6) + v2) (fun x9 => f_X12_beside_69 x9))))
noncomputable def f_X12_beside_22 (v0 : Int32) (v1 : Int32) (w0 : Int32) (w1 : Int32) : Option Int32 :=
  zlt (w0 + w1) (fun x3 => zlt (v0 / (64 : Int32)) (fun x5 => if v1 = (2 : Int32) then (f_X12_beside_47 x3 x5 (1 : Int32)) else (if v1 = (3 : Int32) then (f_X12_beside_47 x3 x5 (-1 : Int32)) else (f_X12_beside_47 x3 x5 (0 : Int32)))))
noncomputable def f_X12_beside (a0 : Int32) (a1 : Int32) : Option Int32 :=
  zlt (a0 - a0 / (64 : Int32) * (64 : Int32)) (fun x2 => if a1 = 0 then (f_X12_beside_22 a0 a1 x2 (1 : Int32)) else (if a1 = (1 : Int32) then (f_X12_beside_22 a0 a1 x2 (-1 : Int32)) else (f_X12_beside_22 a0 a1 x2 (0 : Int32))))
set_option maxHeartbeats 4000000 in
set_option maxRecDepth 100000 in
theorem l_X12_beside_69 {r : Int32} (C : zC p l e R s m args below meth c s0 a0 d cy B0 yX12_beside.cls cX12_beside 4 (some .int) bc bs bc bs 1 23 []) (I : zI) (L : zL) (w0 : Int32) (h : f_X12_beside_69 w0 = some r) : zG p l e R s m args below meth c d cy B0 4 bc bs (zQ below s args d cy B0 bc bs (.inl (some (.int r))) zSH zKn bc bs I L) 69 [] [.int w0] zSH zKn bc bs I L := by
  unfold f_X12_beside_69 at h
  obtain rfl := Option.some.inj h
  exact z_iret C dX12_beside_69 .int rfl rfl rfl
set_option maxHeartbeats 4000000 in
set_option maxRecDepth 100000 in
theorem l_X12_beside_47 {r : Int32} (C : zC p l e R s m args below meth c s0 a0 d cy B0 yX12_beside.cls cX12_beside 4 (some .int) bc bs bc bs 1 23 []) (I : zI) (L : zL) (v2 : Int32) (w0 : Int32) (w1 : Int32) (h : f_X12_beside_47 v2 w0 w1 = some r) : zG p l e R s m args below meth c d cy B0 4 bc bs (zQ below s args d cy B0 bc bs (.inl (some (.int r))) zSH zKn bc bs I L) 47 [(2, .int v2)] [.int w1, .int w0] zSH zKn bc bs I L := by
  unfold f_X12_beside_47 at h
  refine z_iadd C dX12_beside_47 ?_
  obtain ⟨x6, ex6, h⟩ := zlt_e h
  refine z_eqi C ex6 ?_
  refine z_istore_n C (lv' := [(3, .int x6), (2, .int v2)]) rfl (by decide) rfl dX12_beside_48 ?_
  refine z_iload_n C rfl 1 rfl dX12_beside_49 ?_
  refine z_i2l C dX12_beside_50 ?_
  refine z_iload_n C rfl 0 rfl dX12_beside_51 ?_
  refine z_i2l C dX12_beside_52 ?_
  obtain ⟨x8, hg7, h⟩ := zb1_e h
  refine z_callS C dX12_beside_53 yy_X12_isSquare (c_X12_isSquare C.2.2.2.2.1  v2.toInt64 x6.toInt64 I L hg7) q_1359 q_1360 (by decide) (by decide) rfl rfl (Nat.le_of_ble_eq_true rfl) ⟨Nat.le_refl _, Nat.le_refl _, Nat.le_refl _, Nat.le_refl _⟩ ?_
  refine z_if_eq C 68 (by decide) dX12_beside_56 (fun hc => ?_) (fun hc => ?_)
  · have h := zif_t hc h
    refine z_iconst C (v := -1) (by decide) dX12_beside_68 ?_
    refine z_lv [] (lv' := []) rfl ?_
    exact l_X12_beside_69 C I L (-1 : Int32) h
  · have h := zif_f hc h
    refine z_bipush C (v := 64) (by decide) dX12_beside_59 ?_
    refine z_iload_n C rfl 0 rfl dX12_beside_61 ?_
    refine z_imul C dX12_beside_62 ?_
    refine z_iload_n C rfl 1 rfl dX12_beside_63 ?_
    refine z_iadd C dX12_beside_64 ?_
    obtain ⟨x9, ex9, h⟩ := zlt_e h
    refine z_eqi C ex9 ?_
    refine z_goto C 69 (by decide) dX12_beside_65 ?_
    refine z_lv [] (lv' := []) rfl ?_
    exact l_X12_beside_69 C I L x9 h
set_option maxHeartbeats 4000000 in
set_option maxRecDepth 100000 in
theorem l_X12_beside_22 {r : Int32} (C : zC p l e R s m args below meth c s0 a0 d cy B0 yX12_beside.cls cX12_beside 4 (some .int) bc bs bc bs 1 23 []) (I : zI) (L : zL) (v0 : Int32) (v1 : Int32) (w0 : Int32) (w1 : Int32) (h : f_X12_beside_22 v0 v1 w0 w1 = some r) : zG p l e R s m args below meth c d cy B0 4 bc bs (zQ below s args d cy B0 bc bs (.inl (some (.int r))) zSH zKn bc bs I L) 22 [(0, .int v0), (1, .int v1)] [.int w1, .int w0] zSH zKn bc bs I L := by
  unfold f_X12_beside_22 at h
  refine z_iadd C dX12_beside_22 ?_
  obtain ⟨x3, ex3, h⟩ := zlt_e h
  refine z_eqi C ex3 ?_
  refine z_istore_n C (lv' := [(2, .int x3), (0, .int v0), (1, .int v1)]) rfl (by decide) rfl dX12_beside_23 ?_
  refine z_iload_n C rfl 1 rfl dX12_beside_24 ?_
  refine z_bipush C (v := 64) (by decide) dX12_beside_25 ?_
  refine z_idiv C (by decide) dX12_beside_27 ?_
  obtain ⟨x5, ex5, h⟩ := zlt_e h
  refine z_eqi C ex5 ?_
  refine z_iload_n C rfl 2 rfl dX12_beside_28 ?_
  refine z_iconst C (v := 2) (by decide) dX12_beside_29 ?_
  refine z_icmp_ne C 37 (by decide) dX12_beside_30 (fun hc => ?_) (fun hc => ?_)
  · have h := zif_f hc h
    refine z_iload_n C rfl 2 rfl dX12_beside_37 ?_
    refine z_iconst C (v := 3) (by decide) dX12_beside_38 ?_
    refine z_icmp_ne C 46 (by decide) dX12_beside_39 (fun hc => ?_) (fun hc => ?_)
    · have h := zif_f hc h
      refine z_iconst C (v := 0) (by decide) dX12_beside_46 ?_
      refine z_lv [0] (lv' := [(2, .int x3)]) rfl ?_
      exact l_X12_beside_47 C I L x3 x5 (0 : Int32) h
    · have h := zif_t hc h
      refine z_iconst C (v := -1) (by decide) dX12_beside_42 ?_
      refine z_goto C 47 (by decide) dX12_beside_43 ?_
      refine z_lv [0] (lv' := [(2, .int x3)]) rfl ?_
      exact l_X12_beside_47 C I L x3 x5 (-1 : Int32) h
  · have h := zif_t hc h
    refine z_iconst C (v := 1) (by decide) dX12_beside_33 ?_
    refine z_goto C 47 (by decide) dX12_beside_34 ?_
    refine z_lv [0] (lv' := [(2, .int x3)]) rfl ?_
    exact l_X12_beside_47 C I L x3 x5 (1 : Int32) h
set_option maxHeartbeats 4000000 in
set_option maxRecDepth 100000 in
theorem c_X12_beside {r : Int32} (hE : zE0 l s0 a0 d cy B0) (a0 : Int32) (a1 : Int32) (I : zI) (L : zL) (h : f_X12_beside a0 a1 = some r) : zM l s0 d cy B0 yX12_beside cX12_beside 4 (some .int) 1 23 [.int a0, .int a1] zSH zKn bc bs I L (.inl (some (.int r))) zSH zKn bc bs I L := by
  refine z_meth yy_X12_beside hE (Nat.le_of_ble_eq_true rfl) (fun p e R s m args below meth c C => ?_)
  show zG p l e R s m args below meth c d cy B0 4 bc bs (zQ below s args d cy B0 bc bs (.inl (some (.int r))) zSH zKn bc bs I L) 0 [(0, .int a0), (1, .int a1)] [] zSH zKn bc bs I L
  unfold f_X12_beside at h
  refine z_iload_n C rfl 0 rfl dX12_beside_0 ?_
  refine z_bipush C (v := 64) (by decide) dX12_beside_1 ?_
  refine z_irem C (by decide) dX12_beside_3 ?_
  obtain ⟨x2, ex2, h⟩ := zlt_e h
  refine z_eqi C ex2 ?_
  refine z_iload_n C rfl 1 rfl dX12_beside_4 ?_
  refine z_if_ne C 12 (by decide) dX12_beside_5 (fun hc => ?_) (fun hc => ?_)
  · have h := zif_f hc h
    refine z_iload_n C rfl 1 rfl dX12_beside_12 ?_
    refine z_iconst C (v := 1) (by decide) dX12_beside_13 ?_
    refine z_icmp_ne C 21 (by decide) dX12_beside_14 (fun hc => ?_) (fun hc => ?_)
    · have h := zif_f hc h
      refine z_iconst C (v := 0) (by decide) dX12_beside_21 ?_
      exact l_X12_beside_22 C I L a0 a1 x2 (0 : Int32) h
    · have h := zif_t hc h
      refine z_iconst C (v := -1) (by decide) dX12_beside_17 ?_
      refine z_goto C 22 (by decide) dX12_beside_18 ?_
      exact l_X12_beside_22 C I L a0 a1 x2 (-1 : Int32) h
  · have h := zif_t hc h
    refine z_iconst C (v := 1) (by decide) dX12_beside_8 ?_
    refine z_goto C 22 (by decide) dX12_beside_9 ?_
    exact l_X12_beside_22 C I L a0 a1 x2 (1 : Int32) h
end Zp05_18_walk
