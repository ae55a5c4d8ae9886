section Zp05_21_walk
variable {p : Program} {l : Launch} {e : Env} {R : Room} {s : State} {m : MethodId} {args : Array Value} {below : List Frame} {meth : Method} {c : Code} {s0 : State} {a0 : Array Value} {d : va_G} {cy : Nat → ClassId} {B0 : Nat} {bc bs : Nat}
theorem q_59 : Cond.selects "DeviceFindModel" ⟨"DeviceFindModel", "make", "(I)V"⟩ ⟨"DeviceFindModel", "make", "(I)V"⟩ ∈ lw_tbl := List.mem_of_getElem? (i := 59) (by decide +kernel)
theorem q_62 : Cond.selects "DeviceFindModel" ⟨"DeviceFindModel", "findShapes", "(I)V"⟩ ⟨"DeviceFindModel", "findShapes", "(I)V"⟩ ∈ lw_tbl := List.mem_of_getElem? (i := 62) (by decide +kernel)
theorem q_64 : Cond.selects "DeviceFindModel" ⟨"DeviceFindModel", "findNets", "()V"⟩ ⟨"DeviceFindModel", "findNets", "()V"⟩ ∈ lw_tbl := List.mem_of_getElem? (i := 64) (by decide +kernel)
theorem q_67 : Cond.selects "DeviceFindModel" ⟨"DeviceFindModel", "findPins", "(III)V"⟩ ⟨"DeviceFindModel", "findPins", "(III)V"⟩ ∈ lw_tbl := List.mem_of_getElem? (i := 67) (by decide +kernel)
theorem q_70 : Cond.selects "DeviceFindModel" ⟨"DeviceFindModel", "measure", "(III)V"⟩ ⟨"DeviceFindModel", "measure", "(III)V"⟩ ∈ lw_tbl := List.mem_of_getElem? (i := 70) (by decide +kernel)
theorem q_1208 : (Cond.fieldLink "DeviceFindModel" (296 : Nat) "DeviceFindModel" "devices" "I") ∈ lw_tbl := List.mem_of_getElem? (i := 1208) (by decide +kernel)
theorem q_1209 : (Cond.fieldLink "DeviceFindModel" (92 : Nat) "DeviceFindModel" "deviceKind" "[I") ∈ lw_tbl := List.mem_of_getElem? (i := 1209) (by decide +kernel)
theorem q_1210 : (Cond.fieldLink "DeviceFindModel" (95 : Nat) "DeviceFindModel" "deviceShape" "[I") ∈ lw_tbl := List.mem_of_getElem? (i := 1210) (by decide +kernel)
theorem q_1452 : (Cond.code ({ cls := "DeviceFindModel", name := "run", desc := "()I" } : Jvm.MethodName) prog_14_method_42_code (4 : Nat) (Option.some Jvm.ClassFile.FieldType.int)) ∈ lw_tbl := List.mem_of_getElem? (i := 1452) (by decide +kernel)
theorem q_1453 : (Cond.methodLink "DeviceFindModel" (286 : Nat) ({ cls := "DeviceFindModel", name := "make", desc := "(I)V" } : Jvm.MethodName)) ∈ lw_tbl := List.mem_of_getElem? (i := 1453) (by decide +kernel)
theorem q_1455 : (Cond.instanceMethod ({ cls := "DeviceFindModel", name := "make", desc := "(I)V" } : Jvm.MethodName)) ∈ lw_tbl := List.mem_of_getElem? (i := 1455) (by decide +kernel)
theorem q_1465 : (Cond.methodLink "DeviceFindModel" (290 : Nat) ({ cls := "DeviceFindModel", name := "findShapes", desc := "(I)V" } : Jvm.MethodName)) ∈ lw_tbl := List.mem_of_getElem? (i := 1465) (by decide +kernel)
theorem q_1467 : (Cond.instanceMethod ({ cls := "DeviceFindModel", name := "findShapes", desc := "(I)V" } : Jvm.MethodName)) ∈ lw_tbl := List.mem_of_getElem? (i := 1467) (by decide +kernel)
theorem q_1476 : (Cond.methodLink "DeviceFindModel" (293 : Nat) ({ cls := "DeviceFindModel", name := "findNets", desc := "()V" } : Jvm.MethodName)) ∈ lw_tbl := List.mem_of_getElem? (i := 1476) (by decide +kernel)
theorem q_1478 : (Cond.instanceMethod ({ cls := "DeviceFindModel", name := "findNets", desc := "()V" } : Jvm.MethodName)) ∈ lw_tbl := List.mem_of_getElem? (i := 1478) (by decide +kernel)
theorem q_1489 : (Cond.methodLink "DeviceFindModel" (299 : Nat) ({ cls := "DeviceFindModel", name := "findPins", desc := "(III)V" } : Jvm.MethodName)) ∈ lw_tbl := List.mem_of_getElem? (i := 1489) (by decide +kernel)
theorem q_1491 : (Cond.instanceMethod ({ cls := "DeviceFindModel", name := "findPins", desc := "(III)V" } : Jvm.MethodName)) ∈ lw_tbl := List.mem_of_getElem? (i := 1491) (by decide +kernel)
theorem q_1501 : (Cond.methodLink "DeviceFindModel" (302 : Nat) ({ cls := "DeviceFindModel", name := "measure", desc := "(III)V" } : Jvm.MethodName)) ∈ lw_tbl := List.mem_of_getElem? (i := 1501) (by decide +kernel)
theorem q_1503 : (Cond.instanceMethod ({ cls := "DeviceFindModel", name := "measure", desc := "(III)V" } : Jvm.MethodName)) ∈ lw_tbl := List.mem_of_getElem? (i := 1503) (by decide +kernel)
theorem yy_X12_run : zY yX12_run cX12_run 4 (some .int) 0 := ⟨q_1452, q_88, by decide +kernel, by decide +kernel, by decide +kernel⟩
noncomputable def f_X12_run_134 (k124 : Int32 → zI → zL → Option (Int32 × zI × zL)) (k134 : Int32 → Int32 → zI → zL → Option (Int32 × zI × zL)) (v2 : Int32) (v3 : Int32) (I : zI) (L : zL) : Option (Int32 × zI × zL) :=
  zck (zbd v2 16) (zlt (I 114 v2.toNatClampNeg) (fun x20 => zck (zbd x20 24) (if (I 120 x20.toNatClampNeg) ≤ v3 then (zlt (v2 + 1) (fun x22 => k124 x22 I L)) else (zck (zbd (I 97 39) 300) (zlt (zu I 124 (I 97 39).toNatClampNeg v2) (fun I24 => zck (zbd (I24 97 39) 300) (zlt (zu I24 125 (I24 97 39).toNatClampNeg v3) (fun I26 => zck (zbd (I26 97 39) 300) (zlt (zu I26 127 (I26 97 39).toNatClampNeg (vp_nar .boolean (0 : Int32))) (fun I28 => zlt ((3 : Int32) * (I28 97 39)) (fun x29 => zck (zbd x29 900) (zlt (zul L 129 x29.toNatClampNeg (0 : Int64)) (fun L31 => zlt ((3 : Int32) * (I28 97 39)) (fun x32 => zck (zbd (x32 + (1 : Int32)) 900) (zlt (zul L31 129 (x32 + (1 : Int32)).toNatClampNeg (0 : Int64)) (fun L34 => zlt ((3 : Int32) * (I28 97 39)) (fun x35 => zck (zbd (x35 + (2 : Int32)) 900) (zlt (zul L34 129 (x35 + (2 : Int32)).toNatClampNeg (0 : Int64)) (fun L37 => zb1 (f_X12_findPins (I28 97 39) v2 v3 I28) (fun I39 => zb2 (f_X12_measure (I39 97 39) v2 v3 I39 L37) (fun I41 L42 => zlt ((I41 97 39) + (1 : Int32)) (fun x43 => zlt (zu I41 97 39 x43) (fun I44 => zlt (v3 + 1) (fun x45 => k134 v2 x45 I44 L42))))))))))))))))))))))))
noncomputable def f_X12_run_124 (k124 : Int32 → zI → zL → Option (Int32 × zI × zL)) (v2 : Int32) (I : zI) (L : zL) : Option (Int32 × zI × zL) :=
  if (I 97 15) ≤ v2 then (zlt (zu I 97 30 (1 : Int32)) (fun I17 => zlt (I17 97 39) (fun x18 => some (x18, I17, L)))) else (zlp4 (f_X12_run_134 k124) zF v2 (0 : Int32) I L)
noncomputable def f_X12_run_101 (w1 : Int32) (I : zI) (L : zL) : Option (Int32 × zI × zL) :=
  zlt (zu I 97 0 w1) (fun I13 => if (I13 97 0) ≤ 0 then (zb1 (f_X12_findNets I13) (fun I15 => zlt (zu I15 97 39 (0 : Int32)) (fun I16 => zlp3 (f_X12_run_124) zF (0 : Int32) I16 L))) else (some ((0 : Int32), I13, L)))
noncomputable def f_X12_run_55 (k55 : Int32 → Int32 → zI → zL → Option (Int32 × zI × zL)) (v1 : Int32) (v2 : Int32) (I : zI) (L : zL) : Option (Int32 × zI × zL) :=
  if (I 97 15) ≤ v2 then (zlt (zu I 97 30 (0 : Int32)) (fun I7 => if v1 ≤ (300 : Int32) then (f_X12_run_101 (0 : Int32) I7 L) else (f_X12_run_101 (2 : Int32) I7 L))) else (zck (zbd v2 16) (zlt (I 114 v2.toNatClampNeg) (fun x9 => zck (zbd x9 24) (zlt (v1 + (I 120 x9.toNatClampNeg)) (fun x11 => zlt (v2 + 1) (fun x12 => k55 x11 x12 I L))))))
noncomputable def f_X12_run_27 (k27 : Int32 → zI → zL → Option (Int32 × zI × zL)) (v1 : Int32) (I : zI) (L : zL) : Option (Int32 × zI × zL) :=
  if (I 97 12) ≤ v1 then (zlp4 (f_X12_run_55) zF (0 : Int32) (0 : Int32) I L) else (zb1 (f_X12_make v1 I) (fun I3 => zb1 (f_X12_findShapes v1 I3) (fun I5 => zlt (v1 + 1) (fun x6 => k27 x6 I5 L))))
noncomputable def f_X12_run_13 (w1 : Int32) (I : zI) (L : zL) : Option (Int32 × zI × zL) :=
  zlt (zu I 97 0 w1) (fun I1 => if (I1 97 0) ≤ 0 then (zlp3 (f_X12_run_27) zF (0 : Int32) I1 L) else (some ((0 : Int32), I1, L)))
noncomputable def f_X12_run (I : zI) (L : zL) : Option (Int32 × zI × zL) :=
  if (I 97 11) = 0 then (f_X12_run_13 (1 : Int32) I L) else (f_X12_run_13 (0 : Int32) I L)
set_option maxHeartbeats 4000000 in
set_option maxRecDepth 100000 in
theorem l_X12_run_134 {r : Int32 × zI × zL} (C : zC p l e R s m args below meth c s0 a0 d cy B0 yX12_run.cls cX12_run 4 (some .int) bc bs bc bs 4 101 []) (k124 : Int32 → zI → zL → Option (Int32 × zI × zL)) (hk124 : ∀ (v2 : Int32) (I : zI) (L : zL), k124 v2 I L = some r → zG p l e R s m args below meth c d cy B0 4 bc bs (zQ below s args d cy B0 bc bs (.inl (some (.int r.1))) zSH zKn bc bs r.2.1 r.2.2) 124 [(0, .ref (B0 + 97)), (2, .int v2)] [] zSH zKn bc bs I L) (k134 : Int32 → Int32 → zI → zL → Option (Int32 × zI × zL)) (hk134 : ∀ (v2 : Int32) (v3 : Int32) (I : zI) (L : zL), k134 v2 v3 I L = some r → zG p l e R s m args below meth c d cy B0 4 bc bs (zQ below s args d cy B0 bc bs (.inl (some (.int r.1))) zSH zKn bc bs r.2.1 r.2.2) 134 [(0, .ref (B0 + 97)), (2, .int v2), (3, .int v3)] [] zSH zKn bc bs I L) (v2 : Int32) (v3 : Int32) (I : zI) (L : zL) (h : f_X12_run_134 k124 k134 v2 v3 I L = some r) : zG p l e R s m args below meth c d cy B0 4 bc bs (zQ below s args d cy B0 bc bs (.inl (some (.int r.1))) zSH zKn bc bs r.2.1 r.2.2) 134 [(0, .ref (B0 + 97)), (2, .int v2), (3, .int v3)] [] zSH zKn bc bs I L := by
  unfold f_X12_run_134 at h
  refine z_iload_n C rfl 2 rfl dX12_run_134 ?_
  refine z_aload_n C rfl 0 rfl dX12_run_135 ?_
  refine z_getr C zc_12 dX12_run_136 33 97 120 rfl (by decide) (by decide) q_1202 rfl rfl ?_
  refine z_aload_n C rfl 0 rfl dX12_run_139 ?_
  refine z_getr C zc_12 dX12_run_140 25 97 114 rfl (by decide) (by decide) q_1194 rfl rfl ?_
  refine z_iload_n C rfl 1 rfl dX12_run_143 ?_
  obtain ⟨hb19, h⟩ := zck_e h
  refine z_iaload C dX12_run_144 rfl rfl (by decide) (zbd_in hb19) ?_
  obtain ⟨x20, ex20, h⟩ := zlt_e h
  refine z_eqi C ex20 ?_
  obtain ⟨hb21, h⟩ := zck_e h
  refine z_iaload C dX12_run_145 rfl rfl (by decide) (zbd_in hb21) ?_
  refine z_icmp_ge C 255 (by decide) dX12_run_146 (fun hc => ?_) (fun hc => ?_)
  · have h := zif_t hc h
    obtain ⟨x22, ex22, h⟩ := zlt_e h
    refine z_iinc C (j := 1) (v := x22) (lv' := [(2, .int x22), (0, .ref (B0 + 97)), (3, .int v3)]) rfl (by rw [ex22]; rfl) (by decide) rfl dX12_run_255 ?_
    refine z_goto C 124 (by decide) dX12_run_258 ?_
    refine z_lv [1, 0] (lv' := [(0, .ref (B0 + 97)), (2, .int x22)]) rfl ?_
    exact hk124 x22 I L h
  · have h := zif_f hc h
    refine z_aload_n C rfl 0 rfl dX12_run_149 ?_
    refine z_getr C zc_12 dX12_run_150 40 97 124 rfl (by decide) (by decide) q_1209 rfl rfl ?_
    refine z_aload_n C rfl 0 rfl dX12_run_153 ?_
    refine z_geti C zc_12 dX12_run_154 39 97 rfl (by decide) (by decide) q_1208 rfl ?_
    refine z_iload_n C rfl 1 rfl dX12_run_157 ?_
    obtain ⟨hb23, h⟩ := zck_e h
    refine z_iastore C dX12_run_158 rfl rfl (by decide) (zbd_in hb23) ?_
    obtain ⟨I24, eI24, h⟩ := zlt_e h
    refine z_eqI C eI24 ?_
    refine z_aload_n C rfl 0 rfl dX12_run_159 ?_
    refine z_getr C zc_12 dX12_run_160 41 97 125 rfl (by decide) (by decide) q_1210 rfl rfl ?_
    refine z_aload_n C rfl 0 rfl dX12_run_163 ?_
    refine z_geti C zc_12 dX12_run_164 39 97 rfl (by decide) (by decide) q_1208 rfl ?_
    refine z_iload_n C rfl 2 rfl dX12_run_167 ?_
    obtain ⟨hb25, h⟩ := zck_e h
    refine z_iastore C dX12_run_168 rfl rfl (by decide) (zbd_in hb25) ?_
    obtain ⟨I26, eI26, h⟩ := zlt_e h
    refine z_eqI C eI26 ?_
    refine z_aload_n C rfl 0 rfl dX12_run_169 ?_
    refine z_getr C zc_12 dX12_run_170 43 97 127 rfl (by decide) (by decide) q_1212 rfl rfl ?_
    refine z_aload_n C rfl 0 rfl dX12_run_173 ?_
    refine z_geti C zc_12 dX12_run_174 39 97 rfl (by decide) (by decide) q_1208 rfl ?_
    refine z_iconst C (v := 0) (by decide) dX12_run_177 ?_
    obtain ⟨hb27, h⟩ := zck_e h
    refine z_zastore C dX12_run_178 rfl rfl (by decide) (zbd_in hb27) ?_
    obtain ⟨I28, eI28, h⟩ := zlt_e h
    refine z_eqI C eI28 ?_
    refine z_aload_n C rfl 0 rfl dX12_run_179 ?_
    refine z_getr C zc_12 dX12_run_180 45 97 129 rfl (by decide) (by decide) q_1214 rfl rfl ?_
    refine z_iconst C (v := 3) (by decide) dX12_run_183 ?_
    refine z_aload_n C rfl 0 rfl dX12_run_184 ?_
    refine z_geti C zc_12 dX12_run_185 39 97 rfl (by decide) (by decide) q_1208 rfl ?_
    refine z_imul C dX12_run_188 ?_
    obtain ⟨x29, ex29, h⟩ := zlt_e h
    refine z_eqi C ex29 ?_
    refine z_lconst C (v := 0) (by decide) dX12_run_189 ?_
    obtain ⟨hb30, h⟩ := zck_e h
    refine z_lastore C dX12_run_190 rfl rfl (by decide) (zbd_in hb30) ?_
    obtain ⟨L31, eL31, h⟩ := zlt_e h
    refine z_eqL C eL31 ?_
    refine z_aload_n C rfl 0 rfl dX12_run_191 ?_
    refine z_getr C zc_12 dX12_run_192 45 97 129 rfl (by decide) (by decide) q_1214 rfl rfl ?_
    refine z_iconst C (v := 3) (by decide) dX12_run_195 ?_
    refine z_aload_n C rfl 0 rfl dX12_run_196 ?_
    refine z_geti C zc_12 dX12_run_197 39 97 rfl (by decide) (by decide) q_1208 rfl ?_
    refine z_imul C dX12_run_200 ?_
    obtain ⟨x32, ex32, h⟩ := zlt_e h
    refine z_eqi C ex32 ?_
    refine z_iconst C (v := 1) (by decide) dX12_run_201 ?_
    refine z_iadd C dX12_run_202 ?_
    refine z_lconst C (v := 0) (by decide) dX12_run_203 ?_
    obtain ⟨hb33, h⟩ := zck_e h
    refine z_lastore C dX12_run_204 rfl rfl (by decide) (zbd_in hb33) ?_
    obtain ⟨L34, eL34, h⟩ := zlt_e h
    refine z_eqL C eL34 ?_
    refine z_aload_n C rfl 0 rfl dX12_run_205 ?_
    refine z_getr C zc_12 dX12_run_206 45 97 129 rfl (by decide) (by decide) q_1214 rfl rfl ?_
    refine z_iconst C (v := 3) (by decide) dX12_run_209 ?_
    refine z_aload_n C rfl 0 rfl dX12_run_210 ?_
    refine z_geti C zc_12 dX12_run_211 39 97 rfl (by decide) (by decide) q_1208 rfl ?_
    refine z_imul C dX12_run_214 ?_
    obtain ⟨x35, ex35, h⟩ := zlt_e h
    refine z_eqi C ex35 ?_
    refine z_iconst C (v := 2) (by decide) dX12_run_215 ?_
    refine z_iadd C dX12_run_216 ?_
    refine z_lconst C (v := 0) (by decide) dX12_run_217 ?_
    obtain ⟨hb36, h⟩ := zck_e h
    refine z_lastore C dX12_run_218 rfl rfl (by decide) (zbd_in hb36) ?_
    obtain ⟨L37, eL37, h⟩ := zlt_e h
    refine z_eqL C eL37 ?_
    refine z_aload_n C rfl 0 rfl dX12_run_219 ?_
    refine z_aload_n C rfl 0 rfl dX12_run_220 ?_
    refine z_geti C zc_12 dX12_run_221 39 97 rfl (by decide) (by decide) q_1208 rfl ?_
    refine z_iload_n C rfl 1 rfl dX12_run_224 ?_
    refine z_iload_n C rfl 2 rfl dX12_run_225 ?_
    obtain ⟨I39, hg38, h⟩ := zb1_e h
    refine z_callV C zc_12 rfl (by decide) dX12_run_226 yy_X12_findPins (c_X12_findPins C.2.2.2.2.1  (I28 97 39) v2 v3 I28 L37 hg38) q_1489 q_1491 q_67 (by decide) (by decide) rfl rfl (Nat.le_of_ble_eq_true rfl) ⟨Nat.le_refl _, Nat.le_refl _, Nat.le_refl _, Nat.le_refl _⟩ ?_
    refine z_aload_n C rfl 0 rfl dX12_run_229 ?_
    refine z_aload_n C rfl 0 rfl dX12_run_230 ?_
    refine z_geti C zc_12 dX12_run_231 39 97 rfl (by decide) (by decide) q_1208 rfl ?_
    refine z_iload_n C rfl 1 rfl dX12_run_234 ?_
    refine z_iload_n C rfl 2 rfl dX12_run_235 ?_
    obtain ⟨I41, L42, hg40, h⟩ := zb2_e h
    refine z_callV C zc_12 rfl (by decide) dX12_run_236 yy_X12_measure (c_X12_measure C.2.2.2.2.1  (I39 97 39) v2 v3 I39 L37 hg40) q_1501 q_1503 q_70 (by decide) (by decide) rfl rfl (Nat.le_of_ble_eq_true rfl) ⟨Nat.le_refl _, Nat.le_refl _, Nat.le_refl _, Nat.le_refl _⟩ ?_
    refine z_aload_n C rfl 0 rfl dX12_run_239 ?_
    refine z_dup C rfl dX12_run_240 ?_
    refine z_geti C zc_12 dX12_run_241 39 97 rfl (by decide) (by decide) q_1208 rfl ?_
    refine z_iconst C (v := 1) (by decide) dX12_run_244 ?_
    refine z_iadd C dX12_run_245 ?_
    obtain ⟨x43, ex43, h⟩ := zlt_e h
    refine z_eqi C ex43 ?_
    refine z_puti C zc_12 dX12_run_246 39 97 rfl (by decide) (by decide) rfl q_1208 rfl rfl rfl ?_
    obtain ⟨I44, eI44, h⟩ := zlt_e h
    refine z_eqI C eI44 ?_
    obtain ⟨x45, ex45, h⟩ := zlt_e h
    refine z_iinc C (j := 2) (v := x45) (lv' := [(3, .int x45), (0, .ref (B0 + 97)), (2, .int v2)]) rfl (by rw [ex45]; rfl) (by decide) rfl dX12_run_249 ?_
    refine z_goto C 134 (by decide) dX12_run_252 ?_
    refine z_lv [1, 2, 0] (lv' := [(0, .ref (B0 + 97)), (2, .int v2), (3, .int x45)]) rfl ?_
    exact hk134 v2 x45 I44 L42 h
set_option maxHeartbeats 4000000 in
set_option maxRecDepth 100000 in
theorem L_X12_run_134 {r : Int32 × zI × zL} (C : zC p l e R s m args below meth c s0 a0 d cy B0 yX12_run.cls cX12_run 4 (some .int) bc bs bc bs 4 101 []) (k124 : Int32 → zI → zL → Option (Int32 × zI × zL)) (hk124 : ∀ (v2 : Int32) (I : zI) (L : zL), k124 v2 I L = some r → zG p l e R s m args below meth c d cy B0 4 bc bs (zQ below s args d cy B0 bc bs (.inl (some (.int r.1))) zSH zKn bc bs r.2.1 r.2.2) 124 [(0, .ref (B0 + 97)), (2, .int v2)] [] zSH zKn bc bs I L) (v2 : Int32) (v3 : Int32) (I : zI) (L : zL) (h : zlp4 (f_X12_run_134 k124) zF v2 v3 I L = some r) : zG p l e R s m args below meth c d cy B0 4 bc bs (zQ below s args d cy B0 bc bs (.inl (some (.int r.1))) zSH zKn bc bs r.2.1 r.2.2) 134 [(0, .ref (B0 + 97)), (2, .int v2), (3, .int v3)] [] zSH zKn bc bs I L :=
 zlp4_e (fun (v2 : Int32) (v3 : Int32) (I : zI) (L : zL) => zG p l e R s m args below meth c d cy B0 4 bc bs (zQ below s args d cy B0 bc bs (.inl (some (.int r.1))) zSH zKn bc bs r.2.1 r.2.2) 134 [(0, .ref (B0 + 97)), (2, .int v2), (3, .int v3)] [] zSH zKn bc bs I L) (fun k9 hk9 v2 v3 I L h => l_X12_run_134 C k124 hk124 k9 hk9 v2 v3 I L h) zF v2 v3 I L h
set_option maxHeartbeats 4000000 in
set_option maxRecDepth 100000 in
theorem l_X12_run_124 {r : Int32 × zI × zL} (C : zC p l e R s m args below meth c s0 a0 d cy B0 yX12_run.cls cX12_run 4 (some .int) bc bs bc bs 4 101 []) (k124 : Int32 → zI → zL → Option (Int32 × zI × zL)) (hk124 : ∀ (v2 : Int32) (I : zI) (L : zL), k124 v2 I L = some r → zG p l e R s m args below meth c d cy B0 4 bc bs (zQ below s args d cy B0 bc bs (.inl (some (.int r.1))) zSH zKn bc bs r.2.1 r.2.2) 124 [(0, .ref (B0 + 97)), (2, .int v2)] [] zSH zKn bc bs I L) (v2 : Int32) (I : zI) (L : zL) (h : f_X12_run_124 k124 v2 I L = some r) : zG p l e R s m args below meth c d cy B0 4 bc bs (zQ below s args d cy B0 bc bs (.inl (some (.int r.1))) zSH zKn bc bs r.2.1 r.2.2) 124 [(0, .ref (B0 + 97)), (2, .int v2)] [] zSH zKn bc bs I L := by
  unfold f_X12_run_124 at h
  refine z_iload_n C rfl 1 rfl dX12_run_124 ?_
  refine z_aload_n C rfl 0 rfl dX12_run_125 ?_
  refine z_geti C zc_12 dX12_run_126 15 97 rfl (by decide) (by decide) q_1184 rfl ?_
  refine z_icmp_ge C 261 (by decide) dX12_run_129 (fun hc => ?_) (fun hc => ?_)
  · have h := zif_t hc h
    refine z_aload_n C rfl 0 rfl dX12_run_261 ?_
    refine z_iconst C (v := 1) (by decide) dX12_run_262 ?_
    refine z_puti C zc_12 dX12_run_263 30 97 rfl (by decide) (by decide) rfl q_1199 rfl rfl rfl ?_
    obtain ⟨I17, eI17, h⟩ := zlt_e h
    refine z_eqI C eI17 ?_
    refine z_aload_n C rfl 0 rfl dX12_run_266 ?_
    refine z_geti C zc_12 dX12_run_267 39 97 rfl (by decide) (by decide) q_1208 rfl ?_
    obtain ⟨x18, ex18, h⟩ := zlt_e h
    refine z_eqi C ex18 ?_
    obtain rfl := Option.some.inj h
    exact z_iret C dX12_run_270 .int rfl rfl rfl
  · have h := zif_f hc h
    refine z_iconst C (v := 0) (by decide) dX12_run_132 ?_
    refine z_istore_n C (lv' := [(3, .int (0 : Int32)), (0, .ref (B0 + 97)), (2, .int v2)]) rfl (by decide) rfl dX12_run_133 ?_
    refine z_lv [1, 2, 0] (lv' := [(0, .ref (B0 + 97)), (2, .int v2), (3, .int (0 : Int32))]) rfl ?_
    exact L_X12_run_134 C k124 hk124 v2 (0 : Int32) I L h
set_option maxHeartbeats 4000000 in
set_option maxRecDepth 100000 in
theorem L_X12_run_124 {r : Int32 × zI × zL} (C : zC p l e R s m args below meth c s0 a0 d cy B0 yX12_run.cls cX12_run 4 (some .int) bc bs bc bs 4 101 []) (v2 : Int32) (I : zI) (L : zL) (h : zlp3 (f_X12_run_124) zF v2 I L = some r) : zG p l e R s m args below meth c d cy B0 4 bc bs (zQ below s args d cy B0 bc bs (.inl (some (.int r.1))) zSH zKn bc bs r.2.1 r.2.2) 124 [(0, .ref (B0 + 97)), (2, .int v2)] [] zSH zKn bc bs I L :=
 zlp3_e (fun (v2 : Int32) (I : zI) (L : zL) => zG p l e R s m args below meth c d cy B0 4 bc bs (zQ below s args d cy B0 bc bs (.inl (some (.int r.1))) zSH zKn bc bs r.2.1 r.2.2) 124 [(0, .ref (B0 + 97)), (2, .int v2)] [] zSH zKn bc bs I L) (fun k9 hk9 v2 I L h => l_X12_run_124 C k9 hk9 v2 I L h) zF v2 I L h
set_option maxHeartbeats 4000000 in
set_option maxRecDepth 100000 in
theorem l_X12_run_101 {r : Int32 × zI × zL} (C : zC p l e R s m args below meth c s0 a0 d cy B0 yX12_run.cls cX12_run 4 (some .int) bc bs bc bs 4 101 []) (w1 : Int32) (I : zI) (L : zL) (h : f_X12_run_101 w1 I L = some r) : zG p l e R s m args below meth c d cy B0 4 bc bs (zQ below s args d cy B0 bc bs (.inl (some (.int r.1))) zSH zKn bc bs r.2.1 r.2.2) 101 [(0, .ref (B0 + 97))] [.int w1, .ref (B0 + 97)] zSH zKn bc bs I L := by
  unfold f_X12_run_101 at h
  refine z_puti C zc_12 dX12_run_101 0 97 rfl (by decide) (by decide) rfl q_1169 rfl rfl rfl ?_
  obtain ⟨I13, eI13, h⟩ := zlt_e h
  refine z_eqI C eI13 ?_
  refine z_aload_n C rfl 0 rfl dX12_run_104 ?_
  refine z_geti C zc_12 dX12_run_105 0 97 rfl (by decide) (by decide) q_1169 rfl ?_
  refine z_if_le C 113 (by decide) dX12_run_108 (fun hc => ?_) (fun hc => ?_)
  · have h := zif_t hc h
    refine z_aload_n C rfl 0 rfl dX12_run_113 ?_
    obtain ⟨I15, hg14, h⟩ := zb1_e h
    refine z_callV C zc_12 rfl (by decide) dX12_run_114 yy_X12_findNets (c_X12_findNets C.2.2.2.2.1  I13 L hg14) q_1476 q_1478 q_64 (by decide) (by decide) rfl rfl (Nat.le_of_ble_eq_true rfl) ⟨Nat.le_refl _, Nat.le_refl _, Nat.le_refl _, Nat.le_refl _⟩ ?_
    refine z_aload_n C rfl 0 rfl dX12_run_117 ?_
    refine z_iconst C (v := 0) (by decide) dX12_run_118 ?_
    refine z_puti C zc_12 dX12_run_119 39 97 rfl (by decide) (by decide) rfl q_1208 rfl rfl rfl ?_
    obtain ⟨I16, eI16, h⟩ := zlt_e h
    refine z_eqI C eI16 ?_
    refine z_iconst C (v := 0) (by decide) dX12_run_122 ?_
    refine z_istore_n C (lv' := [(2, .int (0 : Int32)), (0, .ref (B0 + 97))]) rfl (by decide) rfl dX12_run_123 ?_
    refine z_lv [1, 0] (lv' := [(0, .ref (B0 + 97)), (2, .int (0 : Int32))]) rfl ?_
    exact L_X12_run_124 C  (0 : Int32) I16 L h
  · have h := zif_f hc h
    refine z_iconst C (v := 0) (by decide) dX12_run_111 ?_
    obtain rfl := Option.some.inj h
    exact z_iret C dX12_run_112 .int rfl rfl rfl
set_option maxHeartbeats 4000000 in
set_option maxRecDepth 100000 in
theorem l_X12_run_55 {r : Int32 × zI × zL} (C : zC p l e R s m args below meth c s0 a0 d cy B0 yX12_run.cls cX12_run 4 (some .int) bc bs bc bs 4 101 []) (k55 : Int32 → Int32 → zI → zL → Option (Int32 × zI × zL)) (hk55 : ∀ (v1 : Int32) (v2 : Int32) (I : zI) (L : zL), k55 v1 v2 I L = some r → zG p l e R s m args below meth c d cy B0 4 bc bs (zQ below s args d cy B0 bc bs (.inl (some (.int r.1))) zSH zKn bc bs r.2.1 r.2.2) 55 [(0, .ref (B0 + 97)), (1, .int v1), (2, .int v2)] [] zSH zKn bc bs I L) (v1 : Int32) (v2 : Int32) (I : zI) (L : zL) (h : f_X12_run_55 k55 v1 v2 I L = some r) : zG p l e R s m args below meth c d cy B0 4 bc bs (zQ below s args d cy B0 bc bs (.inl (some (.int r.1))) zSH zKn bc bs r.2.1 r.2.2) 55 [(0, .ref (B0 + 97)), (1, .int v1), (2, .int v2)] [] zSH zKn bc bs I L := by
  unfold f_X12_run_55 at h
  refine z_iload_n C rfl 2 rfl dX12_run_55 ?_
  refine z_aload_n C rfl 0 rfl dX12_run_56 ?_
  refine z_geti C zc_12 dX12_run_57 15 97 rfl (by decide) (by decide) q_1184 rfl ?_
  refine z_icmp_ge C 83 (by decide) dX12_run_60 (fun hc => ?_) (fun hc => ?_)
  · have h := zif_t hc h
    refine z_aload_n C rfl 0 rfl dX12_run_83 ?_
    refine z_iconst C (v := 0) (by decide) dX12_run_84 ?_
    refine z_puti C zc_12 dX12_run_85 30 97 rfl (by decide) (by decide) rfl q_1199 rfl rfl rfl ?_
    obtain ⟨I7, eI7, h⟩ := zlt_e h
    refine z_eqI C eI7 ?_
    refine z_aload_n C rfl 0 rfl dX12_run_88 ?_
    refine z_iload_n C rfl 1 rfl dX12_run_89 ?_
    refine z_sipush C (v := 300) (by decide) dX12_run_90 ?_
    refine z_icmp_le C 100 (by decide) dX12_run_93 (fun hc => ?_) (fun hc => ?_)
    · have h := zif_t hc h
      refine z_iconst C (v := 0) (by decide) dX12_run_100 ?_
      refine z_lv [0] (lv' := [(0, .ref (B0 + 97))]) rfl ?_
      exact l_X12_run_101 C  (0 : Int32) I7 L h
    · have h := zif_f hc h
      refine z_iconst C (v := 2) (by decide) dX12_run_96 ?_
      refine z_goto C 101 (by decide) dX12_run_97 ?_
      refine z_lv [0] (lv' := [(0, .ref (B0 + 97))]) rfl ?_
      exact l_X12_run_101 C  (2 : Int32) I7 L h
  · have h := zif_f hc h
    refine z_iload_n C rfl 1 rfl dX12_run_63 ?_
    refine z_aload_n C rfl 0 rfl dX12_run_64 ?_
    refine z_getr C zc_12 dX12_run_65 33 97 120 rfl (by decide) (by decide) q_1202 rfl rfl ?_
    refine z_aload_n C rfl 0 rfl dX12_run_68 ?_
    refine z_getr C zc_12 dX12_run_69 25 97 114 rfl (by decide) (by decide) q_1194 rfl rfl ?_
    refine z_iload_n C rfl 2 rfl dX12_run_72 ?_
    obtain ⟨hb8, h⟩ := zck_e h
    refine z_iaload C dX12_run_73 rfl rfl (by decide) (zbd_in hb8) ?_
    obtain ⟨x9, ex9, h⟩ := zlt_e h
    refine z_eqi C ex9 ?_
    obtain ⟨hb10, h⟩ := zck_e h
    refine z_iaload C dX12_run_74 rfl rfl (by decide) (zbd_in hb10) ?_
    refine z_iadd C dX12_run_75 ?_
    obtain ⟨x11, ex11, h⟩ := zlt_e h
    refine z_eqi C ex11 ?_
    refine z_istore_n C (lv' := [(1, .int x11), (0, .ref (B0 + 97)), (2, .int v2)]) rfl (by decide) rfl dX12_run_76 ?_
    obtain ⟨x12, ex12, h⟩ := zlt_e h
    refine z_iinc C (j := 2) (v := x12) (lv' := [(2, .int x12), (1, .int x11), (0, .ref (B0 + 97))]) rfl (by rw [ex12]; rfl) (by decide) rfl dX12_run_77 ?_
    refine z_goto C 55 (by decide) dX12_run_80 ?_
    refine z_lv [2, 1, 0] (lv' := [(0, .ref (B0 + 97)), (1, .int x11), (2, .int x12)]) rfl ?_
    exact hk55 x11 x12 I L h
set_option maxHeartbeats 4000000 in
set_option maxRecDepth 100000 in
theorem L_X12_run_55 {r : Int32 × zI × zL} (C : zC p l e R s m args below meth c s0 a0 d cy B0 yX12_run.cls cX12_run 4 (some .int) bc bs bc bs 4 101 []) (v1 : Int32) (v2 : Int32) (I : zI) (L : zL) (h : zlp4 (f_X12_run_55) zF v1 v2 I L = some r) : zG p l e R s m args below meth c d cy B0 4 bc bs (zQ below s args d cy B0 bc bs (.inl (some (.int r.1))) zSH zKn bc bs r.2.1 r.2.2) 55 [(0, .ref (B0 + 97)), (1, .int v1), (2, .int v2)] [] zSH zKn bc bs I L :=
 zlp4_e (fun (v1 : Int32) (v2 : Int32) (I : zI) (L : zL) => zG p l e R s m args below meth c d cy B0 4 bc bs (zQ below s args d cy B0 bc bs (.inl (some (.int r.1))) zSH zKn bc bs r.2.1 r.2.2) 55 [(0, .ref (B0 + 97)), (1, .int v1), (2, .int v2)] [] zSH zKn bc bs I L) (fun k9 hk9 v1 v2 I L h => l_X12_run_55 C k9 hk9 v1 v2 I L h) zF v1 v2 I L h
set_option maxHeartbeats 4000000 in
set_option maxRecDepth 100000 in
theorem l_X12_run_27 {r : Int32 × zI × zL} (C : zC p l e R s m args below meth c s0 a0 d cy B0 yX12_run.cls cX12_run 4 (some .int) bc bs bc bs 4 101 []) (k27 : Int32 → zI → zL → Option (Int32 × zI × zL)) (hk27 : ∀ (v1 : Int32) (I : zI) (L : zL), k27 v1 I L = some r → zG p l e R s m args below meth c d cy B0 4 bc bs (zQ below s args d cy B0 bc bs (.inl (some (.int r.1))) zSH zKn bc bs r.2.1 r.2.2) 27 [(0, .ref (B0 + 97)), (1, .int v1)] [] zSH zKn bc bs I L) (v1 : Int32) (I : zI) (L : zL) (h : f_X12_run_27 k27 v1 I L = some r) : zG p l e R s m args below meth c d cy B0 4 bc bs (zQ below s args d cy B0 bc bs (.inl (some (.int r.1))) zSH zKn bc bs r.2.1 r.2.2) 27 [(0, .ref (B0 + 97)), (1, .int v1)] [] zSH zKn bc bs I L := by
  unfold f_X12_run_27 at h
  refine z_iload_n C rfl 1 rfl dX12_run_27 ?_
  refine z_aload_n C rfl 0 rfl dX12_run_28 ?_
  refine z_geti C zc_12 dX12_run_29 12 97 rfl (by decide) (by decide) q_1181 rfl ?_
  refine z_icmp_ge C 51 (by decide) dX12_run_32 (fun hc => ?_) (fun hc => ?_)
  · have h := zif_t hc h
    refine z_iconst C (v := 0) (by decide) dX12_run_51 ?_
    refine z_istore_n C (lv' := [(1, .int (0 : Int32)), (0, .ref (B0 + 97))]) rfl (by decide) rfl dX12_run_52 ?_
    refine z_iconst C (v := 0) (by decide) dX12_run_53 ?_
    refine z_istore_n C (lv' := [(2, .int (0 : Int32)), (1, .int (0 : Int32)), (0, .ref (B0 + 97))]) rfl (by decide) rfl dX12_run_54 ?_
    refine z_lv [2, 1, 0] (lv' := [(0, .ref (B0 + 97)), (1, .int (0 : Int32)), (2, .int (0 : Int32))]) rfl ?_
    exact L_X12_run_55 C  (0 : Int32) (0 : Int32) I L h
  · have h := zif_f hc h
    refine z_aload_n C rfl 0 rfl dX12_run_35 ?_
    refine z_iload_n C rfl 1 rfl dX12_run_36 ?_
    obtain ⟨I3, hg2, h⟩ := zb1_e h
    refine z_callV C zc_12 rfl (by decide) dX12_run_37 yy_X12_make (c_X12_make C.2.2.2.2.1  v1 I L hg2) q_1453 q_1455 q_59 (by decide) (by decide) rfl rfl (Nat.le_of_ble_eq_true rfl) ⟨Nat.le_refl _, Nat.le_refl _, Nat.le_refl _, Nat.le_refl _⟩ ?_
    refine z_aload_n C rfl 0 rfl dX12_run_40 ?_
    refine z_iload_n C rfl 1 rfl dX12_run_41 ?_
    obtain ⟨I5, hg4, h⟩ := zb1_e h
    refine z_callV C zc_12 rfl (by decide) dX12_run_42 yy_X12_findShapes (c_X12_findShapes C.2.2.2.2.1  v1 I3 L hg4) q_1465 q_1467 q_62 (by decide) (by decide) rfl rfl (Nat.le_of_ble_eq_true rfl) ⟨Nat.le_refl _, Nat.le_refl _, Nat.le_refl _, Nat.le_refl _⟩ ?_
    obtain ⟨x6, ex6, h⟩ := zlt_e h
    refine z_iinc C (j := 1) (v := x6) (lv' := [(1, .int x6), (0, .ref (B0 + 97))]) rfl (by rw [ex6]; rfl) (by decide) rfl dX12_run_45 ?_
    refine z_goto C 27 (by decide) dX12_run_48 ?_
    refine z_lv [1, 0] (lv' := [(0, .ref (B0 + 97)), (1, .int x6)]) rfl ?_
    exact hk27 x6 I5 L h
set_option maxHeartbeats 4000000 in
set_option maxRecDepth 100000 in
theorem L_X12_run_27 {r : Int32 × zI × zL} (C : zC p l e R s m args below meth c s0 a0 d cy B0 yX12_run.cls cX12_run 4 (some .int) bc bs bc bs 4 101 []) (v1 : Int32) (I : zI) (L : zL) (h : zlp3 (f_X12_run_27) zF v1 I L = some r) : zG p l e R s m args below meth c d cy B0 4 bc bs (zQ below s args d cy B0 bc bs (.inl (some (.int r.1))) zSH zKn bc bs r.2.1 r.2.2) 27 [(0, .ref (B0 + 97)), (1, .int v1)] [] zSH zKn bc bs I L :=
 zlp3_e (fun (v1 : Int32) (I : zI) (L : zL) => zG p l e R s m args below meth c d cy B0 4 bc bs (zQ below s args d cy B0 bc bs (.inl (some (.int r.1))) zSH zKn bc bs r.2.1 r.2.2) 27 [(0, .ref (B0 + 97)), (1, .int v1)] [] zSH zKn bc bs I L) (fun k9 hk9 v1 I L h => l_X12_run_27 C k9 hk9 v1 I L h) zF v1 I L h
set_option maxHeartbeats 4000000 in
set_option maxRecDepth 100000 in
theorem l_X12_run_13 {r : Int32 × zI × zL} (C : zC p l e R s m args below meth c s0 a0 d cy B0 yX12_run.cls cX12_run 4 (some .int) bc bs bc bs 4 101 []) (w1 : Int32) (I : zI) (L : zL) (h : f_X12_run_13 w1 I L = some r) : zG p l e R s m args below meth c d cy B0 4 bc bs (zQ below s args d cy B0 bc bs (.inl (some (.int r.1))) zSH zKn bc bs r.2.1 r.2.2) 13 [(0, .ref (B0 + 97))] [.int w1, .ref (B0 + 97)] zSH zKn bc bs I L := by
  unfold f_X12_run_13 at h
  refine z_puti C zc_12 dX12_run_13 0 97 rfl (by decide) (by decide) rfl q_1169 rfl rfl rfl ?_
  obtain ⟨I1, eI1, h⟩ := zlt_e h
  refine z_eqI C eI1 ?_
  refine z_aload_n C rfl 0 rfl dX12_run_16 ?_
  refine z_geti C zc_12 dX12_run_17 0 97 rfl (by decide) (by decide) q_1169 rfl ?_
  refine z_if_le C 25 (by decide) dX12_run_20 (fun hc => ?_) (fun hc => ?_)
  · have h := zif_t hc h
    refine z_iconst C (v := 0) (by decide) dX12_run_25 ?_
    refine z_istore_n C (lv' := [(1, .int (0 : Int32)), (0, .ref (B0 + 97))]) rfl (by decide) rfl dX12_run_26 ?_
    refine z_lv [1, 0] (lv' := [(0, .ref (B0 + 97)), (1, .int (0 : Int32))]) rfl ?_
    exact L_X12_run_27 C  (0 : Int32) I1 L h
  · have h := zif_f hc h
    refine z_iconst C (v := 0) (by decide) dX12_run_23 ?_
    obtain rfl := Option.some.inj h
    exact z_iret C dX12_run_24 .int rfl rfl rfl
set_option maxHeartbeats 4000000 in
set_option maxRecDepth 100000 in
theorem c_X12_run {r : Int32 × zI × zL} (hE : zE0 l s0 a0 d cy B0) (I : zI) (L : zL) (h : f_X12_run I L = some r) : zM l s0 d cy B0 yX12_run cX12_run 4 (some .int) 4 101 [.ref (B0 + 97)] zSH zKn bc bs I L (.inl (some (.int r.1))) zSH zKn bc bs r.2.1 r.2.2 := by
  refine z_meth yy_X12_run hE (Nat.le_of_ble_eq_true rfl) (fun p e R s m args below meth c C => ?_)
  show zG p l e R s m args below meth c d cy B0 4 bc bs (zQ below s args d cy B0 bc bs (.inl (some (.int r.1))) zSH zKn bc bs r.2.1 r.2.2) 0 [(0, .ref (B0 + 97))] [] zSH zKn bc bs I L
  unfold f_X12_run at h
  refine z_aload_n C rfl 0 rfl dX12_run_0 ?_
  refine z_aload_n C rfl 0 rfl dX12_run_1 ?_
  refine z_geti C zc_12 dX12_run_2 11 97 rfl (by decide) (by decide) q_1180 rfl ?_
  refine z_if_eq C 12 (by decide) dX12_run_5 (fun hc => ?_) (fun hc => ?_)
  · have h := zif_t hc h
    refine z_iconst C (v := 1) (by decide) dX12_run_12 ?_
    exact l_X12_run_13 C  (1 : Int32) I L h
  · have h := zif_f hc h
    refine z_iconst C (v := 0) (by decide) dX12_run_8 ?_
    refine z_goto C 13 (by decide) dX12_run_9 ?_
    exact l_X12_run_13 C  (0 : Int32) I L h
theorem q_1512 : (Cond.code ({ cls := "DeviceFindModel", name := "isDevice", desc := "(I)Z" } : Jvm.MethodName) prog_14_method_43_code (2 : Nat) (Option.some Jvm.ClassFile.FieldType.boolean)) ∈ lw_tbl := List.mem_of_getElem? (i := 1512) (by decide +kernel)
theorem yy_X12_isDevice : zY yX12_isDevice cX12_isDevice 2 (some .boolean) 1 := ⟨q_1512, q_88, by decide +kernel, by decide +kernel, by decide +kernel⟩
noncomputable def f_X12_isDevice_17 (w0 : Int32) (I : zI) : Option Int32 :=
  zck (zbo w0) (some w0)
noncomputable def f_X12_isDevice_16 (I : zI) : Option Int32 :=
  f_X12_isDevice_17 (0 : Int32) I
noncomputable def f_X12_isDevice (a1 : Int32) (I : zI) : Option Int32 :=
  if a1 < 0 then (f_X12_isDevice_16 I) else (if (I 97 39) ≤ a1 then (f_X12_isDevice_16 I) else (f_X12_isDevice_17 (1 : Int32) I))
set_option maxHeartbeats 4000000 in
set_option maxRecDepth 100000 in
theorem l_X12_isDevice_17 {r : Int32} (C : zC p l e R s m args below meth c s0 a0 d cy B0 yX12_isDevice.cls cX12_isDevice 2 (some .boolean) bc bs bc bs 0 0 []) (L : zL) (w0 : Int32) (I : zI) (h : f_X12_isDevice_17 w0 I = some r) : zG p l e R s m args below meth c d cy B0 2 bc bs (zQ below s args d cy B0 bc bs (.inl (some (.int r))) zSH zKn bc bs I L) 17 [] [.int w0] zSH zKn bc bs I L := by
  unfold f_X12_isDevice_17 at h
  obtain ⟨hb1, h⟩ := zck_e h
  obtain rfl := Option.some.inj h
  exact z_iret C dX12_isDevice_17 .boolean rfl (zbo_n hb1).1 rfl
set_option maxHeartbeats 4000000 in
set_option maxRecDepth 100000 in
theorem l_X12_isDevice_16 {r : Int32} (C : zC p l e R s m args below meth c s0 a0 d cy B0 yX12_isDevice.cls cX12_isDevice 2 (some .boolean) bc bs bc bs 0 0 []) (L : zL) (I : zI) (h : f_X12_isDevice_16 I = some r) : zG p l e R s m args below meth c d cy B0 2 bc bs (zQ below s args d cy B0 bc bs (.inl (some (.int r))) zSH zKn bc bs I L) 16 [] [] zSH zKn bc bs I L := by
  unfold f_X12_isDevice_16 at h
  refine z_iconst C (v := 0) (by decide) dX12_isDevice_16 ?_
  exact l_X12_isDevice_17 C L (0 : Int32) I h
set_option maxHeartbeats 4000000 in
set_option maxRecDepth 100000 in
theorem c_X12_isDevice {r : Int32} (hE : zE0 l s0 a0 d cy B0) (a1 : Int32) (I : zI) (L : zL) (h : f_X12_isDevice a1 I = some r) : zM l s0 d cy B0 yX12_isDevice cX12_isDevice 2 (some .boolean) 0 0 [.ref (B0 + 97), .int a1] zSH zKn bc bs I L (.inl (some (.int r))) zSH zKn bc bs I L := by
  refine z_meth yy_X12_isDevice hE (Nat.le_of_ble_eq_true rfl) (fun p e R s m args below meth c C => ?_)
  show zG p l e R s m args below meth c d cy B0 2 bc bs (zQ below s args d cy B0 bc bs (.inl (some (.int r))) zSH zKn bc bs I L) 0 [(0, .ref (B0 + 97)), (1, .int a1)] [] zSH zKn bc bs I L
  unfold f_X12_isDevice at h
  refine z_iload_n C rfl 1 rfl dX12_isDevice_0 ?_
  refine z_if_lt C 16 (by decide) dX12_isDevice_1 (fun hc => ?_) (fun hc => ?_)
  · have h := zif_t hc h
    refine z_lv [] (lv' := []) rfl ?_
    exact l_X12_isDevice_16 C L I h
  · have h := zif_f hc h
    refine z_iload_n C rfl 1 rfl dX12_isDevice_4 ?_
    refine z_aload_n C rfl 0 rfl dX12_isDevice_5 ?_
    refine z_geti C zc_12 dX12_isDevice_6 39 97 rfl (by decide) (by decide) q_1208 rfl ?_
    refine z_icmp_ge C 16 (by decide) dX12_isDevice_9 (fun hc => ?_) (fun hc => ?_)
    · have h := zif_t hc h
      refine z_lv [] (lv' := []) rfl ?_
      exact l_X12_isDevice_16 C L I h
    · have h := zif_f hc h
      refine z_iconst C (v := 1) (by decide) dX12_isDevice_12 ?_
      refine z_goto C 17 (by decide) dX12_isDevice_13 ?_
      refine z_lv [] (lv' := []) rfl ?_
      exact l_X12_isDevice_17 C L (1 : Int32) I h
theorem q_71 : Cond.selects "DeviceFindModel" ⟨"DeviceFindModel", "isDevice", "(I)Z"⟩ ⟨"DeviceFindModel", "isDevice", "(I)Z"⟩ ∈ lw_tbl := List.mem_of_getElem? (i := 71) (by decide +kernel)
theorem q_1508 : (Cond.code ({ cls := "DeviceFindModel", name := "device", desc := "(II)I" } : Jvm.MethodName) prog_14_method_44_code (3 : Nat) (Option.some Jvm.ClassFile.FieldType.int)) ∈ lw_tbl := List.mem_of_getElem? (i := 1508) (by decide +kernel)
theorem q_1509 : (Cond.methodLink "DeviceFindModel" (305 : Nat) ({ cls := "DeviceFindModel", name := "isDevice", desc := "(I)Z" } : Jvm.MethodName)) ∈ lw_tbl := List.mem_of_getElem? (i := 1509) (by decide +kernel)
theorem q_1511 : (Cond.instanceMethod ({ cls := "DeviceFindModel", name := "isDevice", desc := "(I)Z" } : Jvm.MethodName)) ∈ lw_tbl := List.mem_of_getElem? (i := 1511) (by decide +kernel)
theorem yy_X12_device : zY yX12_device cX12_device 3 (some .int) 2 := ⟨q_1508, q_88, by decide +kernel, by decide +kernel, by decide +kernel⟩
noncomputable def f_X12_device_125 (w0 : Int32) (I : zI) : Option (Int32 × zI) :=
  some (w0, I)
noncomputable def f_X12_device_38 (v1 : Int32) (v2 : Int32) (w1 : Int32) (I : zI) : Option (Int32 × zI) :=
  zlt (zu I 97 0 w1) (fun I3 => if (I3 97 0) ≤ 0 then (if v2 = 0 then (zck (zbd v1 300) (f_X12_device_125 (I3 124 v1.toNatClampNeg) I3)) else (if v2 = (1 : Int32) then (zck (zbd v1 300) (f_X12_device_125 (I3 125 v1.toNatClampNeg) I3)) else (if v2 = (2 : Int32) then (zck (zbd v1 300) (if (I3 127 v1.toNatClampNeg) = 0 then (f_X12_device_125 (0 : Int32) I3) else (f_X12_device_125 (1 : Int32) I3))) else (if v2 = (3 : Int32) then (zck (zbd v1 300) (zlt ((I3 126 v1.toNatClampNeg) - (I3 126 v1.toNatClampNeg) / (64 : Int32) * (64 : Int32)) (fun x9 => f_X12_device_125 x9 I3))) else (zck (zbd v1 300) (zlt ((I3 126 v1.toNatClampNeg) / (64 : Int32)) (fun x6 => f_X12_device_125 x6 I3))))))) else (some ((0 : Int32), I3)))
noncomputable def f_X12_device_10 (v1 : Int32) (v2 : Int32) (I : zI) : Option (Int32 × zI) :=
  f_X12_device_38 v1 v2 (1 : Int32) I
noncomputable def f_X12_device (a1 : Int32) (a2 : Int32) (I : zI) : Option (Int32 × zI) :=
  if a2 < 0 then (f_X12_device_10 a1 a2 I) else (if a2 ≤ (4 : Int32) then (if (I 97 30) = 0 then (f_X12_device_38 a1 a2 (2 : Int32) I) else (zb1 (f_X12_isDevice a1 I) (fun x2 => if x2 = 0 then (f_X12_device_38 a1 a2 (1 : Int32) I) else (f_X12_device_38 a1 a2 (0 : Int32) I)))) else (f_X12_device_10 a1 a2 I))
set_option maxHeartbeats 4000000 in
set_option maxRecDepth 100000 in
theorem l_X12_device_125 {r : Int32 × zI} (C : zC p l e R s m args below meth c s0 a0 d cy B0 yX12_device.cls cX12_device 3 (some .int) bc bs bc bs 1 21 []) (L : zL) (w0 : Int32) (I : zI) (h : f_X12_device_125 w0 I = some r) : zG p l e R s m args below meth c d cy B0 3 bc bs (zQ below s args d cy B0 bc bs (.inl (some (.int r.1))) zSH zKn bc bs r.2 L) 125 [] [.int w0] zSH zKn bc bs I L := by
  unfold f_X12_device_125 at h
  obtain rfl := Option.some.inj h
  exact z_iret C dX12_device_125 .int rfl rfl rfl
set_option maxHeartbeats 4000000 in
set_option maxRecDepth 100000 in
theorem l_X12_device_38 {r : Int32 × zI} (C : zC p l e R s m args below meth c s0 a0 d cy B0 yX12_device.cls cX12_device 3 (some .int) bc bs bc bs 1 21 []) (L : zL) (v1 : Int32) (v2 : Int32) (w1 : Int32) (I : zI) (h : f_X12_device_38 v1 v2 w1 I = some r) : zG p l e R s m args below meth c d cy B0 3 bc bs (zQ below s args d cy B0 bc bs (.inl (some (.int r.1))) zSH zKn bc bs r.2 L) 38 [(0, .ref (B0 + 97)), (1, .int v1), (2, .int v2)] [.int w1, .ref (B0 + 97)] zSH zKn bc bs I L := by
  unfold f_X12_device_38 at h
  refine z_puti C zc_12 dX12_device_38 0 97 rfl (by decide) (by decide) rfl q_1169 rfl rfl rfl ?_
  obtain ⟨I3, eI3, h⟩ := zlt_e h
  refine z_eqI C eI3 ?_
  refine z_aload_n C rfl 0 rfl dX12_device_41 ?_
  refine z_geti C zc_12 dX12_device_42 0 97 rfl (by decide) (by decide) q_1169 rfl ?_
  refine z_if_le C 50 (by decide) dX12_device_45 (fun hc => ?_) (fun hc => ?_)
  · have h := zif_t hc h
    refine z_iload_n C rfl 2 rfl dX12_device_50 ?_
    refine z_if_ne C 63 (by decide) dX12_device_51 (fun hc => ?_) (fun hc => ?_)
    · have h := zif_f hc h
      refine z_iload_n C rfl 2 rfl dX12_device_63 ?_
      refine z_iconst C (v := 1) (by decide) dX12_device_64 ?_
      refine z_icmp_ne C 77 (by decide) dX12_device_65 (fun hc => ?_) (fun hc => ?_)
      · have h := zif_f hc h
        refine z_iload_n C rfl 2 rfl dX12_device_77 ?_
        refine z_iconst C (v := 2) (by decide) dX12_device_78 ?_
        refine z_icmp_ne C 99 (by decide) dX12_device_79 (fun hc => ?_) (fun hc => ?_)
        · have h := zif_f hc h
          refine z_iload_n C rfl 2 rfl dX12_device_99 ?_
          refine z_iconst C (v := 3) (by decide) dX12_device_100 ?_
          refine z_icmp_ne C 116 (by decide) dX12_device_101 (fun hc => ?_) (fun hc => ?_)
          · have h := zif_f hc h
            refine z_aload_n C rfl 0 rfl dX12_device_116 ?_
            refine z_getr C zc_12 dX12_device_117 42 97 126 rfl (by decide) (by decide) q_1211 rfl rfl ?_
            refine z_iload_n C rfl 1 rfl dX12_device_120 ?_
            obtain ⟨hb4, h⟩ := zck_e h
            refine z_iaload C dX12_device_121 rfl rfl (by decide) (zbd_in hb4) ?_
            refine z_bipush C (v := 64) (by decide) dX12_device_122 ?_
            refine z_idiv C (by decide) dX12_device_124 ?_
            obtain ⟨x6, ex6, h⟩ := zlt_e h
            refine z_eqi C ex6 ?_
            refine z_lv [] (lv' := []) rfl ?_
            exact l_X12_device_125 C L x6 I3 h
          · have h := zif_t hc h
            refine z_aload_n C rfl 0 rfl dX12_device_104 ?_
            refine z_getr C zc_12 dX12_device_105 42 97 126 rfl (by decide) (by decide) q_1211 rfl rfl ?_
            refine z_iload_n C rfl 1 rfl dX12_device_108 ?_
            obtain ⟨hb7, h⟩ := zck_e h
            refine z_iaload C dX12_device_109 rfl rfl (by decide) (zbd_in hb7) ?_
            refine z_bipush C (v := 64) (by decide) dX12_device_110 ?_
            refine z_irem C (by decide) dX12_device_112 ?_
            obtain ⟨x9, ex9, h⟩ := zlt_e h
            refine z_eqi C ex9 ?_
            refine z_goto C 125 (by decide) dX12_device_113 ?_
            refine z_lv [] (lv' := []) rfl ?_
            exact l_X12_device_125 C L x9 I3 h
        · have h := zif_t hc h
          refine z_aload_n C rfl 0 rfl dX12_device_82 ?_
          refine z_getr C zc_12 dX12_device_83 43 97 127 rfl (by decide) (by decide) q_1212 rfl rfl ?_
          refine z_iload_n C rfl 1 rfl dX12_device_86 ?_
          obtain ⟨hb10, h⟩ := zck_e h
          refine z_zaload C dX12_device_87 rfl rfl (by decide) (zbd_in hb10) ?_
          refine z_if_eq C 95 (by decide) dX12_device_88 (fun hc => ?_) (fun hc => ?_)
          · have h := zif_t hc h
            refine z_iconst C (v := 0) (by decide) dX12_device_95 ?_
            refine z_goto C 125 (by decide) dX12_device_96 ?_
            refine z_lv [] (lv' := []) rfl ?_
            exact l_X12_device_125 C L (0 : Int32) I3 h
          · have h := zif_f hc h
            refine z_iconst C (v := 1) (by decide) dX12_device_91 ?_
            refine z_goto C 125 (by decide) dX12_device_92 ?_
            refine z_lv [] (lv' := []) rfl ?_
            exact l_X12_device_125 C L (1 : Int32) I3 h
      · have h := zif_t hc h
        refine z_aload_n C rfl 0 rfl dX12_device_68 ?_
        refine z_getr C zc_12 dX12_device_69 41 97 125 rfl (by decide) (by decide) q_1210 rfl rfl ?_
        refine z_iload_n C rfl 1 rfl dX12_device_72 ?_
        obtain ⟨hb11, h⟩ := zck_e h
        refine z_iaload C dX12_device_73 rfl rfl (by decide) (zbd_in hb11) ?_
        refine z_goto C 125 (by decide) dX12_device_74 ?_
        refine z_lv [] (lv' := []) rfl ?_
        exact l_X12_device_125 C L (I3 125 v1.toNatClampNeg) I3 h
    · have h := zif_t hc h
      refine z_aload_n C rfl 0 rfl dX12_device_54 ?_
      refine z_getr C zc_12 dX12_device_55 40 97 124 rfl (by decide) (by decide) q_1209 rfl rfl ?_
      refine z_iload_n C rfl 1 rfl dX12_device_58 ?_
      obtain ⟨hb12, h⟩ := zck_e h
      refine z_iaload C dX12_device_59 rfl rfl (by decide) (zbd_in hb12) ?_
      refine z_goto C 125 (by decide) dX12_device_60 ?_
      refine z_lv [] (lv' := []) rfl ?_
      exact l_X12_device_125 C L (I3 124 v1.toNatClampNeg) I3 h
  · have h := zif_f hc h
    refine z_iconst C (v := 0) (by decide) dX12_device_48 ?_
    obtain rfl := Option.some.inj h
    exact z_iret C dX12_device_49 .int rfl rfl rfl
set_option maxHeartbeats 4000000 in
set_option maxRecDepth 100000 in
theorem l_X12_device_10 {r : Int32 × zI} (C : zC p l e R s m args below meth c s0 a0 d cy B0 yX12_device.cls cX12_device 3 (some .int) bc bs bc bs 1 21 []) (L : zL) (v1 : Int32) (v2 : Int32) (I : zI) (h : f_X12_device_10 v1 v2 I = some r) : zG p l e R s m args below meth c d cy B0 3 bc bs (zQ below s args d cy B0 bc bs (.inl (some (.int r.1))) zSH zKn bc bs r.2 L) 10 [(0, .ref (B0 + 97)), (1, .int v1), (2, .int v2)] [.ref (B0 + 97)] zSH zKn bc bs I L := by
  unfold f_X12_device_10 at h
  refine z_iconst C (v := 1) (by decide) dX12_device_10 ?_
  refine z_goto C 38 (by decide) dX12_device_11 ?_
  exact l_X12_device_38 C L v1 v2 (1 : Int32) I h
set_option maxHeartbeats 4000000 in
set_option maxRecDepth 100000 in
theorem c_X12_device {r : Int32 × zI} (hE : zE0 l s0 a0 d cy B0) (a1 : Int32) (a2 : Int32) (I : zI) (L : zL) (h : f_X12_device a1 a2 I = some r) : zM l s0 d cy B0 yX12_device cX12_device 3 (some .int) 1 21 [.ref (B0 + 97), .int a1, .int a2] zSH zKn bc bs I L (.inl (some (.int r.1))) zSH zKn bc bs r.2 L := by
  refine z_meth yy_X12_device hE (Nat.le_of_ble_eq_true rfl) (fun p e R s m args below meth c C => ?_)
  show zG p l e R s m args below meth c d cy B0 3 bc bs (zQ below s args d cy B0 bc bs (.inl (some (.int r.1))) zSH zKn bc bs r.2 L) 0 [(0, .ref (B0 + 97)), (1, .int a1), (2, .int a2)] [] zSH zKn bc bs I L
  unfold f_X12_device at h
  refine z_aload_n C rfl 0 rfl dX12_device_0 ?_
  refine z_iload_n C rfl 2 rfl dX12_device_1 ?_
  refine z_if_lt C 10 (by decide) dX12_device_2 (fun hc => ?_) (fun hc => ?_)
  · have h := zif_t hc h
    exact l_X12_device_10 C L a1 a2 I h
  · have h := zif_f hc h
    refine z_iload_n C rfl 2 rfl dX12_device_5 ?_
    refine z_iconst C (v := 4) (by decide) dX12_device_6 ?_
    refine z_icmp_le C 14 (by decide) dX12_device_7 (fun hc => ?_) (fun hc => ?_)
    · have h := zif_t hc h
      refine z_aload_n C rfl 0 rfl dX12_device_14 ?_
      refine z_geti C zc_12 dX12_device_15 30 97 rfl (by decide) (by decide) q_1199 rfl ?_
      refine z_if_ne C 25 (by decide) dX12_device_18 (fun hc => ?_) (fun hc => ?_)
      · have h := zif_f hc h
        refine z_aload_n C rfl 0 rfl dX12_device_25 ?_
        refine z_iload_n C rfl 1 rfl dX12_device_26 ?_
        obtain ⟨x2, hg1, h⟩ := zb1_e h
        refine z_callV C zc_12 rfl (by decide) dX12_device_27 yy_X12_isDevice (c_X12_isDevice C.2.2.2.2.1  a1 I L hg1) q_1509 q_1511 q_71 (by decide) (by decide) rfl rfl (Nat.le_of_ble_eq_true rfl) ⟨Nat.le_refl _, Nat.le_refl _, Nat.le_refl _, Nat.le_refl _⟩ ?_
        refine z_if_ne C 37 (by decide) dX12_device_30 (fun hc => ?_) (fun hc => ?_)
        · have h := zif_f hc h
          refine z_iconst C (v := 0) (by decide) dX12_device_37 ?_
          exact l_X12_device_38 C L a1 a2 (0 : Int32) I h
        · have h := zif_t hc h
          refine z_iconst C (v := 1) (by decide) dX12_device_33 ?_
          refine z_goto C 38 (by decide) dX12_device_34 ?_
          exact l_X12_device_38 C L a1 a2 (1 : Int32) I h
      · have h := zif_t hc h
        refine z_iconst C (v := 2) (by decide) dX12_device_21 ?_
        refine z_goto C 38 (by decide) dX12_device_22 ?_
        exact l_X12_device_38 C L a1 a2 (2 : Int32) I h
    · have h := zif_f hc h
      exact l_X12_device_10 C L a1 a2 I h
theorem q_1516 : (Cond.code ({ cls := "DeviceFindModel", name := "size", desc := "(II)J" } : Jvm.MethodName) prog_14_method_45_code (3 : Nat) (Option.some Jvm.ClassFile.FieldType.long)) ∈ lw_tbl := List.mem_of_getElem? (i := 1516) (by decide +kernel)
theorem yy_X12_size : zY yX12_size cX12_size 3 (some .long) 2 := ⟨q_1516, q_88, by decide +kernel, by decide +kernel, by decide +kernel⟩
noncomputable def f_X12_size_62 (w0 : Int64) (I : zI) (L : zL) : Option (Int64 × zI) :=
  some (w0, I)
noncomputable def f_X12_size_38 (v1 : Int32) (v2 : Int32) (w1 : Int32) (I : zI) (L : zL) : Option (Int64 × zI) :=
  zlt (zu I 97 0 w1) (fun I3 => if (I3 97 0) ≤ 0 then (zlt (((3 : Int32) * v1) + v2) (fun x4 => zck (zbd x4 900) (f_X12_size_62 (L 129 x4.toNatClampNeg) I3 L))) else (f_X12_size_62 (0 : Int64) I3 L))
noncomputable def f_X12_size_10 (v1 : Int32) (v2 : Int32) (I : zI) (L : zL) : Option (Int64 × zI) :=
  f_X12_size_38 v1 v2 (1 : Int32) I L
noncomputable def f_X12_size (a1 : Int32) (a2 : Int32) (I : zI) (L : zL) : Option (Int64 × zI) :=
  if a2 < 0 then (f_X12_size_10 a1 a2 I L) else (if a2 ≤ (2 : Int32) then (if (I 97 30) = 0 then (f_X12_size_38 a1 a2 (2 : Int32) I L) else (zb1 (f_X12_isDevice a1 I) (fun x2 => if x2 = 0 then (f_X12_size_38 a1 a2 (1 : Int32) I L) else (f_X12_size_38 a1 a2 (0 : Int32) I L)))) else (f_X12_size_10 a1 a2 I L))
set_option maxHeartbeats 4000000 in
set_option maxRecDepth 100000 in
theorem l_X12_size_62 {r : Int64 × zI} (C : zC p l e R s m args below meth c s0 a0 d cy B0 yX12_size.cls cX12_size 3 (some .long) bc bs bc bs 1 21 []) (w0 : Int64) (I : zI) (L : zL) (h : f_X12_size_62 w0 I L = some r) : zG p l e R s m args below meth c d cy B0 3 bc bs (zQ below s args d cy B0 bc bs (.inl (some (.long r.1))) zSH zKn bc bs r.2 L) 62 [] [.long w0] zSH zKn bc bs I L := by
  unfold f_X12_size_62 at h
  obtain rfl := Option.some.inj h
  exact z_lret C dX12_size_62 rfl rfl
set_option maxHeartbeats 4000000 in
set_option maxRecDepth 100000 in
theorem l_X12_size_38 {r : Int64 × zI} (C : zC p l e R s m args below meth c s0 a0 d cy B0 yX12_size.cls cX12_size 3 (some .long) bc bs bc bs 1 21 []) (v1 : Int32) (v2 : Int32) (w1 : Int32) (I : zI) (L : zL) (h : f_X12_size_38 v1 v2 w1 I L = some r) : zG p l e R s m args below meth c d cy B0 3 bc bs (zQ below s args d cy B0 bc bs (.inl (some (.long r.1))) zSH zKn bc bs r.2 L) 38 [(0, .ref (B0 + 97)), (1, .int v1), (2, .int v2)] [.int w1, .ref (B0 + 97)] zSH zKn bc bs I L := by
  unfold f_X12_size_38 at h
  refine z_puti C zc_12 dX12_size_38 0 97 rfl (by decide) (by decide) rfl q_1169 rfl rfl rfl ?_
  obtain ⟨I3, eI3, h⟩ := zlt_e h
  refine z_eqI C eI3 ?_
  refine z_aload_n C rfl 0 rfl dX12_size_41 ?_
  refine z_geti C zc_12 dX12_size_42 0 97 rfl (by decide) (by decide) q_1169 rfl ?_
  refine z_if_le C 52 (by decide) dX12_size_45 (fun hc => ?_) (fun hc => ?_)
  · have h := zif_t hc h
    refine z_aload_n C rfl 0 rfl dX12_size_52 ?_
    refine z_getr C zc_12 dX12_size_53 45 97 129 rfl (by decide) (by decide) q_1214 rfl rfl ?_
    refine z_iconst C (v := 3) (by decide) dX12_size_56 ?_
    refine z_iload_n C rfl 1 rfl dX12_size_57 ?_
    refine z_imul C dX12_size_58 ?_
    refine z_iload_n C rfl 2 rfl dX12_size_59 ?_
    refine z_iadd C dX12_size_60 ?_
    obtain ⟨x4, ex4, h⟩ := zlt_e h
    refine z_eqi C ex4 ?_
    obtain ⟨hb5, h⟩ := zck_e h
    refine z_laload C dX12_size_61 rfl rfl (by decide) (zbd_in hb5) ?_
    refine z_lv [] (lv' := []) rfl ?_
    exact l_X12_size_62 C  (L 129 x4.toNatClampNeg) I3 L h
  · have h := zif_f hc h
    refine z_lconst C (v := 0) (by decide) dX12_size_48 ?_
    refine z_goto C 62 (by decide) dX12_size_49 ?_
    refine z_lv [] (lv' := []) rfl ?_
    exact l_X12_size_62 C  (0 : Int64) I3 L h
set_option maxHeartbeats 4000000 in
set_option maxRecDepth 100000 in
theorem l_X12_size_10 {r : Int64 × zI} (C : zC p l e R s m args below meth c s0 a0 d cy B0 yX12_size.cls cX12_size 3 (some .long) bc bs bc bs 1 21 []) (v1 : Int32) (v2 : Int32) (I : zI) (L : zL) (h : f_X12_size_10 v1 v2 I L = some r) : zG p l e R s m args below meth c d cy B0 3 bc bs (zQ below s args d cy B0 bc bs (.inl (some (.long r.1))) zSH zKn bc bs r.2 L) 10 [(0, .ref (B0 + 97)), (1, .int v1), (2, .int v2)] [.ref (B0 + 97)] zSH zKn bc bs I L := by
  unfold f_X12_size_10 at h
  refine z_iconst C (v := 1) (by decide) dX12_size_10 ?_
  refine z_goto C 38 (by decide) dX12_size_11 ?_
  exact l_X12_size_38 C  v1 v2 (1 : Int32) I L h
set_option maxHeartbeats 4000000 in
set_option maxRecDepth 100000 in
theorem c_X12_size {r : Int64 × zI} (hE : zE0 l s0 a0 d cy B0) (a1 : Int32) (a2 : Int32) (I : zI) (L : zL) (h : f_X12_size a1 a2 I L = some r) : zM l s0 d cy B0 yX12_size cX12_size 3 (some .long) 1 21 [.ref (B0 + 97), .int a1, .int a2] zSH zKn bc bs I L (.inl (some (.long r.1))) zSH zKn bc bs r.2 L := by
  refine z_meth yy_X12_size hE (Nat.le_of_ble_eq_true rfl) (fun p e R s m args below meth c C => ?_)
  show zG p l e R s m args below meth c d cy B0 3 bc bs (zQ below s args d cy B0 bc bs (.inl (some (.long r.1))) zSH zKn bc bs r.2 L) 0 [(0, .ref (B0 + 97)), (1, .int a1), (2, .int a2)] [] zSH zKn bc bs I L
  unfold f_X12_size at h
  refine z_aload_n C rfl 0 rfl dX12_size_0 ?_
  refine z_iload_n C rfl 2 rfl dX12_size_1 ?_
  refine z_if_lt C 10 (by decide) dX12_size_2 (fun hc => ?_) (fun hc => ?_)
  · have h := zif_t hc h
    exact l_X12_size_10 C  a1 a2 I L h
  · have h := zif_f hc h
    refine z_iload_n C rfl 2 rfl dX12_size_5 ?_
    refine z_iconst C (v := 2) (by decide) dX12_size_6 ?_
    refine z_icmp_le C 14 (by decide) dX12_size_7 (fun hc => ?_) (fun hc => ?_)
    · have h := zif_t hc h
      refine z_aload_n C rfl 0 rfl dX12_size_14 ?_
      refine z_geti C zc_12 dX12_size_15 30 97 rfl (by decide) (by decide) q_1199 rfl ?_
      refine z_if_ne C 25 (by decide) dX12_size_18 (fun hc => ?_) (fun hc => ?_)
      · have h := zif_f hc h
        refine z_aload_n C rfl 0 rfl dX12_size_25 ?_
        refine z_iload_n C rfl 1 rfl dX12_size_26 ?_
        obtain ⟨x2, hg1, h⟩ := zb1_e h
        refine z_callV C zc_12 rfl (by decide) dX12_size_27 yy_X12_isDevice (c_X12_isDevice C.2.2.2.2.1  a1 I L hg1) q_1509 q_1511 q_71 (by decide) (by decide) rfl rfl (Nat.le_of_ble_eq_true rfl) ⟨Nat.le_refl _, Nat.le_refl _, Nat.le_refl _, Nat.le_refl _⟩ ?_
        refine z_if_ne C 37 (by decide) dX12_size_30 (fun hc => ?_) (fun hc => ?_)
        · have h := zif_f hc h
          refine z_iconst C (v := 0) (by decide) dX12_size_37 ?_
          exact l_X12_size_38 C  a1 a2 (0 : Int32) I L h
        · have h := zif_t hc h
          refine z_iconst C (v := 1) (by decide) dX12_size_33 ?_
          refine z_goto C 38 (by decide) dX12_size_34 ?_
          exact l_X12_size_38 C  a1 a2 (1 : Int32) I L h
      · have h := zif_t hc h
        refine z_iconst C (v := 2) (by decide) dX12_size_21 ?_
        refine z_goto C 38 (by decide) dX12_size_22 ?_
        exact l_X12_size_38 C  a1 a2 (2 : Int32) I L h
    · have h := zif_f hc h
      exact l_X12_size_10 C  a1 a2 I L h
theorem q_1524 : (Cond.code ({ cls := "DeviceFindModel", name := "netOf", desc := "(I)I" } : Jvm.MethodName) prog_14_method_46_code (2 : Nat) (Option.some Jvm.ClassFile.FieldType.int)) ∈ lw_tbl := List.mem_of_getElem? (i := 1524) (by decide +kernel)
theorem yy_X12_netOf : zY yX12_netOf cX12_netOf 2 (some .int) 1 := ⟨q_1524, q_88, by decide +kernel, by decide +kernel, by decide +kernel⟩
noncomputable def f_X12_netOf_15 (w0 : Int32) (I : zI) : Option Int32 :=
  some w0
noncomputable def f_X12_netOf (a1 : Int32) (I : zI) : Option Int32 :=
  if a1 = (-1 : Int32) then (f_X12_netOf_15 (-1 : Int32) I) else (zck (zbd a1 32768) (f_X12_netOf_15 (I 123 a1.toNatClampNeg) I))
set_option maxHeartbeats 4000000 in
set_option maxRecDepth 100000 in
theorem l_X12_netOf_15 {r : Int32} (C : zC p l e R s m args below meth c s0 a0 d cy B0 yX12_netOf.cls cX12_netOf 2 (some .int) bc bs bc bs 0 0 []) (L : zL) (w0 : Int32) (I : zI) (h : f_X12_netOf_15 w0 I = some r) : zG p l e R s m args below meth c d cy B0 2 bc bs (zQ below s args d cy B0 bc bs (.inl (some (.int r))) zSH zKn bc bs I L) 15 [] [.int w0] zSH zKn bc bs I L := by
  unfold f_X12_netOf_15 at h
  obtain rfl := Option.some.inj h
  exact z_iret C dX12_netOf_15 .int rfl rfl rfl
set_option maxHeartbeats 4000000 in
set_option maxRecDepth 100000 in
theorem c_X12_netOf {r : Int32} (hE : zE0 l s0 a0 d cy B0) (a1 : Int32) (I : zI) (L : zL) (h : f_X12_netOf a1 I = some r) : zM l s0 d cy B0 yX12_netOf cX12_netOf 2 (some .int) 0 0 [.ref (B0 + 97), .int a1] zSH zKn bc bs I L (.inl (some (.int r))) zSH zKn bc bs I L := by
  refine z_meth yy_X12_netOf hE (Nat.le_of_ble_eq_true rfl) (fun p e R s m args below meth c C => ?_)
  show zG p l e R s m args below meth c d cy B0 2 bc bs (zQ below s args d cy B0 bc bs (.inl (some (.int r))) zSH zKn bc bs I L) 0 [(0, .ref (B0 + 97)), (1, .int a1)] [] zSH zKn bc bs I L
  unfold f_X12_netOf at h
  refine z_iload_n C rfl 1 rfl dX12_netOf_0 ?_
  refine z_iconst C (v := -1) (by decide) dX12_netOf_1 ?_
  refine z_icmp_ne C 9 (by decide) dX12_netOf_2 (fun hc => ?_) (fun hc => ?_)
  · have h := zif_f hc h
    refine z_aload_n C rfl 0 rfl dX12_netOf_9 ?_
    refine z_getr C zc_12 dX12_netOf_10 37 97 123 rfl (by decide) (by decide) q_1206 rfl rfl ?_
    refine z_iload_n C rfl 1 rfl dX12_netOf_13 ?_
    obtain ⟨hb1, h⟩ := zck_e h
    refine z_iaload C dX12_netOf_14 rfl rfl (by decide) (zbd_in hb1) ?_
    refine z_lv [] (lv' := []) rfl ?_
    exact l_X12_netOf_15 C L (I 123 a1.toNatClampNeg) I h
  · have h := zif_t hc h
    refine z_iconst C (v := -1) (by decide) dX12_netOf_5 ?_
    refine z_goto C 15 (by decide) dX12_netOf_6 ?_
    refine z_lv [] (lv' := []) rfl ?_
    exact l_X12_netOf_15 C L (-1 : Int32) I h
theorem q_72 : Cond.selects "DeviceFindModel" ⟨"DeviceFindModel", "netOf", "(I)I"⟩ ⟨"DeviceFindModel", "netOf", "(I)I"⟩ ∈ lw_tbl := List.mem_of_getElem? (i := 72) (by decide +kernel)
theorem q_1520 : (Cond.code ({ cls := "DeviceFindModel", name := "pin", desc := "(II)I" } : Jvm.MethodName) prog_14_method_47_code (3 : Nat) (Option.some Jvm.ClassFile.FieldType.int)) ∈ lw_tbl := List.mem_of_getElem? (i := 1520) (by decide +kernel)
theorem q_1521 : (Cond.methodLink "DeviceFindModel" (308 : Nat) ({ cls := "DeviceFindModel", name := "netOf", desc := "(I)I" } : Jvm.MethodName)) ∈ lw_tbl := List.mem_of_getElem? (i := 1521) (by decide +kernel)
theorem q_1523 : (Cond.instanceMethod ({ cls := "DeviceFindModel", name := "netOf", desc := "(I)I" } : Jvm.MethodName)) ∈ lw_tbl := List.mem_of_getElem? (i := 1523) (by decide +kernel)
theorem yy_X12_pin : zY yX12_pin cX12_pin 3 (some .int) 2 := ⟨q_1520, q_88, by decide +kernel, by decide +kernel, by decide +kernel⟩
noncomputable def f_X12_pin_72 (w0 : Int32) (I : zI) : Option (Int32 × zI) :=
  some (w0, I)
noncomputable def f_X12_pin_44 (v1 : Int32) (v2 : Int32) (w1 : Int32) (I : zI) : Option (Int32 × zI) :=
  zlt (zu I 97 0 w1) (fun I6 => if (I6 97 0) ≤ 0 then (zlt (((4 : Int32) * v1) + v2) (fun x7 => zck (zbd x7 1200) (zb1 (f_X12_netOf (I6 128 x7.toNatClampNeg) I6) (fun x10 => f_X12_pin_72 x10 I6)))) else (f_X12_pin_72 (0 : Int32) I6))
noncomputable def f_X12_pin_39 (v1 : Int32) (v2 : Int32) (I : zI) : Option (Int32 × zI) :=
  f_X12_pin_44 v1 v2 (2 : Int32) I
noncomputable def f_X12_pin (a1 : Int32) (a2 : Int32) (I : zI) : Option (Int32 × zI) :=
  if (I 97 30) = 0 then (f_X12_pin_44 a1 a2 (1 : Int32) I) else (zb1 (f_X12_isDevice a1 I) (fun x2 => if x2 = 0 then (f_X12_pin_39 a1 a2 I) else (if a2 < 0 then (f_X12_pin_39 a1 a2 I) else (zck (zbd a1 300) (zlt (I 124 a1.toNatClampNeg) (fun x4 => zck (zbd x4 16) (if a2 < (I 115 x4.toNatClampNeg) then (f_X12_pin_44 a1 a2 (0 : Int32) I) else (f_X12_pin_39 a1 a2 I))))))))
set_option maxHeartbeats 4000000 in
set_option maxRecDepth 100000 in
theorem l_X12_pin_72 {r : Int32 × zI} (C : zC p l e R s m args below meth c s0 a0 d cy B0 yX12_pin.cls cX12_pin 3 (some .int) bc bs bc bs 1 21 []) (L : zL) (w0 : Int32) (I : zI) (h : f_X12_pin_72 w0 I = some r) : zG p l e R s m args below meth c d cy B0 3 bc bs (zQ below s args d cy B0 bc bs (.inl (some (.int r.1))) zSH zKn bc bs r.2 L) 72 [] [.int w0] zSH zKn bc bs I L := by
  unfold f_X12_pin_72 at h
  obtain rfl := Option.some.inj h
  exact z_iret C dX12_pin_72 .int rfl rfl rfl
set_option maxHeartbeats 4000000 in
set_option maxRecDepth 100000 in
theorem l_X12_pin_44 {r : Int32 × zI} (C : zC p l e R s m args below meth c s0 a0 d cy B0 yX12_pin.cls cX12_pin 3 (some .int) bc bs bc bs 1 21 []) (L : zL) (v1 : Int32) (v2 : Int32) (w1 : Int32) (I : zI) (h : f_X12_pin_44 v1 v2 w1 I = some r) : zG p l e R s m args below meth c d cy B0 3 bc bs (zQ below s args d cy B0 bc bs (.inl (some (.int r.1))) zSH zKn bc bs r.2 L) 44 [(0, .ref (B0 + 97)), (1, .int v1), (2, .int v2)] [.int w1, .ref (B0 + 97)] zSH zKn bc bs I L := by
  unfold f_X12_pin_44 at h
  refine z_puti C zc_12 dX12_pin_44 0 97 rfl (by decide) (by decide) rfl q_1169 rfl rfl rfl ?_
  obtain ⟨I6, eI6, h⟩ := zlt_e h
  refine z_eqI C eI6 ?_
  refine z_aload_n C rfl 0 rfl dX12_pin_47 ?_
  refine z_geti C zc_12 dX12_pin_48 0 97 rfl (by decide) (by decide) q_1169 rfl ?_
  refine z_if_le C 58 (by decide) dX12_pin_51 (fun hc => ?_) (fun hc => ?_)
  · have h := zif_t hc h
    refine z_aload_n C rfl 0 rfl dX12_pin_58 ?_
    refine z_aload_n C rfl 0 rfl dX12_pin_59 ?_
    refine z_getr C zc_12 dX12_pin_60 44 97 128 rfl (by decide) (by decide) q_1213 rfl rfl ?_
    refine z_iconst C (v := 4) (by decide) dX12_pin_63 ?_
    refine z_iload_n C rfl 1 rfl dX12_pin_64 ?_
    refine z_imul C dX12_pin_65 ?_
    refine z_iload_n C rfl 2 rfl dX12_pin_66 ?_
    refine z_iadd C dX12_pin_67 ?_
    obtain ⟨x7, ex7, h⟩ := zlt_e h
    refine z_eqi C ex7 ?_
    obtain ⟨hb8, h⟩ := zck_e h
    refine z_iaload C dX12_pin_68 rfl rfl (by decide) (zbd_in hb8) ?_
    obtain ⟨x10, hg9, h⟩ := zb1_e h
    refine z_callV C zc_12 rfl (by decide) dX12_pin_69 yy_X12_netOf (c_X12_netOf C.2.2.2.2.1  (I6 128 x7.toNatClampNeg) I6 L hg9) q_1521 q_1523 q_72 (by decide) (by decide) rfl rfl (Nat.le_of_ble_eq_true rfl) ⟨Nat.le_refl _, Nat.le_refl _, Nat.le_refl _, Nat.le_refl _⟩ ?_
    refine z_lv [] (lv' := []) rfl ?_
    exact l_X12_pin_72 C L x10 I6 h
  · have h := zif_f hc h
    refine z_iconst C (v := 0) (by decide) dX12_pin_54 ?_
    refine z_goto C 72 (by decide) dX12_pin_55 ?_
    refine z_lv [] (lv' := []) rfl ?_
    exact l_X12_pin_72 C L (0 : Int32) I6 h
set_option maxHeartbeats 4000000 in
set_option maxRecDepth 100000 in
theorem l_X12_pin_39 {r : Int32 × zI} (C : zC p l e R s m args below meth c s0 a0 d cy B0 yX12_pin.cls cX12_pin 3 (some .int) bc bs bc bs 1 21 []) (L : zL) (v1 : Int32) (v2 : Int32) (I : zI) (h : f_X12_pin_39 v1 v2 I = some r) : zG p l e R s m args below meth c d cy B0 3 bc bs (zQ below s args d cy B0 bc bs (.inl (some (.int r.1))) zSH zKn bc bs r.2 L) 39 [(0, .ref (B0 + 97)), (1, .int v1), (2, .int v2)] [.ref (B0 + 97)] zSH zKn bc bs I L := by
  unfold f_X12_pin_39 at h
  refine z_iconst C (v := 2) (by decide) dX12_pin_39 ?_
  refine z_goto C 44 (by decide) dX12_pin_40 ?_
  exact l_X12_pin_44 C L v1 v2 (2 : Int32) I h
set_option maxHeartbeats 4000000 in
set_option maxRecDepth 100000 in
theorem c_X12_pin {r : Int32 × zI} (hE : zE0 l s0 a0 d cy B0) (a1 : Int32) (a2 : Int32) (I : zI) (L : zL) (h : f_X12_pin a1 a2 I = some r) : zM l s0 d cy B0 yX12_pin cX12_pin 3 (some .int) 1 21 [.ref (B0 + 97), .int a1, .int a2] zSH zKn bc bs I L (.inl (some (.int r.1))) zSH zKn bc bs r.2 L := by
  refine z_meth yy_X12_pin hE (Nat.le_of_ble_eq_true rfl) (fun p e R s m args below meth c C => ?_)
  show zG p l e R s m args below meth c d cy B0 3 bc bs (zQ below s args d cy B0 bc bs (.inl (some (.int r.1))) zSH zKn bc bs r.2 L) 0 [(0, .ref (B0 + 97)), (1, .int a1), (2, .int a2)] [] zSH zKn bc bs I L
  unfold f_X12_pin at h
  refine z_aload_n C rfl 0 rfl dX12_pin_0 ?_
  refine z_aload_n C rfl 0 rfl dX12_pin_1 ?_
  refine z_geti C zc_12 dX12_pin_2 30 97 rfl (by decide) (by decide) q_1199 rfl ?_
  refine z_if_ne C 12 (by decide) dX12_pin_5 (fun hc => ?_) (fun hc => ?_)
  · have h := zif_f hc h
    refine z_aload_n C rfl 0 rfl dX12_pin_12 ?_
    refine z_iload_n C rfl 1 rfl dX12_pin_13 ?_
    obtain ⟨x2, hg1, h⟩ := zb1_e h
    refine z_callV C zc_12 rfl (by decide) dX12_pin_14 yy_X12_isDevice (c_X12_isDevice C.2.2.2.2.1  a1 I L hg1) q_1509 q_1511 q_71 (by decide) (by decide) rfl rfl (Nat.le_of_ble_eq_true rfl) ⟨Nat.le_refl _, Nat.le_refl _, Nat.le_refl _, Nat.le_refl _⟩ ?_
    refine z_if_eq C 39 (by decide) dX12_pin_17 (fun hc => ?_) (fun hc => ?_)
    · have h := zif_t hc h
      exact l_X12_pin_39 C L a1 a2 I h
    · have h := zif_f hc h
      refine z_iload_n C rfl 2 rfl dX12_pin_20 ?_
      refine z_if_lt C 39 (by decide) dX12_pin_21 (fun hc => ?_) (fun hc => ?_)
      · have h := zif_t hc h
        exact l_X12_pin_39 C L a1 a2 I h
      · have h := zif_f hc h
        refine z_iload_n C rfl 2 rfl dX12_pin_24 ?_
        refine z_aload_n C rfl 0 rfl dX12_pin_25 ?_
        refine z_getr C zc_12 dX12_pin_26 26 97 115 rfl (by decide) (by decide) q_1195 rfl rfl ?_
        refine z_aload_n C rfl 0 rfl dX12_pin_29 ?_
        refine z_getr C zc_12 dX12_pin_30 40 97 124 rfl (by decide) (by decide) q_1209 rfl rfl ?_
        refine z_iload_n C rfl 1 rfl dX12_pin_33 ?_
        obtain ⟨hb3, h⟩ := zck_e h
        refine z_iaload C dX12_pin_34 rfl rfl (by decide) (zbd_in hb3) ?_
        obtain ⟨x4, ex4, h⟩ := zlt_e h
        refine z_eqi C ex4 ?_
        obtain ⟨hb5, h⟩ := zck_e h
        refine z_iaload C dX12_pin_35 rfl rfl (by decide) (zbd_in hb5) ?_
        refine z_icmp_lt C 43 (by decide) dX12_pin_36 (fun hc => ?_) (fun hc => ?_)
        · have h := zif_t hc h
          refine z_iconst C (v := 0) (by decide) dX12_pin_43 ?_
          exact l_X12_pin_44 C L a1 a2 (0 : Int32) I h
        · have h := zif_f hc h
          exact l_X12_pin_39 C L a1 a2 I h
  · have h := zif_t hc h
    refine z_iconst C (v := 1) (by decide) dX12_pin_8 ?_
    refine z_goto C 44 (by decide) dX12_pin_9 ?_
    exact l_X12_pin_44 C L a1 a2 (1 : Int32) I h
theorem q_1528 : (Cond.code ({ cls := "DeviceFindModel", name := "net", desc := "(IJJ)I" } : Jvm.MethodName) prog_14_method_48_code (6 : Nat) (Option.some Jvm.ClassFile.FieldType.int)) ∈ lw_tbl := List.mem_of_getElem? (i := 1528) (by decide +kernel)
theorem yy_X12_net : zY yX12_net cX12_net 6 (some .int) 3 := ⟨q_1528, q_88, by decide +kernel, by decide +kernel, by decide +kernel⟩
noncomputable def f_X12_net_74 (w0 : Int32) (I : zI) : Option (Int32 × zI) :=
  some (w0, I)
noncomputable def f_X12_net_42 (v1 : Int32) (v2 : Int64) (v4 : Int64) (w1 : Int32) (I : zI) : Option (Int32 × zI) :=
  zlt (zu I 97 0 w1) (fun I3 => if (I3 97 0) ≤ 0 then (zlt ((64 : Int32) * v4.toInt32) (fun x4 => zlt (x4 + v2.toInt32) (fun x5 => zb1 (f_X12_nodeAt v1 x5 I3) (fun x7 => zb1 (f_X12_netOf x7 I3) (fun x9 => f_X12_net_74 x9 I3))))) else (f_X12_net_74 (0 : Int32) I3))
noncomputable def f_X12_net_37 (v1 : Int32) (v2 : Int64) (v4 : Int64) (I : zI) : Option (Int32 × zI) :=
  f_X12_net_42 v1 v2 v4 (1 : Int32) I
noncomputable def f_X12_net (a1 : Int32) (a2 : Int64) (a3 : Int64) (I : zI) : Option (Int32 × zI) :=
  zb1 (f_X12_isSquare a2 a3) (fun x2 => if x2 = 0 then (f_X12_net_42 a1 a2 a3 (1 : Int32) I) else (if (I 97 30) = 0 then (f_X12_net_42 a1 a2 a3 (2 : Int32) I) else (if a1 < 0 then (f_X12_net_37 a1 a2 a3 I) else (if a1 < (I 97 13) then (f_X12_net_42 a1 a2 a3 (0 : Int32) I) else (f_X12_net_37 a1 a2 a3 I)))))
set_option maxHeartbeats 4000000 in
set_option maxRecDepth 100000 in
theorem l_X12_net_74 {r : Int32 × zI} (C : zC p l e R s m args below meth c s0 a0 d cy B0 yX12_net.cls cX12_net 6 (some .int) bc bs bc bs 1 23 []) (L : zL) (w0 : Int32) (I : zI) (h : f_X12_net_74 w0 I = some r) : zG p l e R s m args below meth c d cy B0 6 bc bs (zQ below s args d cy B0 bc bs (.inl (some (.int r.1))) zSH zKn bc bs r.2 L) 74 [] [.int w0] zSH zKn bc bs I L := by
  unfold f_X12_net_74 at h
  obtain rfl := Option.some.inj h
  exact z_iret C dX12_net_74 .int rfl rfl rfl
set_option maxHeartbeats 4000000 in
set_option maxRecDepth 100000 in
theorem l_X12_net_42 {r : Int32 × zI} (C : zC p l e R s m args below meth c s0 a0 d cy B0 yX12_net.cls cX12_net 6 (some .int) bc bs bc bs 1 23 []) (L : zL) (v1 : Int32) (v2 : Int64) (v4 : Int64) (w1 : Int32) (I : zI) (h : f_X12_net_42 v1 v2 v4 w1 I = some r) : zG p l e R s m args below meth c d cy B0 6 bc bs (zQ below s args d cy B0 bc bs (.inl (some (.int r.1))) zSH zKn bc bs r.2 L) 42 [(0, .ref (B0 + 97)), (1, .int v1), (2, .long v2), (4, .long v4)] [.int w1, .ref (B0 + 97)] zSH zKn bc bs I L := by
  unfold f_X12_net_42 at h
  refine z_puti C zc_12 dX12_net_42 0 97 rfl (by decide) (by decide) rfl q_1169 rfl rfl rfl ?_
  obtain ⟨I3, eI3, h⟩ := zlt_e h
  refine z_eqI C eI3 ?_
  refine z_aload_n C rfl 0 rfl dX12_net_45 ?_
  refine z_geti C zc_12 dX12_net_46 0 97 rfl (by decide) (by decide) q_1169 rfl ?_
  refine z_if_le C 56 (by decide) dX12_net_49 (fun hc => ?_) (fun hc => ?_)
  · have h := zif_t hc h
    refine z_aload_n C rfl 0 rfl dX12_net_56 ?_
    refine z_aload_n C rfl 0 rfl dX12_net_57 ?_
    refine z_iload_n C rfl 1 rfl dX12_net_58 ?_
    refine z_bipush C (v := 64) (by decide) dX12_net_59 ?_
    refine z_lload C 3 rfl dX12_net_61 ?_
    refine z_l2i C dX12_net_63 ?_
    refine z_imul C dX12_net_64 ?_
    obtain ⟨x4, ex4, h⟩ := zlt_e h
    refine z_eqi C ex4 ?_
    refine z_lload_n C rfl 2 rfl dX12_net_65 ?_
    refine z_l2i C dX12_net_66 ?_
    refine z_iadd C dX12_net_67 ?_
    obtain ⟨x5, ex5, h⟩ := zlt_e h
    refine z_eqi C ex5 ?_
    obtain ⟨x7, hg6, h⟩ := zb1_e h
    refine z_callV C zc_12 rfl (by decide) dX12_net_68 yy_X12_nodeAt (c_X12_nodeAt C.2.2.2.2.1  v1 x5 I3 L hg6) q_1485 q_1487 q_66 (by decide) (by decide) rfl rfl (Nat.le_of_ble_eq_true rfl) ⟨Nat.le_refl _, Nat.le_refl _, Nat.le_refl _, Nat.le_refl _⟩ ?_
    obtain ⟨x9, hg8, h⟩ := zb1_e h
    refine z_callV C zc_12 rfl (by decide) dX12_net_71 yy_X12_netOf (c_X12_netOf C.2.2.2.2.1  x7 I3 L hg8) q_1521 q_1523 q_72 (by decide) (by decide) rfl rfl (Nat.le_of_ble_eq_true rfl) ⟨Nat.le_refl _, Nat.le_refl _, Nat.le_refl _, Nat.le_refl _⟩ ?_
    refine z_lv [] (lv' := []) rfl ?_
    exact l_X12_net_74 C L x9 I3 h
  · have h := zif_f hc h
    refine z_iconst C (v := 0) (by decide) dX12_net_52 ?_
    refine z_goto C 74 (by decide) dX12_net_53 ?_
    refine z_lv [] (lv' := []) rfl ?_
    exact l_X12_net_74 C L (0 : Int32) I3 h
set_option maxHeartbeats 4000000 in
set_option maxRecDepth 100000 in
theorem l_X12_net_37 {r : Int32 × zI} (C : zC p l e R s m args below meth c s0 a0 d cy B0 yX12_net.cls cX12_net 6 (some .int) bc bs bc bs 1 23 []) (L : zL) (v1 : Int32) (v2 : Int64) (v4 : Int64) (I : zI) (h : f_X12_net_37 v1 v2 v4 I = some r) : zG p l e R s m args below meth c d cy B0 6 bc bs (zQ below s args d cy B0 bc bs (.inl (some (.int r.1))) zSH zKn bc bs r.2 L) 37 [(0, .ref (B0 + 97)), (1, .int v1), (2, .long v2), (4, .long v4)] [.ref (B0 + 97)] zSH zKn bc bs I L := by
  unfold f_X12_net_37 at h
  refine z_iconst C (v := 1) (by decide) dX12_net_37 ?_
  refine z_goto C 42 (by decide) dX12_net_38 ?_
  exact l_X12_net_42 C L v1 v2 v4 (1 : Int32) I h
set_option maxHeartbeats 4000000 in
set_option maxRecDepth 100000 in
theorem c_X12_net {r : Int32 × zI} (hE : zE0 l s0 a0 d cy B0) (a1 : Int32) (a2 : Int64) (a3 : Int64) (I : zI) (L : zL) (h : f_X12_net a1 a2 a3 I = some r) : zM l s0 d cy B0 yX12_net cX12_net 6 (some .int) 1 23 [.ref (B0 + 97), .int a1, .long a2, .long a3] zSH zKn bc bs I L (.inl (some (.int r.1))) zSH zKn bc bs r.2 L := by
  refine z_meth yy_X12_net hE (Nat.le_of_ble_eq_true rfl) (fun p e R s m args below meth c C => ?_)
  show zG p l e R s m args below meth c d cy B0 6 bc bs (zQ below s args d cy B0 bc bs (.inl (some (.int r.1))) zSH zKn bc bs r.2 L) 0 [(0, .ref (B0 + 97)), (1, .int a1), (2, .long a2), (4, .long a3)] [] zSH zKn bc bs I L
  unfold f_X12_net at h
  refine z_aload_n C rfl 0 rfl dX12_net_0 ?_
  refine z_lload_n C rfl 2 rfl dX12_net_1 ?_
  refine z_lload C 3 rfl dX12_net_2 ?_
  obtain ⟨x2, hg1, h⟩ := zb1_e h
  refine z_callS C dX12_net_4 yy_X12_isSquare (c_X12_isSquare C.2.2.2.2.1  a2 a3 I L hg1) q_1359 q_1360 (by decide) (by decide) rfl rfl (Nat.le_of_ble_eq_true rfl) ⟨Nat.le_refl _, Nat.le_refl _, Nat.le_refl _, Nat.le_refl _⟩ ?_
  refine z_if_ne C 14 (by decide) dX12_net_7 (fun hc => ?_) (fun hc => ?_)
  · have h := zif_f hc h
    refine z_aload_n C rfl 0 rfl dX12_net_14 ?_
    refine z_geti C zc_12 dX12_net_15 30 97 rfl (by decide) (by decide) q_1199 rfl ?_
    refine z_if_ne C 25 (by decide) dX12_net_18 (fun hc => ?_) (fun hc => ?_)
    · have h := zif_f hc h
      refine z_iload_n C rfl 1 rfl dX12_net_25 ?_
      refine z_if_lt C 37 (by decide) dX12_net_26 (fun hc => ?_) (fun hc => ?_)
      · have h := zif_t hc h
        exact l_X12_net_37 C L a1 a2 a3 I h
      · have h := zif_f hc h
        refine z_iload_n C rfl 1 rfl dX12_net_29 ?_
        refine z_aload_n C rfl 0 rfl dX12_net_30 ?_
        refine z_geti C zc_12 dX12_net_31 13 97 rfl (by decide) (by decide) q_1182 rfl ?_
        refine z_icmp_lt C 41 (by decide) dX12_net_34 (fun hc => ?_) (fun hc => ?_)
        · have h := zif_t hc h
          refine z_iconst C (v := 0) (by decide) dX12_net_41 ?_
          exact l_X12_net_42 C L a1 a2 a3 (0 : Int32) I h
        · have h := zif_f hc h
          exact l_X12_net_37 C L a1 a2 a3 I h
    · have h := zif_t hc h
      refine z_iconst C (v := 2) (by decide) dX12_net_21 ?_
      refine z_goto C 42 (by decide) dX12_net_22 ?_
      exact l_X12_net_42 C L a1 a2 a3 (2 : Int32) I h
  · have h := zif_t hc h
    refine z_iconst C (v := 1) (by decide) dX12_net_10 ?_
    refine z_goto C 42 (by decide) dX12_net_11 ?_
    exact l_X12_net_42 C L a1 a2 a3 (1 : Int32) I h
theorem q_1536 : (Cond.code ({ cls := "DeviceFindModel", name := "nameOf", desc := "(IZ)I" } : Jvm.MethodName) prog_14_method_49_code (7 : Nat) (Option.some Jvm.ClassFile.FieldType.int)) ∈ lw_tbl := List.mem_of_getElem? (i := 1536) (by decide +kernel)
theorem yy_X12_nameOf : zY yX12_nameOf cX12_nameOf 7 (some .int) 2 := ⟨q_1536, q_88, by decide +kernel, by decide +kernel, by decide +kernel⟩
noncomputable def f_X12_nameOf_141 (k5 : Int32 → Int32 → Int32 → Int32 → zI → Option Int32) (v1 : Int32) (v2 : Int32) (v4 : Int32) (w0 : Int32) (I : zI) : Option Int32 :=
  zlt (v4 + 1) (fun x12 => k5 v1 v2 w0 x12 I)
noncomputable def f_X12_nameOf_140 (k5 : Int32 → Int32 → Int32 → Int32 → zI → Option Int32) (v1 : Int32) (v2 : Int32) (v3 : Int32) (v4 : Int32) (I : zI) : Option Int32 :=
  f_X12_nameOf_141 k5 v1 v2 v4 v3 I
noncomputable def f_X12_nameOf_118 (k5 : Int32 → Int32 → Int32 → Int32 → zI → Option Int32) (v1 : Int32) (v2 : Int32) (v3 : Int32) (v4 : Int32) (v5 : Int32) (w0 : Int32) (I : zI) : Option Int32 :=
  if v5 = 0 then (f_X12_nameOf_140 k5 v1 v2 v3 v4 I) else (if w0 = 0 then (f_X12_nameOf_140 k5 v1 v2 v3 v4 I) else (zck (zbd v4 40) (f_X12_nameOf_141 k5 v1 v2 v4 (I 104 v4.toNatClampNeg) I)))
noncomputable def f_X12_nameOf_113 (k5 : Int32 → Int32 → Int32 → Int32 → zI → Option Int32) (v1 : Int32) (v2 : Int32) (v3 : Int32) (v4 : Int32) (v5 : Int32) (I : zI) : Option Int32 :=
  f_X12_nameOf_118 k5 v1 v2 v3 v4 v5 (1 : Int32) I
noncomputable def f_X12_nameOf_117 (k5 : Int32 → Int32 → Int32 → Int32 → zI → Option Int32) (v1 : Int32) (v2 : Int32) (v3 : Int32) (v4 : Int32) (v5 : Int32) (I : zI) : Option Int32 :=
  f_X12_nameOf_118 k5 v1 v2 v3 v4 v5 (0 : Int32) I
noncomputable def f_X12_nameOf_77 (k5 : Int32 → Int32 → Int32 → Int32 → zI → Option Int32) (v1 : Int32) (v2 : Int32) (v3 : Int32) (v4 : Int32) (w0 : Int32) (I : zI) : Option Int32 :=
  if v3 = (-1 : Int32) then (f_X12_nameOf_113 k5 v1 v2 v3 v4 w0 I) else (if v2 = 0 then (zck (zbd v4 40) (if v3 ≤ (I 104 v4.toNatClampNeg) then (f_X12_nameOf_117 k5 v1 v2 v3 v4 w0 I) else (f_X12_nameOf_113 k5 v1 v2 v3 v4 w0 I))) else (zck (zbd v4 40) (if (I 104 v4.toNatClampNeg) ≤ v3 then (f_X12_nameOf_117 k5 v1 v2 v3 v4 w0 I) else (f_X12_nameOf_113 k5 v1 v2 v3 v4 w0 I))))
noncomputable def f_X12_nameOf_76 (k5 : Int32 → Int32 → Int32 → Int32 → zI → Option Int32) (v1 : Int32) (v2 : Int32) (v3 : Int32) (v4 : Int32) (I : zI) : Option Int32 :=
  f_X12_nameOf_77 k5 v1 v2 v3 v4 (0 : Int32) I
noncomputable def f_X12_nameOf_55 (k5 : Int32 → Int32 → Int32 → Int32 → zI → Option Int32) (v1 : Int32) (v2 : Int32) (v3 : Int32) (v4 : Int32) (w2 : Int32) (I : zI) : Option Int32 :=
  zck (zbd v4 40) (zb1 (f_X12_nodeAt w2 (I 103 v4.toNatClampNeg) I) (fun x6 => zb1 (f_X12_netOf x6 I) (fun x8 => if x8 = v1 then (f_X12_nameOf_77 k5 v1 v2 v3 v4 (1 : Int32) I) else (f_X12_nameOf_76 k5 v1 v2 v3 v4 I))))
noncomputable def f_X12_nameOf_5 (k5 : Int32 → Int32 → Int32 → Int32 → zI → Option Int32) (v1 : Int32) (v2 : Int32) (v3 : Int32) (v4 : Int32) (I : zI) : Option Int32 :=
  if (I 97 7) ≤ v4 then (some v3) else (zck (zbd v4 40) (if (I 97 13) ≤ (I 102 v4.toNatClampNeg) then (f_X12_nameOf_76 k5 v1 v2 v3 v4 I) else (zck (zbd v4 40) (if (I 97 13) ≤ (I 102 v4.toNatClampNeg) then (f_X12_nameOf_55 k5 v1 v2 v3 v4 (0 : Int32) I) else (zck (zbd v4 40) (f_X12_nameOf_55 k5 v1 v2 v3 v4 (I 102 v4.toNatClampNeg) I))))))
noncomputable def f_X12_nameOf (a1 : Int32) (a2 : Int32) (I : zI) : Option Int32 :=
  zlp5 (f_X12_nameOf_5) zF a1 a2 (-1 : Int32) (0 : Int32) I
set_option maxHeartbeats 4000000 in
set_option maxRecDepth 100000 in
theorem l_X12_nameOf_141 {r : Int32} (C : zC p l e R s m args below meth c s0 a0 d cy B0 yX12_nameOf.cls cX12_nameOf 7 (some .int) bc bs bc bs 1 23 []) (L : zL) (k5 : Int32 → Int32 → Int32 → Int32 → zI → Option Int32) (hk5 : ∀ (v1 : Int32) (v2 : Int32) (v3 : Int32) (v4 : Int32) (I : zI), k5 v1 v2 v3 v4 I = some r → zG p l e R s m args below meth c d cy B0 7 bc bs (zQ below s args d cy B0 bc bs (.inl (some (.int r))) zSH zKn bc bs I L) 5 [(0, .ref (B0 + 97)), (1, .int v1), (2, .int v2), (3, .int v3), (4, .int v4)] [] zSH zKn bc bs I L) (v1 : Int32) (v2 : Int32) (v4 : Int32) (w0 : Int32) (I : zI) (h : f_X12_nameOf_141 k5 v1 v2 v4 w0 I = some r) : zG p l e R s m args below meth c d cy B0 7 bc bs (zQ below s args d cy B0 bc bs (.inl (some (.int r))) zSH zKn bc bs I L) 141 [(0, .ref (B0 + 97)), (1, .int v1), (2, .int v2), (4, .int v4)] [.int w0] zSH zKn bc bs I L := by
  unfold f_X12_nameOf_141 at h
  refine z_istore_n C (lv' := [(3, .int w0), (0, .ref (B0 + 97)), (1, .int v1), (2, .int v2), (4, .int v4)]) rfl (by decide) rfl dX12_nameOf_141 ?_
  obtain ⟨x12, ex12, h⟩ := zlt_e h
  refine z_iinc C (j := 4) (v := x12) (lv' := [(4, .int x12), (3, .int w0), (0, .ref (B0 + 97)), (1, .int v1), (2, .int v2)]) rfl (by rw [ex12]; rfl) (by decide) rfl dX12_nameOf_142 ?_
  refine z_goto C 5 (by decide) dX12_nameOf_145 ?_
  refine z_lv [2, 3, 4, 1, 0] (lv' := [(0, .ref (B0 + 97)), (1, .int v1), (2, .int v2), (3, .int w0), (4, .int x12)]) rfl ?_
  exact hk5 v1 v2 w0 x12 I h
set_option maxHeartbeats 4000000 in
set_option maxRecDepth 100000 in
theorem l_X12_nameOf_140 {r : Int32} (C : zC p l e R s m args below meth c s0 a0 d cy B0 yX12_nameOf.cls cX12_nameOf 7 (some .int) bc bs bc bs 1 23 []) (L : zL) (k5 : Int32 → Int32 → Int32 → Int32 → zI → Option Int32) (hk5 : ∀ (v1 : Int32) (v2 : Int32) (v3 : Int32) (v4 : Int32) (I : zI), k5 v1 v2 v3 v4 I = some r → zG p l e R s m args below meth c d cy B0 7 bc bs (zQ below s args d cy B0 bc bs (.inl (some (.int r))) zSH zKn bc bs I L) 5 [(0, .ref (B0 + 97)), (1, .int v1), (2, .int v2), (3, .int v3), (4, .int v4)] [] zSH zKn bc bs I L) (v1 : Int32) (v2 : Int32) (v3 : Int32) (v4 : Int32) (I : zI) (h : f_X12_nameOf_140 k5 v1 v2 v3 v4 I = some r) : zG p l e R s m args below meth c d cy B0 7 bc bs (zQ below s args d cy B0 bc bs (.inl (some (.int r))) zSH zKn bc bs I L) 140 [(0, .ref (B0 + 97)), (1, .int v1), (2, .int v2), (3, .int v3), (4, .int v4)] [] zSH zKn bc bs I L := by
  unfold f_X12_nameOf_140 at h
  refine z_iload_n C rfl 3 rfl dX12_nameOf_140 ?_
  refine z_lv [0, 1, 2, 4] (lv' := [(0, .ref (B0 + 97)), (1, .int v1), (2, .int v2), (4, .int v4)]) rfl ?_
  exact l_X12_nameOf_141 C L k5 hk5 v1 v2 v4 v3 I h
set_option maxHeartbeats 4000000 in
set_option maxRecDepth 100000 in
theorem l_X12_nameOf_118 {r : Int32} (C : zC p l e R s m args below meth c s0 a0 d cy B0 yX12_nameOf.cls cX12_nameOf 7 (some .int) bc bs bc bs 1 23 []) (L : zL) (k5 : Int32 → Int32 → Int32 → Int32 → zI → Option Int32) (hk5 : ∀ (v1 : Int32) (v2 : Int32) (v3 : Int32) (v4 : Int32) (I : zI), k5 v1 v2 v3 v4 I = some r → zG p l e R s m args below meth c d cy B0 7 bc bs (zQ below s args d cy B0 bc bs (.inl (some (.int r))) zSH zKn bc bs I L) 5 [(0, .ref (B0 + 97)), (1, .int v1), (2, .int v2), (3, .int v3), (4, .int v4)] [] zSH zKn bc bs I L) (v1 : Int32) (v2 : Int32) (v3 : Int32) (v4 : Int32) (v5 : Int32) (w0 : Int32) (I : zI) (h : f_X12_nameOf_118 k5 v1 v2 v3 v4 v5 w0 I = some r) : zG p l e R s m args below meth c d cy B0 7 bc bs (zQ below s args d cy B0 bc bs (.inl (some (.int r))) zSH zKn bc bs I L) 118 [(0, .ref (B0 + 97)), (1, .int v1), (2, .int v2), (3, .int v3), (4, .int v4), (5, .int v5)] [.int w0] zSH zKn bc bs I L := by
  unfold f_X12_nameOf_118 at h
  refine z_istore C (lv' := [(6, .int w0), (0, .ref (B0 + 97)), (1, .int v1), (2, .int v2), (3, .int v3), (4, .int v4), (5, .int v5)]) (by decide) rfl dX12_nameOf_118 ?_
  refine z_iload C 6 rfl dX12_nameOf_120 ?_
  refine z_if_eq C 140 (by decide) dX12_nameOf_122 (fun hc => ?_) (fun hc => ?_)
  · have h := zif_t hc h
    refine z_lv [1, 2, 3, 4, 5] (lv' := [(0, .ref (B0 + 97)), (1, .int v1), (2, .int v2), (3, .int v3), (4, .int v4)]) rfl ?_
    exact l_X12_nameOf_140 C L k5 hk5 v1 v2 v3 v4 I h
  · have h := zif_f hc h
    refine z_iload C 0 rfl dX12_nameOf_125 ?_
    refine z_if_eq C 140 (by decide) dX12_nameOf_127 (fun hc => ?_) (fun hc => ?_)
    · have h := zif_t hc h
      refine z_lv [1, 2, 3, 4, 5] (lv' := [(0, .ref (B0 + 97)), (1, .int v1), (2, .int v2), (3, .int v3), (4, .int v4)]) rfl ?_
      exact l_X12_nameOf_140 C L k5 hk5 v1 v2 v3 v4 I h
    · have h := zif_f hc h
      refine z_aload_n C rfl 1 rfl dX12_nameOf_130 ?_
      refine z_getr C zc_12 dX12_nameOf_131 10 97 104 rfl (by decide) (by decide) q_1179 rfl rfl ?_
      refine z_iload C 5 rfl dX12_nameOf_134 ?_
      obtain ⟨hb11, h⟩ := zck_e h
      refine z_iaload C dX12_nameOf_136 rfl rfl (by decide) (zbd_in hb11) ?_
      refine z_goto C 141 (by decide) dX12_nameOf_137 ?_
      refine z_lv [1, 2, 3, 5] (lv' := [(0, .ref (B0 + 97)), (1, .int v1), (2, .int v2), (4, .int v4)]) rfl ?_
      exact l_X12_nameOf_141 C L k5 hk5 v1 v2 v4 (I 104 v4.toNatClampNeg) I h
set_option maxHeartbeats 4000000 in
set_option maxRecDepth 100000 in
theorem l_X12_nameOf_113 {r : Int32} (C : zC p l e R s m args below meth c s0 a0 d cy B0 yX12_nameOf.cls cX12_nameOf 7 (some .int) bc bs bc bs 1 23 []) (L : zL) (k5 : Int32 → Int32 → Int32 → Int32 → zI → Option Int32) (hk5 : ∀ (v1 : Int32) (v2 : Int32) (v3 : Int32) (v4 : Int32) (I : zI), k5 v1 v2 v3 v4 I = some r → zG p l e R s m args below meth c d cy B0 7 bc bs (zQ below s args d cy B0 bc bs (.inl (some (.int r))) zSH zKn bc bs I L) 5 [(0, .ref (B0 + 97)), (1, .int v1), (2, .int v2), (3, .int v3), (4, .int v4)] [] zSH zKn bc bs I L) (v1 : Int32) (v2 : Int32) (v3 : Int32) (v4 : Int32) (v5 : Int32) (I : zI) (h : f_X12_nameOf_113 k5 v1 v2 v3 v4 v5 I = some r) : zG p l e R s m args below meth c d cy B0 7 bc bs (zQ below s args d cy B0 bc bs (.inl (some (.int r))) zSH zKn bc bs I L) 113 [(0, .ref (B0 + 97)), (1, .int v1), (2, .int v2), (3, .int v3), (4, .int v4), (5, .int v5)] [] zSH zKn bc bs I L := by
  unfold f_X12_nameOf_113 at h
  refine z_iconst C (v := 1) (by decide) dX12_nameOf_113 ?_
  refine z_goto C 118 (by decide) dX12_nameOf_114 ?_
  exact l_X12_nameOf_118 C L k5 hk5 v1 v2 v3 v4 v5 (1 : Int32) I h
set_option maxHeartbeats 4000000 in
set_option maxRecDepth 100000 in
theorem l_X12_nameOf_117 {r : Int32} (C : zC p l e R s m args below meth c s0 a0 d cy B0 yX12_nameOf.cls cX12_nameOf 7 (some .int) bc bs bc bs 1 23 []) (L : zL) (k5 : Int32 → Int32 → Int32 → Int32 → zI → Option Int32) (hk5 : ∀ (v1 : Int32) (v2 : Int32) (v3 : Int32) (v4 : Int32) (I : zI), k5 v1 v2 v3 v4 I = some r → zG p l e R s m args below meth c d cy B0 7 bc bs (zQ below s args d cy B0 bc bs (.inl (some (.int r))) zSH zKn bc bs I L) 5 [(0, .ref (B0 + 97)), (1, .int v1), (2, .int v2), (3, .int v3), (4, .int v4)] [] zSH zKn bc bs I L) (v1 : Int32) (v2 : Int32) (v3 : Int32) (v4 : Int32) (v5 : Int32) (I : zI) (h : f_X12_nameOf_117 k5 v1 v2 v3 v4 v5 I = some r) : zG p l e R s m args below meth c d cy B0 7 bc bs (zQ below s args d cy B0 bc bs (.inl (some (.int r))) zSH zKn bc bs I L) 117 [(0, .ref (B0 + 97)), (1, .int v1), (2, .int v2), (3, .int v3), (4, .int v4), (5, .int v5)] [] zSH zKn bc bs I L := by
  unfold f_X12_nameOf_117 at h
  refine z_iconst C (v := 0) (by decide) dX12_nameOf_117 ?_
  exact l_X12_nameOf_118 C L k5 hk5 v1 v2 v3 v4 v5 (0 : Int32) I h
set_option maxHeartbeats 4000000 in
set_option maxRecDepth 100000 in
theorem l_X12_nameOf_77 {r : Int32} (C : zC p l e R s m args below meth c s0 a0 d cy B0 yX12_nameOf.cls cX12_nameOf 7 (some .int) bc bs bc bs 1 23 []) (L : zL) (k5 : Int32 → Int32 → Int32 → Int32 → zI → Option Int32) (hk5 : ∀ (v1 : Int32) (v2 : Int32) (v3 : Int32) (v4 : Int32) (I : zI), k5 v1 v2 v3 v4 I = some r → zG p l e R s m args below meth c d cy B0 7 bc bs (zQ below s args d cy B0 bc bs (.inl (some (.int r))) zSH zKn bc bs I L) 5 [(0, .ref (B0 + 97)), (1, .int v1), (2, .int v2), (3, .int v3), (4, .int v4)] [] zSH zKn bc bs I L) (v1 : Int32) (v2 : Int32) (v3 : Int32) (v4 : Int32) (w0 : Int32) (I : zI) (h : f_X12_nameOf_77 k5 v1 v2 v3 v4 w0 I = some r) : zG p l e R s m args below meth c d cy B0 7 bc bs (zQ below s args d cy B0 bc bs (.inl (some (.int r))) zSH zKn bc bs I L) 77 [(0, .ref (B0 + 97)), (1, .int v1), (2, .int v2), (3, .int v3), (4, .int v4)] [.int w0] zSH zKn bc bs I L := by
  unfold f_X12_nameOf_77 at h
  refine z_istore C (lv' := [(5, .int w0), (0, .ref (B0 + 97)), (1, .int v1), (2, .int v2), (3, .int v3), (4, .int v4)]) (by decide) rfl dX12_nameOf_77 ?_
  refine z_iload_n C rfl 4 rfl dX12_nameOf_79 ?_
  refine z_iconst C (v := -1) (by decide) dX12_nameOf_80 ?_
  refine z_icmp_eq C 113 (by decide) dX12_nameOf_81 (fun hc => ?_) (fun hc => ?_)
  · have h := zif_t hc h
    refine z_lv [1, 2, 3, 4, 5, 0] (lv' := [(0, .ref (B0 + 97)), (1, .int v1), (2, .int v2), (3, .int v3), (4, .int v4), (5, .int w0)]) rfl ?_
    exact l_X12_nameOf_113 C L k5 hk5 v1 v2 v3 v4 w0 I h
  · have h := zif_f hc h
    refine z_iload_n C rfl 3 rfl dX12_nameOf_84 ?_
    refine z_if_eq C 102 (by decide) dX12_nameOf_85 (fun hc => ?_) (fun hc => ?_)
    · have h := zif_t hc h
      refine z_aload_n C rfl 1 rfl dX12_nameOf_102 ?_
      refine z_getr C zc_12 dX12_nameOf_103 10 97 104 rfl (by decide) (by decide) q_1179 rfl rfl ?_
      refine z_iload C 5 rfl dX12_nameOf_106 ?_
      obtain ⟨hb9, h⟩ := zck_e h
      refine z_iaload C dX12_nameOf_108 rfl rfl (by decide) (zbd_in hb9) ?_
      refine z_iload_n C rfl 4 rfl dX12_nameOf_109 ?_
      refine z_icmp_ge C 117 (by decide) dX12_nameOf_110 (fun hc => ?_) (fun hc => ?_)
      · have h := zif_t hc h
        refine z_lv [1, 2, 3, 4, 5, 0] (lv' := [(0, .ref (B0 + 97)), (1, .int v1), (2, .int v2), (3, .int v3), (4, .int v4), (5, .int w0)]) rfl ?_
        exact l_X12_nameOf_117 C L k5 hk5 v1 v2 v3 v4 w0 I h
      · have h := zif_f hc h
        refine z_lv [1, 2, 3, 4, 5, 0] (lv' := [(0, .ref (B0 + 97)), (1, .int v1), (2, .int v2), (3, .int v3), (4, .int v4), (5, .int w0)]) rfl ?_
        exact l_X12_nameOf_113 C L k5 hk5 v1 v2 v3 v4 w0 I h
    · have h := zif_f hc h
      refine z_aload_n C rfl 1 rfl dX12_nameOf_88 ?_
      refine z_getr C zc_12 dX12_nameOf_89 10 97 104 rfl (by decide) (by decide) q_1179 rfl rfl ?_
      refine z_iload C 5 rfl dX12_nameOf_92 ?_
      obtain ⟨hb10, h⟩ := zck_e h
      refine z_iaload C dX12_nameOf_94 rfl rfl (by decide) (zbd_in hb10) ?_
      refine z_iload_n C rfl 4 rfl dX12_nameOf_95 ?_
      refine z_icmp_le C 117 (by decide) dX12_nameOf_96 (fun hc => ?_) (fun hc => ?_)
      · have h := zif_t hc h
        refine z_lv [1, 2, 3, 4, 5, 0] (lv' := [(0, .ref (B0 + 97)), (1, .int v1), (2, .int v2), (3, .int v3), (4, .int v4), (5, .int w0)]) rfl ?_
        exact l_X12_nameOf_117 C L k5 hk5 v1 v2 v3 v4 w0 I h
      · have h := zif_f hc h
        refine z_goto C 113 (by decide) dX12_nameOf_99 ?_
        refine z_lv [1, 2, 3, 4, 5, 0] (lv' := [(0, .ref (B0 + 97)), (1, .int v1), (2, .int v2), (3, .int v3), (4, .int v4), (5, .int w0)]) rfl ?_
        exact l_X12_nameOf_113 C L k5 hk5 v1 v2 v3 v4 w0 I h
set_option maxHeartbeats 4000000 in
set_option maxRecDepth 100000 in
theorem l_X12_nameOf_76 {r : Int32} (C : zC p l e R s m args below meth c s0 a0 d cy B0 yX12_nameOf.cls cX12_nameOf 7 (some .int) bc bs bc bs 1 23 []) (L : zL) (k5 : Int32 → Int32 → Int32 → Int32 → zI → Option Int32) (hk5 : ∀ (v1 : Int32) (v2 : Int32) (v3 : Int32) (v4 : Int32) (I : zI), k5 v1 v2 v3 v4 I = some r → zG p l e R s m args below meth c d cy B0 7 bc bs (zQ below s args d cy B0 bc bs (.inl (some (.int r))) zSH zKn bc bs I L) 5 [(0, .ref (B0 + 97)), (1, .int v1), (2, .int v2), (3, .int v3), (4, .int v4)] [] zSH zKn bc bs I L) (v1 : Int32) (v2 : Int32) (v3 : Int32) (v4 : Int32) (I : zI) (h : f_X12_nameOf_76 k5 v1 v2 v3 v4 I = some r) : zG p l e R s m args below meth c d cy B0 7 bc bs (zQ below s args d cy B0 bc bs (.inl (some (.int r))) zSH zKn bc bs I L) 76 [(0, .ref (B0 + 97)), (1, .int v1), (2, .int v2), (3, .int v3), (4, .int v4)] [] zSH zKn bc bs I L := by
  unfold f_X12_nameOf_76 at h
  refine z_iconst C (v := 0) (by decide) dX12_nameOf_76 ?_
  exact l_X12_nameOf_77 C L k5 hk5 v1 v2 v3 v4 (0 : Int32) I h
set_option maxHeartbeats 4000000 in
set_option maxRecDepth 100000 in
theorem l_X12_nameOf_55 {r : Int32} (C : zC p l e R s m args below meth c s0 a0 d cy B0 yX12_nameOf.cls cX12_nameOf 7 (some .int) bc bs bc bs 1 23 []) (L : zL) (k5 : Int32 → Int32 → Int32 → Int32 → zI → Option Int32) (hk5 : ∀ (v1 : Int32) (v2 : Int32) (v3 : Int32) (v4 : Int32) (I : zI), k5 v1 v2 v3 v4 I = some r → zG p l e R s m args below meth c d cy B0 7 bc bs (zQ below s args d cy B0 bc bs (.inl (some (.int r))) zSH zKn bc bs I L) 5 [(0, .ref (B0 + 97)), (1, .int v1), (2, .int v2), (3, .int v3), (4, .int v4)] [] zSH zKn bc bs I L) (v1 : Int32) (v2 : Int32) (v3 : Int32) (v4 : Int32) (w2 : Int32) (I : zI) (h : f_X12_nameOf_55 k5 v1 v2 v3 v4 w2 I = some r) : zG p l e R s m args below meth c d cy B0 7 bc bs (zQ below s args d cy B0 bc bs (.inl (some (.int r))) zSH zKn bc bs I L) 55 [(0, .ref (B0 + 97)), (1, .int v1), (2, .int v2), (3, .int v3), (4, .int v4)] [.int w2, .ref (B0 + 97), .ref (B0 + 97)] zSH zKn bc bs I L := by
  unfold f_X12_nameOf_55 at h
  refine z_aload_n C rfl 0 rfl dX12_nameOf_55 ?_
  refine z_getr C zc_12 dX12_nameOf_56 9 97 103 rfl (by decide) (by decide) q_1178 rfl rfl ?_
  refine z_iload C 4 rfl dX12_nameOf_59 ?_
  obtain ⟨hb4, h⟩ := zck_e h
  refine z_iaload C dX12_nameOf_61 rfl rfl (by decide) (zbd_in hb4) ?_
  obtain ⟨x6, hg5, h⟩ := zb1_e h
  refine z_callV C zc_12 rfl (by decide) dX12_nameOf_62 yy_X12_nodeAt (c_X12_nodeAt C.2.2.2.2.1  w2 (I 103 v4.toNatClampNeg) I L hg5) q_1485 q_1487 q_66 (by decide) (by decide) rfl rfl (Nat.le_of_ble_eq_true rfl) ⟨Nat.le_refl _, Nat.le_refl _, Nat.le_refl _, Nat.le_refl _⟩ ?_
  obtain ⟨x8, hg7, h⟩ := zb1_e h
  refine z_callV C zc_12 rfl (by decide) dX12_nameOf_65 yy_X12_netOf (c_X12_netOf C.2.2.2.2.1  x6 I L hg7) q_1521 q_1523 q_72 (by decide) (by decide) rfl rfl (Nat.le_of_ble_eq_true rfl) ⟨Nat.le_refl _, Nat.le_refl _, Nat.le_refl _, Nat.le_refl _⟩ ?_
  refine z_iload_n C rfl 1 rfl dX12_nameOf_68 ?_
  refine z_icmp_ne C 76 (by decide) dX12_nameOf_69 (fun hc => ?_) (fun hc => ?_)
  · have h := zif_f hc h
    exact l_X12_nameOf_76 C L k5 hk5 v1 v2 v3 v4 I h
  · have h := zif_t hc h
    refine z_iconst C (v := 1) (by decide) dX12_nameOf_72 ?_
    refine z_goto C 77 (by decide) dX12_nameOf_73 ?_
    exact l_X12_nameOf_77 C L k5 hk5 v1 v2 v3 v4 (1 : Int32) I h
set_option maxHeartbeats 4000000 in
set_option maxRecDepth 100000 in
theorem l_X12_nameOf_5 {r : Int32} (C : zC p l e R s m args below meth c s0 a0 d cy B0 yX12_nameOf.cls cX12_nameOf 7 (some .int) bc bs bc bs 1 23 []) (L : zL) (k5 : Int32 → Int32 → Int32 → Int32 → zI → Option Int32) (hk5 : ∀ (v1 : Int32) (v2 : Int32) (v3 : Int32) (v4 : Int32) (I : zI), k5 v1 v2 v3 v4 I = some r → zG p l e R s m args below meth c d cy B0 7 bc bs (zQ below s args d cy B0 bc bs (.inl (some (.int r))) zSH zKn bc bs I L) 5 [(0, .ref (B0 + 97)), (1, .int v1), (2, .int v2), (3, .int v3), (4, .int v4)] [] zSH zKn bc bs I L) (v1 : Int32) (v2 : Int32) (v3 : Int32) (v4 : Int32) (I : zI) (h : f_X12_nameOf_5 k5 v1 v2 v3 v4 I = some r) : zG p l e R s m args below meth c d cy B0 7 bc bs (zQ below s args d cy B0 bc bs (.inl (some (.int r))) zSH zKn bc bs I L) 5 [(0, .ref (B0 + 97)), (1, .int v1), (2, .int v2), (3, .int v3), (4, .int v4)] [] zSH zKn bc bs I L := by
  unfold f_X12_nameOf_5 at h
  refine z_iload C 4 rfl dX12_nameOf_5 ?_
  refine z_aload_n C rfl 0 rfl dX12_nameOf_7 ?_
  refine z_geti C zc_12 dX12_nameOf_8 7 97 rfl (by decide) (by decide) q_1176 rfl ?_
  refine z_icmp_ge C 148 (by decide) dX12_nameOf_11 (fun hc => ?_) (fun hc => ?_)
  · have h := zif_t hc h
    refine z_iload_n C rfl 3 rfl dX12_nameOf_148 ?_
    obtain rfl := Option.some.inj h
    exact z_iret C dX12_nameOf_149 .int rfl rfl rfl
  · have h := zif_f hc h
    refine z_aload_n C rfl 0 rfl dX12_nameOf_14 ?_
    refine z_getr C zc_12 dX12_nameOf_15 8 97 102 rfl (by decide) (by decide) q_1177 rfl rfl ?_
    refine z_iload C 4 rfl dX12_nameOf_18 ?_
    obtain ⟨hb1, h⟩ := zck_e h
    refine z_iaload C dX12_nameOf_20 rfl rfl (by decide) (zbd_in hb1) ?_
    refine z_aload_n C rfl 0 rfl dX12_nameOf_21 ?_
    refine z_geti C zc_12 dX12_nameOf_22 13 97 rfl (by decide) (by decide) q_1182 rfl ?_
    refine z_icmp_ge C 76 (by decide) dX12_nameOf_25 (fun hc => ?_) (fun hc => ?_)
    · have h := zif_t hc h
      exact l_X12_nameOf_76 C L k5 hk5 v1 v2 v3 v4 I h
    · have h := zif_f hc h
      refine z_aload_n C rfl 0 rfl dX12_nameOf_28 ?_
      refine z_aload_n C rfl 0 rfl dX12_nameOf_29 ?_
      refine z_aload_n C rfl 0 rfl dX12_nameOf_30 ?_
      refine z_getr C zc_12 dX12_nameOf_31 8 97 102 rfl (by decide) (by decide) q_1177 rfl rfl ?_
      refine z_iload C 4 rfl dX12_nameOf_34 ?_
      obtain ⟨hb2, h⟩ := zck_e h
      refine z_iaload C dX12_nameOf_36 rfl rfl (by decide) (zbd_in hb2) ?_
      refine z_aload_n C rfl 0 rfl dX12_nameOf_37 ?_
      refine z_geti C zc_12 dX12_nameOf_38 13 97 rfl (by decide) (by decide) q_1182 rfl ?_
      refine z_icmp_ge C 54 (by decide) dX12_nameOf_41 (fun hc => ?_) (fun hc => ?_)
      · have h := zif_t hc h
        refine z_iconst C (v := 0) (by decide) dX12_nameOf_54 ?_
        exact l_X12_nameOf_55 C L k5 hk5 v1 v2 v3 v4 (0 : Int32) I h
      · have h := zif_f hc h
        refine z_aload_n C rfl 0 rfl dX12_nameOf_44 ?_
        refine z_getr C zc_12 dX12_nameOf_45 8 97 102 rfl (by decide) (by decide) q_1177 rfl rfl ?_
        refine z_iload C 4 rfl dX12_nameOf_48 ?_
        obtain ⟨hb3, h⟩ := zck_e h
        refine z_iaload C dX12_nameOf_50 rfl rfl (by decide) (zbd_in hb3) ?_
        refine z_goto C 55 (by decide) dX12_nameOf_51 ?_
        exact l_X12_nameOf_55 C L k5 hk5 v1 v2 v3 v4 (I 102 v4.toNatClampNeg) I h
set_option maxHeartbeats 4000000 in
set_option maxRecDepth 100000 in
theorem L_X12_nameOf_5 {r : Int32} (C : zC p l e R s m args below meth c s0 a0 d cy B0 yX12_nameOf.cls cX12_nameOf 7 (some .int) bc bs bc bs 1 23 []) (L : zL) (v1 : Int32) (v2 : Int32) (v3 : Int32) (v4 : Int32) (I : zI) (h : zlp5 (f_X12_nameOf_5) zF v1 v2 v3 v4 I = some r) : zG p l e R s m args below meth c d cy B0 7 bc bs (zQ below s args d cy B0 bc bs (.inl (some (.int r))) zSH zKn bc bs I L) 5 [(0, .ref (B0 + 97)), (1, .int v1), (2, .int v2), (3, .int v3), (4, .int v4)] [] zSH zKn bc bs I L :=
 zlp5_e (fun (v1 : Int32) (v2 : Int32) (v3 : Int32) (v4 : Int32) (I : zI) => zG p l e R s m args below meth c d cy B0 7 bc bs (zQ below s args d cy B0 bc bs (.inl (some (.int r))) zSH zKn bc bs I L) 5 [(0, .ref (B0 + 97)), (1, .int v1), (2, .int v2), (3, .int v3), (4, .int v4)] [] zSH zKn bc bs I L) (fun k9 hk9 v1 v2 v3 v4 I h => l_X12_nameOf_5 C L k9 hk9 v1 v2 v3 v4 I h) zF v1 v2 v3 v4 I h
set_option maxHeartbeats 4000000 in
set_option maxRecDepth 100000 in
theorem c_X12_nameOf {r : Int32} (hE : zE0 l s0 a0 d cy B0) (a1 : Int32) (a2 : Int32) (I : zI) (L : zL) (h : f_X12_nameOf a1 a2 I = some r) : zM l s0 d cy B0 yX12_nameOf cX12_nameOf 7 (some .int) 1 23 [.ref (B0 + 97), .int a1, .int a2] zSH zKn bc bs I L (.inl (some (.int r))) zSH zKn bc bs I L := by
  refine z_meth yy_X12_nameOf hE (Nat.le_of_ble_eq_true rfl) (fun p e R s m args below meth c C => ?_)
  show zG p l e R s m args below meth c d cy B0 7 bc bs (zQ below s args d cy B0 bc bs (.inl (some (.int r))) zSH zKn bc bs I L) 0 [(0, .ref (B0 + 97)), (1, .int a1), (2, .int a2)] [] zSH zKn bc bs I L
  unfold f_X12_nameOf at h
  refine z_iconst C (v := -1) (by decide) dX12_nameOf_0 ?_
  refine z_istore_n C (lv' := [(3, .int (-1 : Int32)), (0, .ref (B0 + 97)), (1, .int a1), (2, .int a2)]) rfl (by decide) rfl dX12_nameOf_1 ?_
  refine z_iconst C (v := 0) (by decide) dX12_nameOf_2 ?_
  refine z_istore C (lv' := [(4, .int (0 : Int32)), (3, .int (-1 : Int32)), (0, .ref (B0 + 97)), (1, .int a1), (2, .int a2)]) (by decide) rfl dX12_nameOf_3 ?_
  refine z_lv [2, 3, 4, 1, 0] (lv' := [(0, .ref (B0 + 97)), (1, .int a1), (2, .int a2), (3, .int (-1 : Int32)), (4, .int (0 : Int32))]) rfl ?_
  exact L_X12_nameOf_5 C L a1 a2 (-1 : Int32) (0 : Int32) I h
end Zp05_21_walk
