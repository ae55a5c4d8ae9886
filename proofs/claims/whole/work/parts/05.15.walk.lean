section Zp05_15_walk
variable {p : Program} {l : Launch} {e : Env} {R : Room} {s : State} {m : MethodId} {args : Array Value} {below : List Frame} {meth : Method} {c : Code} {s0 : State} {a0 : Array Value} {d : va_G} {cy : Nat → ClassId} {B0 : Nat} {bc bs : Nat}
theorem q_1211 : (Cond.fieldLink "DeviceFindModel" (98 : Nat) "DeviceFindModel" "deviceAt" "[I") ∈ lw_tbl := List.mem_of_getElem? (i := 1211) (by decide +kernel)
theorem q_1214 : (Cond.fieldLink "DeviceFindModel" (107 : Nat) "DeviceFindModel" "sizes" "[J") ∈ lw_tbl := List.mem_of_getElem? (i := 1214) (by decide +kernel)
theorem q_1504 : (Cond.code ({ cls := "DeviceFindModel", name := "measure", desc := "(III)V" } : Jvm.MethodName) prog_14_method_41_code (11 : Nat) (Option.none : Option Jvm.ClassFile.FieldType)) ∈ lw_tbl := List.mem_of_getElem? (i := 1504) (by decide +kernel)
theorem yy_X12_measure : zY yX12_measure cX12_measure 11 none 3 := ⟨q_1504, q_88, by decide +kernel, by decide +kernel, by decide +kernel⟩
def f_X12_measure_216 (k35 : Int32 → Int32 → Int32 → Int32 → Int32 → Int32 → zI → zL → Option (zI × zL)) (k105 : Int32 → Int32 → Int32 → Int32 → Int32 → Int32 → Int32 → zI → zL → Option (zI × zL)) (v1 : Int32) (v3 : Int32) (v4 : Int32) (v5 : Int32) (v6 : Int32) (v7 : Int32) (v8 : Int32) (w1 : Int32) (w2 : Int64) (w3 : Int64) (I : zI) (L : zL) : Option (zI × zL) :=
  zck (zbd w1 900) (zlt (zul L 129 w1.toNatClampNeg (w2 + w3)) (fun L35 => zlt (v8 + 1) (fun x36 => k105 v1 v3 v4 v5 v6 v7 x36 I L35)))
def f_X12_measure_215 (k35 : Int32 → Int32 → Int32 → Int32 → Int32 → Int32 → zI → zL → Option (zI × zL)) (k105 : Int32 → Int32 → Int32 → Int32 → Int32 → Int32 → Int32 → zI → zL → Option (zI × zL)) (v1 : Int32) (v3 : Int32) (v4 : Int32) (v5 : Int32) (v6 : Int32) (v7 : Int32) (v8 : Int32) (w1 : Int32) (w2 : Int64) (I : zI) (L : zL) : Option (zI × zL) :=
  f_X12_measure_216 k35 k105 v1 v3 v4 v5 v6 v7 v8 w1 w2 (0 : Int64) I L
def f_X12_measure_168 (k35 : Int32 → Int32 → Int32 → Int32 → Int32 → Int32 → zI → zL → Option (zI × zL)) (k105 : Int32 → Int32 → Int32 → Int32 → Int32 → Int32 → Int32 → zI → zL → Option (zI × zL)) (v1 : Int32) (v3 : Int32) (v4 : Int32) (v5 : Int32) (v6 : Int32) (v7 : Int32) (v8 : Int32) (v9 : Int32) (v10 : Int32) (w1 : Int32) (w2 : Int64) (w3 : Int64) (I : zI) (L : zL) : Option (zI × zL) :=
  zck (zbd w1 900) (zlt (zul L 129 w1.toNatClampNeg (w2 + w3)) (fun L29 => zlt (((3 : Int32) * v1) + (2 : Int32)) (fun x30 => zck (zbd x30 900) (if v10 = 0 then (if v9 = (-1 : Int32) then (f_X12_measure_215 k35 k105 v1 v3 v4 v5 v6 v7 v8 x30 (L29 129 x30.toNatClampNeg) I L29) else (if v6 = (-1 : Int32) then (f_X12_measure_215 k35 k105 v1 v3 v4 v5 v6 v7 v8 x30 (L29 129 x30.toNatClampNeg) I L29) else (zb1 (f_X12_nodeAt v5 v9 I) (fun x33 => if x33 = v6 then (f_X12_measure_216 k35 k105 v1 v3 v4 v5 v6 v7 v8 x30 (L29 129 x30.toNatClampNeg) (1 : Int64) I L29) else (f_X12_measure_215 k35 k105 v1 v3 v4 v5 v6 v7 v8 x30 (L29 129 x30.toNatClampNeg) I L29))))) else (f_X12_measure_215 k35 k105 v1 v3 v4 v5 v6 v7 v8 x30 (L29 129 x30.toNatClampNeg) I L29)))))
def f_X12_measure_145 (k35 : Int32 → Int32 → Int32 → Int32 → Int32 → Int32 → zI → zL → Option (zI × zL)) (k105 : Int32 → Int32 → Int32 → Int32 → Int32 → Int32 → Int32 → zI → zL → Option (zI × zL)) (v1 : Int32) (v3 : Int32) (v4 : Int32) (v5 : Int32) (v6 : Int32) (v7 : Int32) (v8 : Int32) (v9 : Int32) (w0 : Int32) (I : zI) (L : zL) : Option (zI × zL) :=
  zlt (((3 : Int32) * v1) + (1 : Int32)) (fun x26 => zck (zbd x26 900) (if w0 = 0 then (f_X12_measure_168 k35 k105 v1 v3 v4 v5 v6 v7 v8 v9 w0 x26 (L 129 x26.toNatClampNeg) (1 : Int64) I L) else (f_X12_measure_168 k35 k105 v1 v3 v4 v5 v6 v7 v8 v9 w0 x26 (L 129 x26.toNatClampNeg) (0 : Int64) I L)))
def f_X12_measure_144 (k35 : Int32 → Int32 → Int32 → Int32 → Int32 → Int32 → zI → zL → Option (zI × zL)) (k105 : Int32 → Int32 → Int32 → Int32 → Int32 → Int32 → Int32 → zI → zL → Option (zI × zL)) (v1 : Int32) (v3 : Int32) (v4 : Int32) (v5 : Int32) (v6 : Int32) (v7 : Int32) (v8 : Int32) (v9 : Int32) (I : zI) (L : zL) : Option (zI × zL) :=
  f_X12_measure_145 k35 k105 v1 v3 v4 v5 v6 v7 v8 v9 (0 : Int32) I L
def f_X12_measure_224 (k35 : Int32 → Int32 → Int32 → Int32 → Int32 → Int32 → zI → zL → Option (zI × zL)) (v1 : Int32) (v3 : Int32) (v4 : Int32) (v5 : Int32) (v6 : Int32) (v7 : Int32) (I : zI) (L : zL) : Option (zI × zL) :=
  zlt (v7 + 1) (fun x21 => k35 v1 v3 v4 v5 v6 x21 I L)
def f_X12_measure_105 (k35 : Int32 → Int32 → Int32 → Int32 → Int32 → Int32 → zI → zL → Option (zI × zL)) (k105 : Int32 → Int32 → Int32 → Int32 → Int32 → Int32 → Int32 → zI → zL → Option (zI × zL)) (v1 : Int32) (v3 : Int32) (v4 : Int32) (v5 : Int32) (v6 : Int32) (v7 : Int32) (v8 : Int32) (I : zI) (L : zL) : Option (zI × zL) :=
  if (4 : Int32) ≤ v8 then (f_X12_measure_224 k35 v1 v3 v4 v5 v6 v7 I L) else (zb1 (f_X12_beside v7 v8) (fun x23 => if x23 = (-1 : Int32) then (f_X12_measure_144 k35 k105 v1 v3 v4 v5 v6 v7 v8 x23 I L) else (zlt (v4 + x23) (fun x24 => zck (zbd x24 98304) (if (I 119 x24.toNatClampNeg) = v3 then (f_X12_measure_145 k35 k105 v1 v3 v4 v5 v6 v7 v8 x23 (1 : Int32) I L) else (f_X12_measure_144 k35 k105 v1 v3 v4 v5 v6 v7 v8 x23 I L))))))
def f_X12_measure_89 (k35 : Int32 → Int32 → Int32 → Int32 → Int32 → Int32 → zI → zL → Option (zI × zL)) (v1 : Int32) (v3 : Int32) (v4 : Int32) (v5 : Int32) (v6 : Int32) (v7 : Int32) (w1 : Int32) (w2 : Int32) (I : zI) (L : zL) : Option (zI × zL) :=
  zck (zbd w1 300) (zlt (zu I 126 w1.toNatClampNeg w2) (fun I15 => zlt ((3 : Int32) * v1) (fun x16 => zck (zbd x16 900) (zlt ((L 129 x16.toNatClampNeg) + (1 : Int64)) (fun x18 => zck (zbd x16 900) (zlt (zul L 129 x16.toNatClampNeg x18) (fun L20 => zlp9 (f_X12_measure_105 k35) zF v1 v3 v4 v5 v6 v7 (0 : Int32) I15 L20)))))))
def f_X12_measure_35 (k35 : Int32 → Int32 → Int32 → Int32 → Int32 → Int32 → zI → zL → Option (zI × zL)) (v1 : Int32) (v3 : Int32) (v4 : Int32) (v5 : Int32) (v6 : Int32) (v7 : Int32) (I : zI) (L : zL) : Option (zI × zL) :=
  if (4096 : Int32) ≤ v7 then (some (I, L)) else (zlt (v4 + v7) (fun x9 => zck (zbd x9 98304) (if (I 119 x9.toNatClampNeg) = v3 then (zlt ((3 : Int32) * v1) (fun x11 => zck (zbd x11 900) (if (L 129 x11.toNatClampNeg) = (0 : Int64) then (f_X12_measure_89 k35 v1 v3 v4 v5 v6 v7 v1 v7 I L) else (zck (zbd v1 300) (f_X12_measure_89 k35 v1 v3 v4 v5 v6 v7 v1 (I 126 v1.toNatClampNeg) I L))))) else (f_X12_measure_224 k35 v1 v3 v4 v5 v6 v7 I L))))
def f_X12_measure (a1 : Int32) (a2 : Int32) (a3 : Int32) (I : zI) (L : zL) : Option (zI × zL) :=
  zck (zbd a2 16) (zlt ((4096 : Int32) * (I 114 a2.toNatClampNeg)) (fun x2 => zlt ((4 : Int32) * a2) (fun x3 => zck (zbd x3 64) (zlt (I 116 x3.toNatClampNeg) (fun x5 => zlt ((4 : Int32) * a1) (fun x6 => zck (zbd x6 1200) (zlt (I 128 x6.toNatClampNeg) (fun x8 => zlp8 (f_X12_measure_35) zF a1 a3 x2 x5 x8 (0 : Int32) I L))))))))
set_option maxHeartbeats 4000000 in
set_option maxRecDepth 100000 in
theorem l_X12_measure_216 {r : zI × zL} (C : zC p l e R s m args below meth c s0 a0 d cy B0 yX12_measure.cls cX12_measure 11 none bc bs bc bs 2 46 []) (k35 : Int32 → Int32 → Int32 → Int32 → Int32 → Int32 → zI → zL → Option (zI × zL)) (hk35 : ∀ (v1 : Int32) (v3 : Int32) (v4 : Int32) (v5 : Int32) (v6 : Int32) (v7 : Int32) (I : zI) (L : zL), k35 v1 v3 v4 v5 v6 v7 I L = some r → zG p l e R s m args below meth c d cy B0 11 bc bs (zQ below s args d cy B0 bc bs (.inl none) zSH zKn bc bs r.1 r.2) 35 [(0, .ref (B0 + 97)), (1, .int v1), (3, .int v3), (4, .int v4), (5, .int v5), (6, .int v6), (7, .int v7)] [] zSH zKn bc bs I L) (k105 : Int32 → Int32 → Int32 → Int32 → Int32 → Int32 → Int32 → zI → zL → Option (zI × zL)) (hk105 : ∀ (v1 : Int32) (v3 : Int32) (v4 : Int32) (v5 : Int32) (v6 : Int32) (v7 : Int32) (v8 : Int32) (I : zI) (L : zL), k105 v1 v3 v4 v5 v6 v7 v8 I L = some r → zG p l e R s m args below meth c d cy B0 11 bc bs (zQ below s args d cy B0 bc bs (.inl none) zSH zKn bc bs r.1 r.2) 105 [(0, .ref (B0 + 97)), (1, .int v1), (3, .int v3), (4, .int v4), (5, .int v5), (6, .int v6), (7, .int v7), (8, .int v8)] [] zSH zKn bc bs I L) (v1 : Int32) (v3 : Int32) (v4 : Int32) (v5 : Int32) (v6 : Int32) (v7 : Int32) (v8 : Int32) (w1 : Int32) (w2 : Int64) (w3 : Int64) (I : zI) (L : zL) (h : f_X12_measure_216 k35 k105 v1 v3 v4 v5 v6 v7 v8 w1 w2 w3 I L = some r) : zG p l e R s m args below meth c d cy B0 11 bc bs (zQ below s args d cy B0 bc bs (.inl none) zSH zKn bc bs r.1 r.2) 216 [(0, .ref (B0 + 97)), (1, .int v1), (3, .int v3), (4, .int v4), (5, .int v5), (6, .int v6), (7, .int v7), (8, .int v8)] [.long w3, .long w2, .int w1, .ref (B0 + 129)] zSH zKn bc bs I L := by
  unfold f_X12_measure_216 at h
  refine z_ladd C dX12_measure_216 ?_
  obtain ⟨hb34, h⟩ := zck_e h
  refine z_lastore C dX12_measure_217 rfl rfl (by decide) (zbd_in hb34) ?_
  obtain ⟨L35, eL35, h⟩ := zlt_e h
  refine z_eqL C eL35 ?_
  obtain ⟨x36, ex36, h⟩ := zlt_e h
  refine z_iinc C (j := 7) (v := x36) (lv' := [(8, .int x36), (0, .ref (B0 + 97)), (1, .int v1), (3, .int v3), (4, .int v4), (5, .int v5), (6, .int v6), (7, .int v7)]) rfl (by rw [ex36]; rfl) (by decide) rfl dX12_measure_218 ?_
  refine z_goto C 105 (by decide) dX12_measure_221 ?_
  refine z_lv [1, 2, 3, 4, 5, 6, 7, 0] (lv' := [(0, .ref (B0 + 97)), (1, .int v1), (3, .int v3), (4, .int v4), (5, .int v5), (6, .int v6), (7, .int v7), (8, .int x36)]) rfl ?_
  exact hk105 v1 v3 v4 v5 v6 v7 x36 I L35 h
set_option maxHeartbeats 4000000 in
set_option maxRecDepth 100000 in
theorem l_X12_measure_215 {r : zI × zL} (C : zC p l e R s m args below meth c s0 a0 d cy B0 yX12_measure.cls cX12_measure 11 none bc bs bc bs 2 46 []) (k35 : Int32 → Int32 → Int32 → Int32 → Int32 → Int32 → zI → zL → Option (zI × zL)) (hk35 : ∀ (v1 : Int32) (v3 : Int32) (v4 : Int32) (v5 : Int32) (v6 : Int32) (v7 : Int32) (I : zI) (L : zL), k35 v1 v3 v4 v5 v6 v7 I L = some r → zG p l e R s m args below meth c d cy B0 11 bc bs (zQ below s args d cy B0 bc bs (.inl none) zSH zKn bc bs r.1 r.2) 35 [(0, .ref (B0 + 97)), (1, .int v1), (3, .int v3), (4, .int v4), (5, .int v5), (6, .int v6), (7, .int v7)] [] zSH zKn bc bs I L) (k105 : Int32 → Int32 → Int32 → Int32 → Int32 → Int32 → Int32 → zI → zL → Option (zI × zL)) (hk105 : ∀ (v1 : Int32) (v3 : Int32) (v4 : Int32) (v5 : Int32) (v6 : Int32) (v7 : Int32) (v8 : Int32) (I : zI) (L : zL), k105 v1 v3 v4 v5 v6 v7 v8 I L = some r → zG p l e R s m args below meth c d cy B0 11 bc bs (zQ below s args d cy B0 bc bs (.inl none) zSH zKn bc bs r.1 r.2) 105 [(0, .ref (B0 + 97)), (1, .int v1), (3, .int v3), (4, .int v4), (5, .int v5), (6, .int v6), (7, .int v7), (8, .int v8)] [] zSH zKn bc bs I L) (v1 : Int32) (v3 : Int32) (v4 : Int32) (v5 : Int32) (v6 : Int32) (v7 : Int32) (v8 : Int32) (w1 : Int32) (w2 : Int64) (I : zI) (L : zL) (h : f_X12_measure_215 k35 k105 v1 v3 v4 v5 v6 v7 v8 w1 w2 I L = some r) : zG p l e R s m args below meth c d cy B0 11 bc bs (zQ below s args d cy B0 bc bs (.inl none) zSH zKn bc bs r.1 r.2) 215 [(0, .ref (B0 + 97)), (1, .int v1), (3, .int v3), (4, .int v4), (5, .int v5), (6, .int v6), (7, .int v7), (8, .int v8)] [.long w2, .int w1, .ref (B0 + 129)] zSH zKn bc bs I L := by
  unfold f_X12_measure_215 at h
  refine z_lconst C (v := 0) (by decide) dX12_measure_215 ?_
  exact l_X12_measure_216 C k35 hk35 k105 hk105 v1 v3 v4 v5 v6 v7 v8 w1 w2 (0 : Int64) I L h
set_option maxHeartbeats 4000000 in
set_option maxRecDepth 100000 in
theorem l_X12_measure_168 {r : zI × zL} (C : zC p l e R s m args below meth c s0 a0 d cy B0 yX12_measure.cls cX12_measure 11 none bc bs bc bs 2 46 []) (k35 : Int32 → Int32 → Int32 → Int32 → Int32 → Int32 → zI → zL → Option (zI × zL)) (hk35 : ∀ (v1 : Int32) (v3 : Int32) (v4 : Int32) (v5 : Int32) (v6 : Int32) (v7 : Int32) (I : zI) (L : zL), k35 v1 v3 v4 v5 v6 v7 I L = some r → zG p l e R s m args below meth c d cy B0 11 bc bs (zQ below s args d cy B0 bc bs (.inl none) zSH zKn bc bs r.1 r.2) 35 [(0, .ref (B0 + 97)), (1, .int v1), (3, .int v3), (4, .int v4), (5, .int v5), (6, .int v6), (7, .int v7)] [] zSH zKn bc bs I L) (k105 : Int32 → Int32 → Int32 → Int32 → Int32 → Int32 → Int32 → zI → zL → Option (zI × zL)) (hk105 : ∀ (v1 : Int32) (v3 : Int32) (v4 : Int32) (v5 : Int32) (v6 : Int32) (v7 : Int32) (v8 : Int32) (I : zI) (L : zL), k105 v1 v3 v4 v5 v6 v7 v8 I L = some r → zG p l e R s m args below meth c d cy B0 11 bc bs (zQ below s args d cy B0 bc bs (.inl none) zSH zKn bc bs r.1 r.2) 105 [(0, .ref (B0 + 97)), (1, .int v1), (3, .int v3), (4, .int v4), (5, .int v5), (6, .int v6), (7, .int v7), (8, .int v8)] [] zSH zKn bc bs I L) (v1 : Int32) (v3 : Int32) (v4 : Int32) (v5 : Int32) (v6 : Int32) (v7 : Int32) (v8 : Int32) (v9 : Int32) (v10 : Int32) (w1 : Int32) (w2 : Int64) (w3 : Int64) (I : zI) (L : zL) (h : f_X12_measure_168 k35 k105 v1 v3 v4 v5 v6 v7 v8 v9 v10 w1 w2 w3 I L = some r) : zG p l e R s m args below meth c d cy B0 11 bc bs (zQ below s args d cy B0 bc bs (.inl none) zSH zKn bc bs r.1 r.2) 168 [(0, .ref (B0 + 97)), (1, .int v1), (3, .int v3), (4, .int v4), (5, .int v5), (6, .int v6), (7, .int v7), (8, .int v8), (9, .int v9), (10, .int v10)] [.long w3, .long w2, .int w1, .ref (B0 + 129)] zSH zKn bc bs I L := by
  unfold f_X12_measure_168 at h
  refine z_ladd C dX12_measure_168 ?_
  obtain ⟨hb28, h⟩ := zck_e h
  refine z_lastore C dX12_measure_169 rfl rfl (by decide) (zbd_in hb28) ?_
  obtain ⟨L29, eL29, h⟩ := zlt_e h
  refine z_eqL C eL29 ?_
  refine z_aload_n C rfl 0 rfl dX12_measure_170 ?_
  refine z_getr C zc_12 dX12_measure_171 45 97 129 rfl (by decide) (by decide) q_1214 rfl rfl ?_
  refine z_iconst C (v := 3) (by decide) dX12_measure_174 ?_
  refine z_iload_n C rfl 1 rfl dX12_measure_175 ?_
  refine z_imul C dX12_measure_176 ?_
  refine z_iconst C (v := 2) (by decide) dX12_measure_177 ?_
  refine z_iadd C dX12_measure_178 ?_
  obtain ⟨x30, ex30, h⟩ := zlt_e h
  refine z_eqi C ex30 ?_
  refine z_dup2_11 C rfl rfl dX12_measure_179 ?_
  obtain ⟨hb31, h⟩ := zck_e h
  refine z_laload C dX12_measure_180 rfl rfl (by decide) (zbd_in hb31) ?_
  refine z_iload C 9 rfl dX12_measure_181 ?_
  refine z_if_ne C 215 (by decide) dX12_measure_183 (fun hc => ?_) (fun hc => ?_)
  · have h := zif_f hc h
    refine z_lv [0, 1, 2, 3, 4, 5, 6, 7] (lv' := [(0, .ref (B0 + 97)), (1, .int v1), (3, .int v3), (4, .int v4), (5, .int v5), (6, .int v6), (7, .int v7), (8, .int v8)]) rfl ?_
    exact l_X12_measure_215 C k35 hk35 k105 hk105 v1 v3 v4 v5 v6 v7 v8 x30 (L29 129 x30.toNatClampNeg) I L29 h
  · have h := zif_t hc h
    refine z_iload C 8 rfl dX12_measure_186 ?_
    refine z_iconst C (v := -1) (by decide) dX12_measure_188 ?_
    refine z_icmp_eq C 215 (by decide) dX12_measure_189 (fun hc => ?_) (fun hc => ?_)
    · have h := zif_t hc h
      refine z_lv [0, 1, 2, 3, 4, 5, 6, 7] (lv' := [(0, .ref (B0 + 97)), (1, .int v1), (3, .int v3), (4, .int v4), (5, .int v5), (6, .int v6), (7, .int v7), (8, .int v8)]) rfl ?_
      exact l_X12_measure_215 C k35 hk35 k105 hk105 v1 v3 v4 v5 v6 v7 v8 x30 (L29 129 x30.toNatClampNeg) I L29 h
    · have h := zif_f hc h
      refine z_iload C 5 rfl dX12_measure_192 ?_
      refine z_iconst C (v := -1) (by decide) dX12_measure_194 ?_
      refine z_icmp_eq C 215 (by decide) dX12_measure_195 (fun hc => ?_) (fun hc => ?_)
      · have h := zif_t hc h
        refine z_lv [0, 1, 2, 3, 4, 5, 6, 7] (lv' := [(0, .ref (B0 + 97)), (1, .int v1), (3, .int v3), (4, .int v4), (5, .int v5), (6, .int v6), (7, .int v7), (8, .int v8)]) rfl ?_
        exact l_X12_measure_215 C k35 hk35 k105 hk105 v1 v3 v4 v5 v6 v7 v8 x30 (L29 129 x30.toNatClampNeg) I L29 h
      · have h := zif_f hc h
        refine z_aload_n C rfl 0 rfl dX12_measure_198 ?_
        refine z_iload C 4 rfl dX12_measure_199 ?_
        refine z_iload C 8 rfl dX12_measure_201 ?_
        obtain ⟨x33, hg32, h⟩ := zb1_e h
        refine z_callV C zc_12 rfl (by decide) dX12_measure_203 yy_X12_nodeAt (c_X12_nodeAt C.2.2.2.2.1  v5 v9 I L29 hg32) q_1485 q_1487 q_66 (by decide) (by decide) rfl rfl (Nat.le_of_ble_eq_true rfl) ⟨Nat.le_refl _, Nat.le_refl _, Nat.le_refl _, Nat.le_refl _⟩ ?_
        refine z_iload C 5 rfl dX12_measure_206 ?_
        refine z_icmp_ne C 215 (by decide) dX12_measure_208 (fun hc => ?_) (fun hc => ?_)
        · have h := zif_f hc h
          refine z_lv [0, 1, 2, 3, 4, 5, 6, 7] (lv' := [(0, .ref (B0 + 97)), (1, .int v1), (3, .int v3), (4, .int v4), (5, .int v5), (6, .int v6), (7, .int v7), (8, .int v8)]) rfl ?_
          exact l_X12_measure_215 C k35 hk35 k105 hk105 v1 v3 v4 v5 v6 v7 v8 x30 (L29 129 x30.toNatClampNeg) I L29 h
        · have h := zif_t hc h
          refine z_lconst C (v := 1) (by decide) dX12_measure_211 ?_
          refine z_goto C 216 (by decide) dX12_measure_212 ?_
          refine z_lv [0, 1, 2, 3, 4, 5, 6, 7] (lv' := [(0, .ref (B0 + 97)), (1, .int v1), (3, .int v3), (4, .int v4), (5, .int v5), (6, .int v6), (7, .int v7), (8, .int v8)]) rfl ?_
          exact l_X12_measure_216 C k35 hk35 k105 hk105 v1 v3 v4 v5 v6 v7 v8 x30 (L29 129 x30.toNatClampNeg) (1 : Int64) I L29 h
set_option maxHeartbeats 4000000 in
set_option maxRecDepth 100000 in
theorem l_X12_measure_145 {r : zI × zL} (C : zC p l e R s m args below meth c s0 a0 d cy B0 yX12_measure.cls cX12_measure 11 none bc bs bc bs 2 46 []) (k35 : Int32 → Int32 → Int32 → Int32 → Int32 → Int32 → zI → zL → Option (zI × zL)) (hk35 : ∀ (v1 : Int32) (v3 : Int32) (v4 : Int32) (v5 : Int32) (v6 : Int32) (v7 : Int32) (I : zI) (L : zL), k35 v1 v3 v4 v5 v6 v7 I L = some r → zG p l e R s m args below meth c d cy B0 11 bc bs (zQ below s args d cy B0 bc bs (.inl none) zSH zKn bc bs r.1 r.2) 35 [(0, .ref (B0 + 97)), (1, .int v1), (3, .int v3), (4, .int v4), (5, .int v5), (6, .int v6), (7, .int v7)] [] zSH zKn bc bs I L) (k105 : Int32 → Int32 → Int32 → Int32 → Int32 → Int32 → Int32 → zI → zL → Option (zI × zL)) (hk105 : ∀ (v1 : Int32) (v3 : Int32) (v4 : Int32) (v5 : Int32) (v6 : Int32) (v7 : Int32) (v8 : Int32) (I : zI) (L : zL), k105 v1 v3 v4 v5 v6 v7 v8 I L = some r → zG p l e R s m args below meth c d cy B0 11 bc bs (zQ below s args d cy B0 bc bs (.inl none) zSH zKn bc bs r.1 r.2) 105 [(0, .ref (B0 + 97)), (1, .int v1), (3, .int v3), (4, .int v4), (5, .int v5), (6, .int v6), (7, .int v7), (8, .int v8)] [] zSH zKn bc bs I L) (v1 : Int32) (v3 : Int32) (v4 : Int32) (v5 : Int32) (v6 : Int32) (v7 : Int32) (v8 : Int32) (v9 : Int32) (w0 : Int32) (I : zI) (L : zL) (h : f_X12_measure_145 k35 k105 v1 v3 v4 v5 v6 v7 v8 v9 w0 I L = some r) : zG p l e R s m args below meth c d cy B0 11 bc bs (zQ below s args d cy B0 bc bs (.inl none) zSH zKn bc bs r.1 r.2) 145 [(0, .ref (B0 + 97)), (1, .int v1), (3, .int v3), (4, .int v4), (5, .int v5), (6, .int v6), (7, .int v7), (8, .int v8), (9, .int v9)] [.int w0] zSH zKn bc bs I L := by
  unfold f_X12_measure_145 at h
  refine z_istore C (lv' := [(10, .int w0), (0, .ref (B0 + 97)), (1, .int v1), (3, .int v3), (4, .int v4), (5, .int v5), (6, .int v6), (7, .int v7), (8, .int v8), (9, .int v9)]) (by decide) rfl dX12_measure_145 ?_
  refine z_aload_n C rfl 1 rfl dX12_measure_147 ?_
  refine z_getr C zc_12 dX12_measure_148 45 97 129 rfl (by decide) (by decide) q_1214 rfl rfl ?_
  refine z_iconst C (v := 3) (by decide) dX12_measure_151 ?_
  refine z_iload_n C rfl 2 rfl dX12_measure_152 ?_
  refine z_imul C dX12_measure_153 ?_
  refine z_iconst C (v := 1) (by decide) dX12_measure_154 ?_
  refine z_iadd C dX12_measure_155 ?_
  obtain ⟨x26, ex26, h⟩ := zlt_e h
  refine z_eqi C ex26 ?_
  refine z_dup2_11 C rfl rfl dX12_measure_156 ?_
  obtain ⟨hb27, h⟩ := zck_e h
  refine z_laload C dX12_measure_157 rfl rfl (by decide) (zbd_in hb27) ?_
  refine z_iload C 0 rfl dX12_measure_158 ?_
  refine z_if_eq C 167 (by decide) dX12_measure_160 (fun hc => ?_) (fun hc => ?_)
  · have h := zif_t hc h
    refine z_lconst C (v := 1) (by decide) dX12_measure_167 ?_
    refine z_lv [1, 2, 3, 4, 5, 6, 7, 8, 9, 0] (lv' := [(0, .ref (B0 + 97)), (1, .int v1), (3, .int v3), (4, .int v4), (5, .int v5), (6, .int v6), (7, .int v7), (8, .int v8), (9, .int v9), (10, .int w0)]) rfl ?_
    exact l_X12_measure_168 C k35 hk35 k105 hk105 v1 v3 v4 v5 v6 v7 v8 v9 w0 x26 (L 129 x26.toNatClampNeg) (1 : Int64) I L h
  · have h := zif_f hc h
    refine z_lconst C (v := 0) (by decide) dX12_measure_163 ?_
    refine z_goto C 168 (by decide) dX12_measure_164 ?_
    refine z_lv [1, 2, 3, 4, 5, 6, 7, 8, 9, 0] (lv' := [(0, .ref (B0 + 97)), (1, .int v1), (3, .int v3), (4, .int v4), (5, .int v5), (6, .int v6), (7, .int v7), (8, .int v8), (9, .int v9), (10, .int w0)]) rfl ?_
    exact l_X12_measure_168 C k35 hk35 k105 hk105 v1 v3 v4 v5 v6 v7 v8 v9 w0 x26 (L 129 x26.toNatClampNeg) (0 : Int64) I L h
set_option maxHeartbeats 4000000 in
set_option maxRecDepth 100000 in
theorem l_X12_measure_144 {r : zI × zL} (C : zC p l e R s m args below meth c s0 a0 d cy B0 yX12_measure.cls cX12_measure 11 none bc bs bc bs 2 46 []) (k35 : Int32 → Int32 → Int32 → Int32 → Int32 → Int32 → zI → zL → Option (zI × zL)) (hk35 : ∀ (v1 : Int32) (v3 : Int32) (v4 : Int32) (v5 : Int32) (v6 : Int32) (v7 : Int32) (I : zI) (L : zL), k35 v1 v3 v4 v5 v6 v7 I L = some r → zG p l e R s m args below meth c d cy B0 11 bc bs (zQ below s args d cy B0 bc bs (.inl none) zSH zKn bc bs r.1 r.2) 35 [(0, .ref (B0 + 97)), (1, .int v1), (3, .int v3), (4, .int v4), (5, .int v5), (6, .int v6), (7, .int v7)] [] zSH zKn bc bs I L) (k105 : Int32 → Int32 → Int32 → Int32 → Int32 → Int32 → Int32 → zI → zL → Option (zI × zL)) (hk105 : ∀ (v1 : Int32) (v3 : Int32) (v4 : Int32) (v5 : Int32) (v6 : Int32) (v7 : Int32) (v8 : Int32) (I : zI) (L : zL), k105 v1 v3 v4 v5 v6 v7 v8 I L = some r → zG p l e R s m args below meth c d cy B0 11 bc bs (zQ below s args d cy B0 bc bs (.inl none) zSH zKn bc bs r.1 r.2) 105 [(0, .ref (B0 + 97)), (1, .int v1), (3, .int v3), (4, .int v4), (5, .int v5), (6, .int v6), (7, .int v7), (8, .int v8)] [] zSH zKn bc bs I L) (v1 : Int32) (v3 : Int32) (v4 : Int32) (v5 : Int32) (v6 : Int32) (v7 : Int32) (v8 : Int32) (v9 : Int32) (I : zI) (L : zL) (h : f_X12_measure_144 k35 k105 v1 v3 v4 v5 v6 v7 v8 v9 I L = some r) : zG p l e R s m args below meth c d cy B0 11 bc bs (zQ below s args d cy B0 bc bs (.inl none) zSH zKn bc bs r.1 r.2) 144 [(0, .ref (B0 + 97)), (1, .int v1), (3, .int v3), (4, .int v4), (5, .int v5), (6, .int v6), (7, .int v7), (8, .int v8), (9, .int v9)] [] zSH zKn bc bs I L := by
  unfold f_X12_measure_144 at h
  refine z_iconst C (v := 0) (by decide) dX12_measure_144 ?_
  exact l_X12_measure_145 C k35 hk35 k105 hk105 v1 v3 v4 v5 v6 v7 v8 v9 (0 : Int32) I L h
set_option maxHeartbeats 4000000 in
set_option maxRecDepth 100000 in
theorem l_X12_measure_224 {r : zI × zL} (C : zC p l e R s m args below meth c s0 a0 d cy B0 yX12_measure.cls cX12_measure 11 none bc bs bc bs 2 46 []) (k35 : Int32 → Int32 → Int32 → Int32 → Int32 → Int32 → zI → zL → Option (zI × zL)) (hk35 : ∀ (v1 : Int32) (v3 : Int32) (v4 : Int32) (v5 : Int32) (v6 : Int32) (v7 : Int32) (I : zI) (L : zL), k35 v1 v3 v4 v5 v6 v7 I L = some r → zG p l e R s m args below meth c d cy B0 11 bc bs (zQ below s args d cy B0 bc bs (.inl none) zSH zKn bc bs r.1 r.2) 35 [(0, .ref (B0 + 97)), (1, .int v1), (3, .int v3), (4, .int v4), (5, .int v5), (6, .int v6), (7, .int v7)] [] zSH zKn bc bs I L) (v1 : Int32) (v3 : Int32) (v4 : Int32) (v5 : Int32) (v6 : Int32) (v7 : Int32) (I : zI) (L : zL) (h : f_X12_measure_224 k35 v1 v3 v4 v5 v6 v7 I L = some r) : zG p l e R s m args below meth c d cy B0 11 bc bs (zQ below s args d cy B0 bc bs (.inl none) zSH zKn bc bs r.1 r.2) 224 [(0, .ref (B0 + 97)), (1, .int v1), (3, .int v3), (4, .int v4), (5, .int v5), (6, .int v6), (7, .int v7)] [] zSH zKn bc bs I L := by
  unfold f_X12_measure_224 at h
  obtain ⟨x21, ex21, h⟩ := zlt_e h
  refine z_iinc C (j := 6) (v := x21) (lv' := [(7, .int x21), (0, .ref (B0 + 97)), (1, .int v1), (3, .int v3), (4, .int v4), (5, .int v5), (6, .int v6)]) rfl (by rw [ex21]; rfl) (by decide) rfl dX12_measure_224 ?_
  refine z_goto C 35 (by decide) dX12_measure_227 ?_
  refine z_lv [1, 2, 3, 4, 5, 6, 0] (lv' := [(0, .ref (B0 + 97)), (1, .int v1), (3, .int v3), (4, .int v4), (5, .int v5), (6, .int v6), (7, .int x21)]) rfl ?_
  exact hk35 v1 v3 v4 v5 v6 x21 I L h
set_option maxHeartbeats 4000000 in
set_option maxRecDepth 100000 in
theorem l_X12_measure_105 {r : zI × zL} (C : zC p l e R s m args below meth c s0 a0 d cy B0 yX12_measure.cls cX12_measure 11 none bc bs bc bs 2 46 []) (k35 : Int32 → Int32 → Int32 → Int32 → Int32 → Int32 → zI → zL → Option (zI × zL)) (hk35 : ∀ (v1 : Int32) (v3 : Int32) (v4 : Int32) (v5 : Int32) (v6 : Int32) (v7 : Int32) (I : zI) (L : zL), k35 v1 v3 v4 v5 v6 v7 I L = some r → zG p l e R s m args below meth c d cy B0 11 bc bs (zQ below s args d cy B0 bc bs (.inl none) zSH zKn bc bs r.1 r.2) 35 [(0, .ref (B0 + 97)), (1, .int v1), (3, .int v3), (4, .int v4), (5, .int v5), (6, .int v6), (7, .int v7)] [] zSH zKn bc bs I L) (k105 : Int32 → Int32 → Int32 → Int32 → Int32 → Int32 → Int32 → zI → zL → Option (zI × zL)) (hk105 : ∀ (v1 : Int32) (v3 : Int32) (v4 : Int32) (v5 : Int32) (v6 : Int32) (v7 : Int32) (v8 : Int32) (I : zI) (L : zL), k105 v1 v3 v4 v5 v6 v7 v8 I L = some r → zG p l e R s m args below meth c d cy B0 11 bc bs (zQ below s args d cy B0 bc bs (.inl none) zSH zKn bc bs r.1 r.2) 105 [(0, .ref (B0 + 97)), (1, .int v1), (3, .int v3), (4, .int v4), (5, .int v5), (6, .int v6), (7, .int v7), (8, .int v8)] [] zSH zKn bc bs I L) (v1 : Int32) (v3 : Int32) (v4 : Int32) (v5 : Int32) (v6 : Int32) (v7 : Int32) (v8 : Int32) (I : zI) (L : zL) (h : f_X12_measure_105 k35 k105 v1 v3 v4 v5 v6 v7 v8 I L = some r) : zG p l e R s m args below meth c d cy B0 11 bc bs (zQ below s args d cy B0 bc bs (.inl none) zSH zKn bc bs r.1 r.2) 105 [(0, .ref (B0 + 97)), (1, .int v1), (3, .int v3), (4, .int v4), (5, .int v5), (6, .int v6), (7, .int v7), (8, .int v8)] [] zSH zKn bc bs I L := by
  unfold f_X12_measure_105 at h
  refine z_iload C 7 rfl dX12_measure_105 ?_
  refine z_iconst C (v := 4) (by decide) dX12_measure_107 ?_
  refine z_icmp_ge C 224 (by decide) dX12_measure_108 (fun hc => ?_) (fun hc => ?_)
  · have h := zif_t hc h
    refine z_lv [0, 1, 2, 3, 4, 5, 6] (lv' := [(0, .ref (B0 + 97)), (1, .int v1), (3, .int v3), (4, .int v4), (5, .int v5), (6, .int v6), (7, .int v7)]) rfl ?_
    exact l_X12_measure_224 C k35 hk35 v1 v3 v4 v5 v6 v7 I L h
  · have h := zif_f hc h
    refine z_iload C 6 rfl dX12_measure_111 ?_
    refine z_iload C 7 rfl dX12_measure_113 ?_
    obtain ⟨x23, hg22, h⟩ := zb1_e h
    refine z_callS C dX12_measure_115 yy_X12_beside (c_X12_beside C.2.2.2.2.1  v7 v8 I L hg22) q_1473 q_1474 (by decide) (by decide) rfl rfl (Nat.le_of_ble_eq_true rfl) ⟨Nat.le_refl _, Nat.le_refl _, Nat.le_refl _, Nat.le_refl _⟩ ?_
    refine z_istore C (lv' := [(9, .int x23), (0, .ref (B0 + 97)), (1, .int v1), (3, .int v3), (4, .int v4), (5, .int v5), (6, .int v6), (7, .int v7), (8, .int v8)]) (by decide) rfl dX12_measure_118 ?_
    refine z_iload C 0 rfl dX12_measure_120 ?_
    refine z_iconst C (v := -1) (by decide) dX12_measure_122 ?_
    refine z_icmp_eq C 144 (by decide) dX12_measure_123 (fun hc => ?_) (fun hc => ?_)
    · have h := zif_t hc h
      refine z_lv [1, 2, 3, 4, 5, 6, 7, 8, 0] (lv' := [(0, .ref (B0 + 97)), (1, .int v1), (3, .int v3), (4, .int v4), (5, .int v5), (6, .int v6), (7, .int v7), (8, .int v8), (9, .int x23)]) rfl ?_
      exact l_X12_measure_144 C k35 hk35 k105 hk105 v1 v3 v4 v5 v6 v7 v8 x23 I L h
    · have h := zif_f hc h
      refine z_aload_n C rfl 1 rfl dX12_measure_126 ?_
      refine z_getr C zc_12 dX12_measure_127 32 97 119 rfl (by decide) (by decide) q_1201 rfl rfl ?_
      refine z_iload C 4 rfl dX12_measure_130 ?_
      refine z_iload C 0 rfl dX12_measure_132 ?_
      refine z_iadd C dX12_measure_134 ?_
      obtain ⟨x24, ex24, h⟩ := zlt_e h
      refine z_eqi C ex24 ?_
      obtain ⟨hb25, h⟩ := zck_e h
      refine z_iaload C dX12_measure_135 rfl rfl (by decide) (zbd_in hb25) ?_
      refine z_iload_n C rfl 3 rfl dX12_measure_136 ?_
      refine z_icmp_ne C 144 (by decide) dX12_measure_137 (fun hc => ?_) (fun hc => ?_)
      · have h := zif_f hc h
        refine z_lv [1, 2, 3, 4, 5, 6, 7, 8, 0] (lv' := [(0, .ref (B0 + 97)), (1, .int v1), (3, .int v3), (4, .int v4), (5, .int v5), (6, .int v6), (7, .int v7), (8, .int v8), (9, .int x23)]) rfl ?_
        exact l_X12_measure_144 C k35 hk35 k105 hk105 v1 v3 v4 v5 v6 v7 v8 x23 I L h
      · have h := zif_t hc h
        refine z_iconst C (v := 1) (by decide) dX12_measure_140 ?_
        refine z_goto C 145 (by decide) dX12_measure_141 ?_
        refine z_lv [1, 2, 3, 4, 5, 6, 7, 8, 0] (lv' := [(0, .ref (B0 + 97)), (1, .int v1), (3, .int v3), (4, .int v4), (5, .int v5), (6, .int v6), (7, .int v7), (8, .int v8), (9, .int x23)]) rfl ?_
        exact l_X12_measure_145 C k35 hk35 k105 hk105 v1 v3 v4 v5 v6 v7 v8 x23 (1 : Int32) I L h
set_option maxHeartbeats 4000000 in
set_option maxRecDepth 100000 in
theorem L_X12_measure_105 {r : zI × zL} (C : zC p l e R s m args below meth c s0 a0 d cy B0 yX12_measure.cls cX12_measure 11 none bc bs bc bs 2 46 []) (k35 : Int32 → Int32 → Int32 → Int32 → Int32 → Int32 → zI → zL → Option (zI × zL)) (hk35 : ∀ (v1 : Int32) (v3 : Int32) (v4 : Int32) (v5 : Int32) (v6 : Int32) (v7 : Int32) (I : zI) (L : zL), k35 v1 v3 v4 v5 v6 v7 I L = some r → zG p l e R s m args below meth c d cy B0 11 bc bs (zQ below s args d cy B0 bc bs (.inl none) zSH zKn bc bs r.1 r.2) 35 [(0, .ref (B0 + 97)), (1, .int v1), (3, .int v3), (4, .int v4), (5, .int v5), (6, .int v6), (7, .int v7)] [] zSH zKn bc bs I L) (v1 : Int32) (v3 : Int32) (v4 : Int32) (v5 : Int32) (v6 : Int32) (v7 : Int32) (v8 : Int32) (I : zI) (L : zL) (h : zlp9 (f_X12_measure_105 k35) zF v1 v3 v4 v5 v6 v7 v8 I L = some r) : zG p l e R s m args below meth c d cy B0 11 bc bs (zQ below s args d cy B0 bc bs (.inl none) zSH zKn bc bs r.1 r.2) 105 [(0, .ref (B0 + 97)), (1, .int v1), (3, .int v3), (4, .int v4), (5, .int v5), (6, .int v6), (7, .int v7), (8, .int v8)] [] zSH zKn bc bs I L :=
 zlp9_e (fun (v1 : Int32) (v3 : Int32) (v4 : Int32) (v5 : Int32) (v6 : Int32) (v7 : Int32) (v8 : Int32) (I : zI) (L : zL) => zG p l e R s m args below meth c d cy B0 11 bc bs (zQ below s args d cy B0 bc bs (.inl none) zSH zKn bc bs r.1 r.2) 105 [(0, .ref (B0 + 97)), (1, .int v1), (3, .int v3), (4, .int v4), (5, .int v5), (6, .int v6), (7, .int v7), (8, .int v8)] [] zSH zKn bc bs I L) (fun k9 hk9 v1 v3 v4 v5 v6 v7 v8 I L h => l_X12_measure_105 C k35 hk35 k9 hk9 v1 v3 v4 v5 v6 v7 v8 I L h) zF v1 v3 v4 v5 v6 v7 v8 I L h
set_option maxHeartbeats 4000000 in
set_option maxRecDepth 100000 in
theorem l_X12_measure_89 {r : zI × zL} (C : zC p l e R s m args below meth c s0 a0 d cy B0 yX12_measure.cls cX12_measure 11 none bc bs bc bs 2 46 []) (k35 : Int32 → Int32 → Int32 → Int32 → Int32 → Int32 → zI → zL → Option (zI × zL)) (hk35 : ∀ (v1 : Int32) (v3 : Int32) (v4 : Int32) (v5 : Int32) (v6 : Int32) (v7 : Int32) (I : zI) (L : zL), k35 v1 v3 v4 v5 v6 v7 I L = some r → zG p l e R s m args below meth c d cy B0 11 bc bs (zQ below s args d cy B0 bc bs (.inl none) zSH zKn bc bs r.1 r.2) 35 [(0, .ref (B0 + 97)), (1, .int v1), (3, .int v3), (4, .int v4), (5, .int v5), (6, .int v6), (7, .int v7)] [] zSH zKn bc bs I L) (v1 : Int32) (v3 : Int32) (v4 : Int32) (v5 : Int32) (v6 : Int32) (v7 : Int32) (w1 : Int32) (w2 : Int32) (I : zI) (L : zL) (h : f_X12_measure_89 k35 v1 v3 v4 v5 v6 v7 w1 w2 I L = some r) : zG p l e R s m args below meth c d cy B0 11 bc bs (zQ below s args d cy B0 bc bs (.inl none) zSH zKn bc bs r.1 r.2) 89 [(0, .ref (B0 + 97)), (1, .int v1), (3, .int v3), (4, .int v4), (5, .int v5), (6, .int v6), (7, .int v7)] [.int w2, .int w1, .ref (B0 + 126)] zSH zKn bc bs I L := by
  unfold f_X12_measure_89 at h
  obtain ⟨hb14, h⟩ := zck_e h
  refine z_iastore C dX12_measure_89 rfl rfl (by decide) (zbd_in hb14) ?_
  obtain ⟨I15, eI15, h⟩ := zlt_e h
  refine z_eqI C eI15 ?_
  refine z_aload_n C rfl 0 rfl dX12_measure_90 ?_
  refine z_getr C zc_12 dX12_measure_91 45 97 129 rfl (by decide) (by decide) q_1214 rfl rfl ?_
  refine z_iconst C (v := 3) (by decide) dX12_measure_94 ?_
  refine z_iload_n C rfl 1 rfl dX12_measure_95 ?_
  refine z_imul C dX12_measure_96 ?_
  obtain ⟨x16, ex16, h⟩ := zlt_e h
  refine z_eqi C ex16 ?_
  refine z_dup2_11 C rfl rfl dX12_measure_97 ?_
  obtain ⟨hb17, h⟩ := zck_e h
  refine z_laload C dX12_measure_98 rfl rfl (by decide) (zbd_in hb17) ?_
  refine z_lconst C (v := 1) (by decide) dX12_measure_99 ?_
  refine z_ladd C dX12_measure_100 ?_
  obtain ⟨x18, ex18, h⟩ := zlt_e h
  refine z_eql C ex18 ?_
  obtain ⟨hb19, h⟩ := zck_e h
  refine z_lastore C dX12_measure_101 rfl rfl (by decide) (zbd_in hb19) ?_
  obtain ⟨L20, eL20, h⟩ := zlt_e h
  refine z_eqL C eL20 ?_
  refine z_iconst C (v := 0) (by decide) dX12_measure_102 ?_
  refine z_istore C (lv' := [(8, .int (0 : Int32)), (0, .ref (B0 + 97)), (1, .int v1), (3, .int v3), (4, .int v4), (5, .int v5), (6, .int v6), (7, .int v7)]) (by decide) rfl dX12_measure_103 ?_
  refine z_lv [1, 2, 3, 4, 5, 6, 7, 0] (lv' := [(0, .ref (B0 + 97)), (1, .int v1), (3, .int v3), (4, .int v4), (5, .int v5), (6, .int v6), (7, .int v7), (8, .int (0 : Int32))]) rfl ?_
  exact L_X12_measure_105 C k35 hk35 v1 v3 v4 v5 v6 v7 (0 : Int32) I15 L20 h
set_option maxHeartbeats 4000000 in
set_option maxRecDepth 100000 in
theorem l_X12_measure_35 {r : zI × zL} (C : zC p l e R s m args below meth c s0 a0 d cy B0 yX12_measure.cls cX12_measure 11 none bc bs bc bs 2 46 []) (k35 : Int32 → Int32 → Int32 → Int32 → Int32 → Int32 → zI → zL → Option (zI × zL)) (hk35 : ∀ (v1 : Int32) (v3 : Int32) (v4 : Int32) (v5 : Int32) (v6 : Int32) (v7 : Int32) (I : zI) (L : zL), k35 v1 v3 v4 v5 v6 v7 I L = some r → zG p l e R s m args below meth c d cy B0 11 bc bs (zQ below s args d cy B0 bc bs (.inl none) zSH zKn bc bs r.1 r.2) 35 [(0, .ref (B0 + 97)), (1, .int v1), (3, .int v3), (4, .int v4), (5, .int v5), (6, .int v6), (7, .int v7)] [] zSH zKn bc bs I L) (v1 : Int32) (v3 : Int32) (v4 : Int32) (v5 : Int32) (v6 : Int32) (v7 : Int32) (I : zI) (L : zL) (h : f_X12_measure_35 k35 v1 v3 v4 v5 v6 v7 I L = some r) : zG p l e R s m args below meth c d cy B0 11 bc bs (zQ below s args d cy B0 bc bs (.inl none) zSH zKn bc bs r.1 r.2) 35 [(0, .ref (B0 + 97)), (1, .int v1), (3, .int v3), (4, .int v4), (5, .int v5), (6, .int v6), (7, .int v7)] [] zSH zKn bc bs I L := by
  unfold f_X12_measure_35 at h
  refine z_iload C 6 rfl dX12_measure_35 ?_
  refine z_sipush C (v := 4096) (by decide) dX12_measure_37 ?_
  refine z_icmp_ge C 230 (by decide) dX12_measure_40 (fun hc => ?_) (fun hc => ?_)
  · have h := zif_t hc h
    obtain rfl := Option.some.inj h
    exact z_vret C dX12_measure_230 rfl rfl
  · have h := zif_f hc h
    refine z_aload_n C rfl 0 rfl dX12_measure_43 ?_
    refine z_getr C zc_12 dX12_measure_44 32 97 119 rfl (by decide) (by decide) q_1201 rfl rfl ?_
    refine z_iload C 3 rfl dX12_measure_47 ?_
    refine z_iload C 6 rfl dX12_measure_49 ?_
    refine z_iadd C dX12_measure_51 ?_
    obtain ⟨x9, ex9, h⟩ := zlt_e h
    refine z_eqi C ex9 ?_
    obtain ⟨hb10, h⟩ := zck_e h
    refine z_iaload C dX12_measure_52 rfl rfl (by decide) (zbd_in hb10) ?_
    refine z_iload_n C rfl 2 rfl dX12_measure_53 ?_
    refine z_icmp_eq C 60 (by decide) dX12_measure_54 (fun hc => ?_) (fun hc => ?_)
    · have h := zif_t hc h
      refine z_aload_n C rfl 0 rfl dX12_measure_60 ?_
      refine z_getr C zc_12 dX12_measure_61 42 97 126 rfl (by decide) (by decide) q_1211 rfl rfl ?_
      refine z_iload_n C rfl 1 rfl dX12_measure_64 ?_
      refine z_aload_n C rfl 0 rfl dX12_measure_65 ?_
      refine z_getr C zc_12 dX12_measure_66 45 97 129 rfl (by decide) (by decide) q_1214 rfl rfl ?_
      refine z_iconst C (v := 3) (by decide) dX12_measure_69 ?_
      refine z_iload_n C rfl 1 rfl dX12_measure_70 ?_
      refine z_imul C dX12_measure_71 ?_
      obtain ⟨x11, ex11, h⟩ := zlt_e h
      refine z_eqi C ex11 ?_
      obtain ⟨hb12, h⟩ := zck_e h
      refine z_laload C dX12_measure_72 rfl rfl (by decide) (zbd_in hb12) ?_
      refine z_lconst C (v := 0) (by decide) dX12_measure_73 ?_
      refine z_lif_ne C 83 (by decide) dX12_measure_74 dX12_measure_75 (fun hc => ?_) (fun hc => ?_)
      · have h := zif_f hc h
        refine z_aload_n C rfl 0 rfl dX12_measure_83 ?_
        refine z_getr C zc_12 dX12_measure_84 42 97 126 rfl (by decide) (by decide) q_1211 rfl rfl ?_
        refine z_iload_n C rfl 1 rfl dX12_measure_87 ?_
        obtain ⟨hb13, h⟩ := zck_e h
        refine z_iaload C dX12_measure_88 rfl rfl (by decide) (zbd_in hb13) ?_
        exact l_X12_measure_89 C k35 hk35 v1 v3 v4 v5 v6 v7 v1 (I 126 v1.toNatClampNeg) I L h
      · have h := zif_t hc h
        refine z_iload C 6 rfl dX12_measure_78 ?_
        refine z_goto C 89 (by decide) dX12_measure_80 ?_
        exact l_X12_measure_89 C k35 hk35 v1 v3 v4 v5 v6 v7 v1 v7 I L h
    · have h := zif_f hc h
      refine z_goto C 224 (by decide) dX12_measure_57 ?_
      exact l_X12_measure_224 C k35 hk35 v1 v3 v4 v5 v6 v7 I L h
set_option maxHeartbeats 4000000 in
set_option maxRecDepth 100000 in
theorem L_X12_measure_35 {r : zI × zL} (C : zC p l e R s m args below meth c s0 a0 d cy B0 yX12_measure.cls cX12_measure 11 none bc bs bc bs 2 46 []) (v1 : Int32) (v3 : Int32) (v4 : Int32) (v5 : Int32) (v6 : Int32) (v7 : Int32) (I : zI) (L : zL) (h : zlp8 (f_X12_measure_35) zF v1 v3 v4 v5 v6 v7 I L = some r) : zG p l e R s m args below meth c d cy B0 11 bc bs (zQ below s args d cy B0 bc bs (.inl none) zSH zKn bc bs r.1 r.2) 35 [(0, .ref (B0 + 97)), (1, .int v1), (3, .int v3), (4, .int v4), (5, .int v5), (6, .int v6), (7, .int v7)] [] zSH zKn bc bs I L :=
 zlp8_e (fun (v1 : Int32) (v3 : Int32) (v4 : Int32) (v5 : Int32) (v6 : Int32) (v7 : Int32) (I : zI) (L : zL) => zG p l e R s m args below meth c d cy B0 11 bc bs (zQ below s args d cy B0 bc bs (.inl none) zSH zKn bc bs r.1 r.2) 35 [(0, .ref (B0 + 97)), (1, .int v1), (3, .int v3), (4, .int v4), (5, .int v5), (6, .int v6), (7, .int v7)] [] zSH zKn bc bs I L) (fun k9 hk9 v1 v3 v4 v5 v6 v7 I L h => l_X12_measure_35 C k9 hk9 v1 v3 v4 v5 v6 v7 I L h) zF v1 v3 v4 v5 v6 v7 I L h
set_option maxHeartbeats 4000000 in
set_option maxRecDepth 100000 in
theorem c_X12_measure {r : zI × zL} (hE : zE0 l s0 a0 d cy B0) (a1 : Int32) (a2 : Int32) (a3 : Int32) (I : zI) (L : zL) (h : f_X12_measure a1 a2 a3 I L = some r) : zM l s0 d cy B0 yX12_measure cX12_measure 11 none 2 46 [.ref (B0 + 97), .int a1, .int a2, .int a3] zSH zKn bc bs I L (.inl none) zSH zKn bc bs r.1 r.2 := by
  refine z_meth yy_X12_measure hE (Nat.le_of_ble_eq_true rfl) (fun p e R s m args below meth c C => ?_)
  show zG p l e R s m args below meth c d cy B0 11 bc bs (zQ below s args d cy B0 bc bs (.inl none) zSH zKn bc bs r.1 r.2) 0 [(0, .ref (B0 + 97)), (1, .int a1), (2, .int a2), (3, .int a3)] [] zSH zKn bc bs I L
  unfold f_X12_measure at h
  refine z_sipush C (v := 4096) (by decide) dX12_measure_0 ?_
  refine z_aload_n C rfl 0 rfl dX12_measure_3 ?_
  refine z_getr C zc_12 dX12_measure_4 25 97 114 rfl (by decide) (by decide) q_1194 rfl rfl ?_
  refine z_iload_n C rfl 2 rfl dX12_measure_7 ?_
  obtain ⟨hb1, h⟩ := zck_e h
  refine z_iaload C dX12_measure_8 rfl rfl (by decide) (zbd_in hb1) ?_
  refine z_imul C dX12_measure_9 ?_
  obtain ⟨x2, ex2, h⟩ := zlt_e h
  refine z_eqi C ex2 ?_
  refine z_istore C (lv' := [(4, .int x2), (0, .ref (B0 + 97)), (1, .int a1), (2, .int a2), (3, .int a3)]) (by decide) rfl dX12_measure_10 ?_
  refine z_aload_n C rfl 1 rfl dX12_measure_12 ?_
  refine z_getr C zc_12 dX12_measure_13 27 97 116 rfl (by decide) (by decide) q_1196 rfl rfl ?_
  refine z_iconst C (v := 4) (by decide) dX12_measure_16 ?_
  refine z_iload_n C rfl 3 rfl dX12_measure_17 ?_
  refine z_imul C dX12_measure_18 ?_
  obtain ⟨x3, ex3, h⟩ := zlt_e h
  refine z_eqi C ex3 ?_
  obtain ⟨hb4, h⟩ := zck_e h
  refine z_iaload C dX12_measure_19 rfl rfl (by decide) (zbd_in hb4) ?_
  obtain ⟨x5, ex5, h⟩ := zlt_e h
  refine z_eqi C ex5 ?_
  refine z_istore C (lv' := [(5, .int x5), (4, .int x2), (0, .ref (B0 + 97)), (1, .int a1), (2, .int a2), (3, .int a3)]) (by decide) rfl dX12_measure_20 ?_
  refine z_aload_n C rfl 2 rfl dX12_measure_22 ?_
  refine z_getr C zc_12 dX12_measure_23 44 97 128 rfl (by decide) (by decide) q_1213 rfl rfl ?_
  refine z_iconst C (v := 4) (by decide) dX12_measure_26 ?_
  refine z_iload_n C rfl 3 rfl dX12_measure_27 ?_
  refine z_imul C dX12_measure_28 ?_
  obtain ⟨x6, ex6, h⟩ := zlt_e h
  refine z_eqi C ex6 ?_
  obtain ⟨hb7, h⟩ := zck_e h
  refine z_iaload C dX12_measure_29 rfl rfl (by decide) (zbd_in hb7) ?_
  obtain ⟨x8, ex8, h⟩ := zlt_e h
  refine z_eqi C ex8 ?_
  refine z_istore C (lv' := [(6, .int x8), (5, .int x5), (4, .int x2), (0, .ref (B0 + 97)), (1, .int a1), (2, .int a2), (3, .int a3)]) (by decide) rfl dX12_measure_30 ?_
  refine z_iconst C (v := 0) (by decide) dX12_measure_32 ?_
  refine z_istore C (lv' := [(7, .int (0 : Int32)), (6, .int x8), (5, .int x5), (4, .int x2), (0, .ref (B0 + 97)), (1, .int a1), (2, .int a2), (3, .int a3)]) (by decide) rfl dX12_measure_33 ?_
  refine z_lv [4, 5, 7, 3, 2, 1, 0] (lv' := [(0, .ref (B0 + 97)), (1, .int a1), (3, .int a3), (4, .int x2), (5, .int x5), (6, .int x8), (7, .int (0 : Int32))]) rfl ?_
  exact L_X12_measure_35 C  a1 a3 x2 x5 x8 (0 : Int32) I L h
theorem q_59 : Cond.selects "DeviceFindModel" ⟨"DeviceFindModel", "make", "(I)V"⟩ ⟨"DeviceFindModel", "make", "(I)V"⟩ ∈ lw_tbl := List.mem_of_getElem? (i := 59) (by decide +kernel)
theorem q_62 : Cond.selects "DeviceFindModel" ⟨"DeviceFindModel", "findShapes", "(I)V"⟩ ⟨"DeviceFindModel", "findShapes", "(I)V"⟩ ∈ lw_tbl := List.mem_of_getElem? (i := 62) (by decide +kernel)
theorem q_64 : Cond.selects "DeviceFindModel" ⟨"DeviceFindModel", "findNets", "()V"⟩ ⟨"DeviceFindModel", "findNets", "()V"⟩ ∈ lw_tbl := List.mem_of_getElem? (i := 64) (by decide +kernel)
theorem q_67 : Cond.selects "DeviceFindModel" ⟨"DeviceFindModel", "findPins", "(III)V"⟩ ⟨"DeviceFindModel", "findPins", "(III)V"⟩ ∈ lw_tbl := List.mem_of_getElem? (i := 67) (by decide +kernel)
theorem q_70 : Cond.selects "DeviceFindModel" ⟨"DeviceFindModel", "measure", "(III)V"⟩ ⟨"DeviceFindModel", "measure", "(III)V"⟩ ∈ lw_tbl := List.mem_of_getElem? (i := 70) (by decide +kernel)
theorem q_1208 : (Cond.fieldLink "DeviceFindModel" (296 : Nat) "DeviceFindModel" "devices" "I") ∈ lw_tbl := List.mem_of_getElem? (i := 1208) (by decide +kernel)
theorem q_1209 : (Cond.fieldLink "DeviceFindModel" (92 : Nat) "DeviceFindModel" "deviceKind" "[I") ∈ lw_tbl := List.mem_of_getElem? (i := 1209) (by decide +kernel)
theorem q_1210 : (Cond.fieldLink "DeviceFindModel" (95 : Nat) "DeviceFindModel" "deviceShape" "[I") ∈ lw_tbl := List.mem_of_getElem? (i := 1210) (by decide +kernel)
theorem q_1452 : (Cond.code ({ cls := "DeviceFindModel", name := "run", desc := "()I" } : Jvm.MethodName) prog_14_method_42_code (4 : Nat) (Option.some Jvm.ClassFile.FieldType.int)) ∈ lw_tbl := List.mem_of_getElem? (i := 1452) (by decide +kernel)
theorem q_1453 : (Cond.methodLink "DeviceFindModel" (286 : Nat) ({ cls := "DeviceFindModel", name := "make", desc := "(I)V" } : Jvm.MethodName)) ∈ lw_tbl := List.mem_of_getElem? (i := 1453) (by decide +kernel)
theorem q_1455 : (Cond.instanceMethod ({ cls := "DeviceFindModel", name := "make", desc := "(I)V" } : Jvm.MethodName)) ∈ lw_tbl := List.mem_of_getElem? (i := 1455) (by decide +kernel)
theorem q_1465 : (Cond.methodLink "DeviceFindModel" (290 : Nat) ({ cls := "DeviceFindModel", name := "findShapes", desc := "(I)V" } : Jvm.MethodName)) ∈ lw_tbl := List.mem_of_getElem? (i := 1465) (by decide +kernel)
theorem q_1467 : (Cond.instanceMethod ({ cls := "DeviceFindModel", name := "findShapes", desc := "(I)V" } : Jvm.MethodName)) ∈ lw_tbl := List.mem_of_getElem? (i := 1467) (by decide +kernel)
theorem q_1476 : (Cond.methodLink "DeviceFindModel" (293 : Nat) ({ cls := "DeviceFindModel", name := "findNets", desc := "()V" } : Jvm.MethodName)) ∈ lw_tbl := List.mem_of_getElem? (i := 1476) (by decide +kernel)
theorem q_1478 : (Cond.instanceMethod ({ cls := "DeviceFindModel", name := "findNets", desc := "()V" } : Jvm.MethodName)) ∈ lw_tbl := List.mem_of_getElem? (i := 1478) (by decide +kernel)
theorem q_1489 : (Cond.methodLink "DeviceFindModel" (299 : Nat) ({ cls := "DeviceFindModel", name := "findPins", desc := "(III)V" } : Jvm.MethodName)) ∈ lw_tbl := List.mem_of_getElem? (i := 1489) (by decide +kernel)
theorem q_1491 : (Cond.instanceMethod ({ cls := "DeviceFindModel", name := "findPins", desc := "(III)V" } : Jvm.MethodName)) ∈ lw_tbl := List.mem_of_getElem? (i := 1491) (by decide +kernel)
theorem q_1501 : (Cond.methodLink "DeviceFindModel" (302 : Nat) ({ cls := "DeviceFindModel", name := "measure", desc := "(III)V" } : Jvm.MethodName)) ∈ lw_tbl := List.mem_of_getElem? (i := 1501) (by decide +kernel)
theorem q_1503 : (Cond.instanceMethod ({ cls := "DeviceFindModel", name := "measure", desc := "(III)V" } : Jvm.MethodName)) ∈ lw_tbl := List.mem_of_getElem? (i := 1503) (by decide +kernel)
theorem yy_X12_run : zY yX12_run cX12_run 4 (some .int) 0 := ⟨q_1452, q_88, by decide +kernel, by decide +kernel, by decide +kernel⟩
def f_X12_run_134 (k124 : Int32 → zI → zL → Option (Int32 × zI × zL)) (k134 : Int32 → Int32 → zI → zL → Option (Int32 × zI × zL)) (v2 : Int32) (v3 : Int32) (I : zI) (L : zL) : Option (Int32 × zI × zL) :=
  zck (zbd v2 16) (zlt (I 114 v2.toNatClampNeg) (fun x19 => zck (zbd x19 24) (if (I 120 x19.toNatClampNeg) ≤ v3 then (zlt (v2 + 1) (fun x21 => k124 x21 I L)) else (zck (zbd (I 97 39) 300) (zlt (zu I 124 (I 97 39).toNatClampNeg v2) (fun I23 => zck (zbd (I23 97 39) 300) (zlt (zu I23 125 (I23 97 39).toNatClampNeg v3) (fun I25 => zck (zbd (I25 97 39) 300) (zlt (zu I25 127 (I25 97 39).toNatClampNeg (vp_nar .boolean (0 : Int32))) (fun I27 => zlt ((3 : Int32) * (I27 97 39)) (fun x28 => zck (zbd x28 900) (zlt (zul L 129 x28.toNatClampNeg (0 : Int64)) (fun L30 => zlt ((3 : Int32) * (I27 97 39)) (fun x31 => zck (zbd (x31 + (1 : Int32)) 900) (zlt (zul L30 129 (x31 + (1 : Int32)).toNatClampNeg (0 : Int64)) (fun L33 => zlt ((3 : Int32) * (I27 97 39)) (fun x34 => zck (zbd (x34 + (2 : Int32)) 900) (zlt (zul L33 129 (x34 + (2 : Int32)).toNatClampNeg (0 : Int64)) (fun L36 => zb1 (f_X12_findPins (I27 97 39) v2 v3 I27) (fun I38 => zb2 (f_X12_measure (I38 97 39) v2 v3 I38 L36) (fun I40 L41 => zlt ((I40 97 39) + (1 : Int32)) (fun x42 => zlt (zu I40 97 39 x42) (fun I43 => zlt (v3 + 1) (fun x44 => k134 v2 x44 I43 L41))))))))))))))))))))))))
def f_X12_run_124 (k124 : Int32 → zI → zL → Option (Int32 × zI × zL)) (v2 : Int32) (I : zI) (L : zL) : Option (Int32 × zI × zL) :=
  if (I 97 15) ≤ v2 then (zlt (zu I 97 30 (1 : Int32)) (fun I17 => some (I17 97 39, I17, L))) else (zlp4 (f_X12_run_134 k124) zF v2 (0 : Int32) I L)
def f_X12_run_101 (w1 : Int32) (I : zI) (L : zL) : Option (Int32 × zI × zL) :=
  zlt (zu I 97 0 w1) (fun I13 => if (I13 97 0) ≤ 0 then (zb1 (f_X12_findNets I13) (fun I15 => zlt (zu I15 97 39 (0 : Int32)) (fun I16 => zlp3 (f_X12_run_124) zF (0 : Int32) I16 L))) else (some ((0 : Int32), I13, L)))
def f_X12_run_55 (k55 : Int32 → Int32 → zI → zL → Option (Int32 × zI × zL)) (v1 : Int32) (v2 : Int32) (I : zI) (L : zL) : Option (Int32 × zI × zL) :=
  if (I 97 15) ≤ v2 then (zlt (zu I 97 30 (0 : Int32)) (fun I7 => if v1 ≤ (300 : Int32) then (f_X12_run_101 (0 : Int32) I7 L) else (f_X12_run_101 (2 : Int32) I7 L))) else (zck (zbd v2 16) (zlt (I 114 v2.toNatClampNeg) (fun x9 => zck (zbd x9 24) (zlt (v1 + (I 120 x9.toNatClampNeg)) (fun x11 => zlt (v2 + 1) (fun x12 => k55 x11 x12 I L))))))
def f_X12_run_27 (k27 : Int32 → zI → zL → Option (Int32 × zI × zL)) (v1 : Int32) (I : zI) (L : zL) : Option (Int32 × zI × zL) :=
  if (I 97 12) ≤ v1 then (zlp4 (f_X12_run_55) zF (0 : Int32) (0 : Int32) I L) else (zb1 (f_X12_make v1 I) (fun I3 => zb1 (f_X12_findShapes v1 I3) (fun I5 => zlt (v1 + 1) (fun x6 => k27 x6 I5 L))))
def f_X12_run_13 (w1 : Int32) (I : zI) (L : zL) : Option (Int32 × zI × zL) :=
  zlt (zu I 97 0 w1) (fun I1 => if (I1 97 0) ≤ 0 then (zlp3 (f_X12_run_27) zF (0 : Int32) I1 L) else (some ((0 : Int32), I1, L)))
def f_X12_run (I : zI) (L : zL) : Option (Int32 × zI × zL) :=
  if (I 97 11) = 0 then (f_X12_run_13 (1 : Int32) I L) else (f_X12_run_13 (0 : Int32) I L)
set_option maxHeartbeats 4000000 in
set_option maxRecDepth 100000 in
theorem l_X12_run_134 {r : Int32 × zI × zL} (C : zC p l e R s m args below meth c s0 a0 d cy B0 yX12_run.cls cX12_run 4 (some .int) bc bs bc bs 4 101 []) (k124 : Int32 → zI → zL → Option (Int32 × zI × zL)) (hk124 : ∀ (v2 : Int32) (I : zI) (L : zL), k124 v2 I L = some r → zG p l e R s m args below meth c d cy B0 4 bc bs (zQ below s args d cy B0 bc bs (.inl (some (.int r.1))) zSH zKn bc bs r.2.1 r.2.2) 124 [(0, .ref (B0 + 97)), (2, .int v2)] [] zSH zKn bc bs I L) (k134 : Int32 → Int32 → zI → zL → Option (Int32 × zI × zL)) (hk134 : ∀ (v2 : Int32) (v3 : Int32) (I : zI) (L : zL), k134 v2 v3 I L = some r → zG p l e R s m args below meth c d cy B0 4 bc bs (zQ below s args d cy B0 bc bs (.inl (some (.int r.1))) zSH zKn bc bs r.2.1 r.2.2) 134 [(0, .ref (B0 + 97)), (2, .int v2), (3, .int v3)] [] zSH zKn bc bs I L) (v2 : Int32) (v3 : Int32) (I : zI) (L : zL) (h : f_X12_run_134 k124 k134 v2 v3 I L = some r) : zG p l e R s m args below meth c d cy B0 4 bc bs (zQ below s args d cy B0 bc bs (.inl (some (.int r.1))) zSH zKn bc bs r.2.1 r.2.2) 134 [(0, .ref (B0 + 97)), (2, .int v2), (3, .int v3)] [] zSH zKn bc bs I L := by
  unfold f_X12_run_134 at h
  refine z_iload_n C rfl 2 rfl dX12_run_134 ?_
  refine z_aload_n C rfl 0 rfl dX12_run_135 ?_
  refine z_getr C zc_12 dX12_run_136 33 97 120 rfl (by decide) (by decide) q_1202 rfl rfl ?_
  refine z_aload_n C rfl 0 rfl dX12_run_139 ?_
  refine z_getr C zc_12 dX12_run_140 25 97 114 rfl (by decide) (by decide) q_1194 rfl rfl ?_
  refine z_iload_n C rfl 1 rfl dX12_run_143 ?_
  obtain ⟨hb18, h⟩ := zck_e h
  refine z_iaload C dX12_run_144 rfl rfl (by decide) (zbd_in hb18) ?_
  obtain ⟨x19, ex19, h⟩ := zlt_e h
  refine z_eqi C ex19 ?_
  obtain ⟨hb20, h⟩ := zck_e h
  refine z_iaload C dX12_run_145 rfl rfl (by decide) (zbd_in hb20) ?_
  refine z_icmp_ge C 255 (by decide) dX12_run_146 (fun hc => ?_) (fun hc => ?_)
  · have h := zif_t hc h
    obtain ⟨x21, ex21, h⟩ := zlt_e h
    refine z_iinc C (j := 1) (v := x21) (lv' := [(2, .int x21), (0, .ref (B0 + 97)), (3, .int v3)]) rfl (by rw [ex21]; rfl) (by decide) rfl dX12_run_255 ?_
    refine z_goto C 124 (by decide) dX12_run_258 ?_
    refine z_lv [1, 0] (lv' := [(0, .ref (B0 + 97)), (2, .int x21)]) rfl ?_
    exact hk124 x21 I L h
  · have h := zif_f hc h
    refine z_aload_n C rfl 0 rfl dX12_run_149 ?_
    refine z_getr C zc_12 dX12_run_150 40 97 124 rfl (by decide) (by decide) q_1209 rfl rfl ?_
    refine z_aload_n C rfl 0 rfl dX12_run_153 ?_
    refine z_geti C zc_12 dX12_run_154 39 97 rfl (by decide) (by decide) q_1208 rfl ?_
    refine z_iload_n C rfl 1 rfl dX12_run_157 ?_
    obtain ⟨hb22, h⟩ := zck_e h
    refine z_iastore C dX12_run_158 rfl rfl (by decide) (zbd_in hb22) ?_
    obtain ⟨I23, eI23, h⟩ := zlt_e h
    refine z_eqI C eI23 ?_
    refine z_aload_n C rfl 0 rfl dX12_run_159 ?_
    refine z_getr C zc_12 dX12_run_160 41 97 125 rfl (by decide) (by decide) q_1210 rfl rfl ?_
    refine z_aload_n C rfl 0 rfl dX12_run_163 ?_
    refine z_geti C zc_12 dX12_run_164 39 97 rfl (by decide) (by decide) q_1208 rfl ?_
    refine z_iload_n C rfl 2 rfl dX12_run_167 ?_
    obtain ⟨hb24, h⟩ := zck_e h
    refine z_iastore C dX12_run_168 rfl rfl (by decide) (zbd_in hb24) ?_
    obtain ⟨I25, eI25, h⟩ := zlt_e h
    refine z_eqI C eI25 ?_
    refine z_aload_n C rfl 0 rfl dX12_run_169 ?_
    refine z_getr C zc_12 dX12_run_170 43 97 127 rfl (by decide) (by decide) q_1212 rfl rfl ?_
    refine z_aload_n C rfl 0 rfl dX12_run_173 ?_
    refine z_geti C zc_12 dX12_run_174 39 97 rfl (by decide) (by decide) q_1208 rfl ?_
    refine z_iconst C (v := 0) (by decide) dX12_run_177 ?_
    obtain ⟨hb26, h⟩ := zck_e h
    refine z_zastore C dX12_run_178 rfl rfl (by decide) (zbd_in hb26) ?_
    obtain ⟨I27, eI27, h⟩ := zlt_e h
    refine z_eqI C eI27 ?_
    refine z_aload_n C rfl 0 rfl dX12_run_179 ?_
    refine z_getr C zc_12 dX12_run_180 45 97 129 rfl (by decide) (by decide) q_1214 rfl rfl ?_
    refine z_iconst C (v := 3) (by decide) dX12_run_183 ?_
    refine z_aload_n C rfl 0 rfl dX12_run_184 ?_
    refine z_geti C zc_12 dX12_run_185 39 97 rfl (by decide) (by decide) q_1208 rfl ?_
    refine z_imul C dX12_run_188 ?_
    obtain ⟨x28, ex28, h⟩ := zlt_e h
    refine z_eqi C ex28 ?_
    refine z_lconst C (v := 0) (by decide) dX12_run_189 ?_
    obtain ⟨hb29, h⟩ := zck_e h
    refine z_lastore C dX12_run_190 rfl rfl (by decide) (zbd_in hb29) ?_
    obtain ⟨L30, eL30, h⟩ := zlt_e h
    refine z_eqL C eL30 ?_
    refine z_aload_n C rfl 0 rfl dX12_run_191 ?_
    refine z_getr C zc_12 dX12_run_192 45 97 129 rfl (by decide) (by decide) q_1214 rfl rfl ?_
    refine z_iconst C (v := 3) (by decide) dX12_run_195 ?_
    refine z_aload_n C rfl 0 rfl dX12_run_196 ?_
    refine z_geti C zc_12 dX12_run_197 39 97 rfl (by decide) (by decide) q_1208 rfl ?_
    refine z_imul C dX12_run_200 ?_
    obtain ⟨x31, ex31, h⟩ := zlt_e h
    refine z_eqi C ex31 ?_
    refine z_iconst C (v := 1) (by decide) dX12_run_201 ?_
    refine z_iadd C dX12_run_202 ?_
    refine z_lconst C (v := 0) (by decide) dX12_run_203 ?_
    obtain ⟨hb32, h⟩ := zck_e h
    refine z_lastore C dX12_run_204 rfl rfl (by decide) (zbd_in hb32) ?_
    obtain ⟨L33, eL33, h⟩ := zlt_e h
    refine z_eqL C eL33 ?_
    refine z_aload_n C rfl 0 rfl dX12_run_205 ?_
    refine z_getr C zc_12 dX12_run_206 45 97 129 rfl (by decide) (by decide) q_1214 rfl rfl ?_
    refine z_iconst C (v := 3) (by decide) dX12_run_209 ?_
    refine z_aload_n C rfl 0 rfl dX12_run_210 ?_
    refine z_geti C zc_12 dX12_run_211 39 97 rfl (by decide) (by decide) q_1208 rfl ?_
    refine z_imul C dX12_run_214 ?_
    obtain ⟨x34, ex34, h⟩ := zlt_e h
    refine z_eqi C ex34 ?_
    refine z_iconst C (v := 2) (by decide) dX12_run_215 ?_
    refine z_iadd C dX12_run_216 ?_
    refine z_lconst C (v := 0) (by decide) dX12_run_217 ?_
    obtain ⟨hb35, h⟩ := zck_e h
    refine z_lastore C dX12_run_218 rfl rfl (by decide) (zbd_in hb35) ?_
    obtain ⟨L36, eL36, h⟩ := zlt_e h
    refine z_eqL C eL36 ?_
    refine z_aload_n C rfl 0 rfl dX12_run_219 ?_
    refine z_aload_n C rfl 0 rfl dX12_run_220 ?_
    refine z_geti C zc_12 dX12_run_221 39 97 rfl (by decide) (by decide) q_1208 rfl ?_
    refine z_iload_n C rfl 1 rfl dX12_run_224 ?_
    refine z_iload_n C rfl 2 rfl dX12_run_225 ?_
    obtain ⟨I38, hg37, h⟩ := zb1_e h
    refine z_callV C zc_12 rfl (by decide) dX12_run_226 yy_X12_findPins (c_X12_findPins C.2.2.2.2.1  (I27 97 39) v2 v3 I27 L36 hg37) q_1489 q_1491 q_67 (by decide) (by decide) rfl rfl (Nat.le_of_ble_eq_true rfl) ⟨Nat.le_refl _, Nat.le_refl _, Nat.le_refl _, Nat.le_refl _⟩ ?_
    refine z_aload_n C rfl 0 rfl dX12_run_229 ?_
    refine z_aload_n C rfl 0 rfl dX12_run_230 ?_
    refine z_geti C zc_12 dX12_run_231 39 97 rfl (by decide) (by decide) q_1208 rfl ?_
    refine z_iload_n C rfl 1 rfl dX12_run_234 ?_
    refine z_iload_n C rfl 2 rfl dX12_run_235 ?_
    obtain ⟨I40, L41, hg39, h⟩ := zb2_e h
    refine z_callV C zc_12 rfl (by decide) dX12_run_236 yy_X12_measure (c_X12_measure C.2.2.2.2.1  (I38 97 39) v2 v3 I38 L36 hg39) q_1501 q_1503 q_70 (by decide) (by decide) rfl rfl (Nat.le_of_ble_eq_true rfl) ⟨Nat.le_refl _, Nat.le_refl _, Nat.le_refl _, Nat.le_refl _⟩ ?_
    refine z_aload_n C rfl 0 rfl dX12_run_239 ?_
    refine z_dup C rfl dX12_run_240 ?_
    refine z_geti C zc_12 dX12_run_241 39 97 rfl (by decide) (by decide) q_1208 rfl ?_
    refine z_iconst C (v := 1) (by decide) dX12_run_244 ?_
    refine z_iadd C dX12_run_245 ?_
    obtain ⟨x42, ex42, h⟩ := zlt_e h
    refine z_eqi C ex42 ?_
    refine z_puti C zc_12 dX12_run_246 39 97 rfl (by decide) (by decide) rfl q_1208 rfl rfl rfl ?_
    obtain ⟨I43, eI43, h⟩ := zlt_e h
    refine z_eqI C eI43 ?_
    obtain ⟨x44, ex44, h⟩ := zlt_e h
    refine z_iinc C (j := 2) (v := x44) (lv' := [(3, .int x44), (0, .ref (B0 + 97)), (2, .int v2)]) rfl (by rw [ex44]; rfl) (by decide) rfl dX12_run_249 ?_
    refine z_goto C 134 (by decide) dX12_run_252 ?_
    refine z_lv [1, 2, 0] (lv' := [(0, .ref (B0 + 97)), (2, .int v2), (3, .int x44)]) rfl ?_
    exact hk134 v2 x44 I43 L41 h
set_option maxHeartbeats 4000000 in
set_option maxRecDepth 100000 in
theorem L_X12_run_134 {r : Int32 × zI × zL} (C : zC p l e R s m args below meth c s0 a0 d cy B0 yX12_run.cls cX12_run 4 (some .int) bc bs bc bs 4 101 []) (k124 : Int32 → zI → zL → Option (Int32 × zI × zL)) (hk124 : ∀ (v2 : Int32) (I : zI) (L : zL), k124 v2 I L = some r → zG p l e R s m args below meth c d cy B0 4 bc bs (zQ below s args d cy B0 bc bs (.inl (some (.int r.1))) zSH zKn bc bs r.2.1 r.2.2) 124 [(0, .ref (B0 + 97)), (2, .int v2)] [] zSH zKn bc bs I L) (v2 : Int32) (v3 : Int32) (I : zI) (L : zL) (h : zlp4 (f_X12_run_134 k124) zF v2 v3 I L = some r) : zG p l e R s m args below meth c d cy B0 4 bc bs (zQ below s args d cy B0 bc bs (.inl (some (.int r.1))) zSH zKn bc bs r.2.1 r.2.2) 134 [(0, .ref (B0 + 97)), (2, .int v2), (3, .int v3)] [] zSH zKn bc bs I L :=
 zlp4_e (fun (v2 : Int32) (v3 : Int32) (I : zI) (L : zL) => zG p l e R s m args below meth c d cy B0 4 bc bs (zQ below s args d cy B0 bc bs (.inl (some (.int r.1))) zSH zKn bc bs r.2.1 r.2.2) 134 [(0, .ref (B0 + 97)), (2, .int v2), (3, .int v3)] [] zSH zKn bc bs I L) (fun k9 hk9 v2 v3 I L h => l_X12_run_134 C k124 hk124 k9 hk9 v2 v3 I L h) zF v2 v3 I L h
set_option maxHeartbeats 4000000 in
set_option maxRecDepth 100000 in
theorem l_X12_run_124 {r : Int32 × zI × zL} (C : zC p l e R s m args below meth c s0 a0 d cy B0 yX12_run.cls cX12_run 4 (some .int) bc bs bc bs 4 101 []) (k124 : Int32 → zI → zL → Option (Int32 × zI × zL)) (hk124 : ∀ (v2 : Int32) (I : zI) (L : zL), k124 v2 I L = some r → zG p l e R s m args below meth c d cy B0 4 bc bs (zQ below s args d cy B0 bc bs (.inl (some (.int r.1))) zSH zKn bc bs r.2.1 r.2.2) 124 [(0, .ref (B0 + 97)), (2, .int v2)] [] zSH zKn bc bs I L) (v2 : Int32) (I : zI) (L : zL) (h : f_X12_run_124 k124 v2 I L = some r) : zG p l e R s m args below meth c d cy B0 4 bc bs (zQ below s args d cy B0 bc bs (.inl (some (.int r.1))) zSH zKn bc bs r.2.1 r.2.2) 124 [(0, .ref (B0 + 97)), (2, .int v2)] [] zSH zKn bc bs I L := by
  unfold f_X12_run_124 at h
  refine z_iload_n C rfl 1 rfl dX12_run_124 ?_
  refine z_aload_n C rfl 0 rfl dX12_run_125 ?_
  refine z_geti C zc_12 dX12_run_126 15 97 rfl (by decide) (by decide) q_1184 rfl ?_
  refine z_icmp_ge C 261 (by decide) dX12_run_129 (fun hc => ?_) (fun hc => ?_)
  · have h := zif_t hc h
    refine z_aload_n C rfl 0 rfl dX12_run_261 ?_
    refine z_iconst C (v := 1) (by decide) dX12_run_262 ?_
    refine z_puti C zc_12 dX12_run_263 30 97 rfl (by decide) (by decide) rfl q_1199 rfl rfl rfl ?_
    obtain ⟨I17, eI17, h⟩ := zlt_e h
    refine z_eqI C eI17 ?_
    refine z_aload_n C rfl 0 rfl dX12_run_266 ?_
    refine z_geti C zc_12 dX12_run_267 39 97 rfl (by decide) (by decide) q_1208 rfl ?_
    obtain rfl := Option.some.inj h
    exact z_iret C dX12_run_270 .int rfl rfl rfl
  · have h := zif_f hc h
    refine z_iconst C (v := 0) (by decide) dX12_run_132 ?_
    refine z_istore_n C (lv' := [(3, .int (0 : Int32)), (0, .ref (B0 + 97)), (2, .int v2)]) rfl (by decide) rfl dX12_run_133 ?_
    refine z_lv [1, 2, 0] (lv' := [(0, .ref (B0 + 97)), (2, .int v2), (3, .int (0 : Int32))]) rfl ?_
    exact L_X12_run_134 C k124 hk124 v2 (0 : Int32) I L h
set_option maxHeartbeats 4000000 in
set_option maxRecDepth 100000 in
theorem L_X12_run_124 {r : Int32 × zI × zL} (C : zC p l e R s m args below meth c s0 a0 d cy B0 yX12_run.cls cX12_run 4 (some .int) bc bs bc bs 4 101 []) (v2 : Int32) (I : zI) (L : zL) (h : zlp3 (f_X12_run_124) zF v2 I L = some r) : zG p l e R s m args below meth c d cy B0 4 bc bs (zQ below s args d cy B0 bc bs (.inl (some (.int r.1))) zSH zKn bc bs r.2.1 r.2.2) 124 [(0, .ref (B0 + 97)), (2, .int v2)] [] zSH zKn bc bs I L :=
 zlp3_e (fun (v2 : Int32) (I : zI) (L : zL) => zG p l e R s m args below meth c d cy B0 4 bc bs (zQ below s args d cy B0 bc bs (.inl (some (.int r.1))) zSH zKn bc bs r.2.1 r.2.2) 124 [(0, .ref (B0 + 97)), (2, .int v2)] [] zSH zKn bc bs I L) (fun k9 hk9 v2 I L h => l_X12_run_124 C k9 hk9 v2 I L h) zF v2 I L h
set_option maxHeartbeats 4000000 in
set_option maxRecDepth 100000 in
theorem l_X12_run_101 {r : Int32 × zI × zL} (C : zC p l e R s m args below meth c s0 a0 d cy B0 yX12_run.cls cX12_run 4 (some .int) bc bs bc bs 4 101 []) (w1 : Int32) (I : zI) (L : zL) (h : f_X12_run_101 w1 I L = some r) : zG p l e R s m args below meth c d cy B0 4 bc bs (zQ below s args d cy B0 bc bs (.inl (some (.int r.1))) zSH zKn bc bs r.2.1 r.2.2) 101 [(0, .ref (B0 + 97))] [.int w1, .ref (B0 + 97)] zSH zKn bc bs I L := by
  unfold f_X12_run_101 at h
  refine z_puti C zc_12 dX12_run_101 0 97 rfl (by decide) (by decide) rfl q_1169 rfl rfl rfl ?_
  obtain ⟨I13, eI13, h⟩ := zlt_e h
  refine z_eqI C eI13 ?_
  refine z_aload_n C rfl 0 rfl dX12_run_104 ?_
  refine z_geti C zc_12 dX12_run_105 0 97 rfl (by decide) (by decide) q_1169 rfl ?_
  refine z_if_le C 113 (by decide) dX12_run_108 (fun hc => ?_) (fun hc => ?_)
  · have h := zif_t hc h
    refine z_aload_n C rfl 0 rfl dX12_run_113 ?_
    obtain ⟨I15, hg14, h⟩ := zb1_e h
    refine z_callV C zc_12 rfl (by decide) dX12_run_114 yy_X12_findNets (c_X12_findNets C.2.2.2.2.1  I13 L hg14) q_1476 q_1478 q_64 (by decide) (by decide) rfl rfl (Nat.le_of_ble_eq_true rfl) ⟨Nat.le_refl _, Nat.le_refl _, Nat.le_refl _, Nat.le_refl _⟩ ?_
    refine z_aload_n C rfl 0 rfl dX12_run_117 ?_
    refine z_iconst C (v := 0) (by decide) dX12_run_118 ?_
    refine z_puti C zc_12 dX12_run_119 39 97 rfl (by decide) (by decide) rfl q_1208 rfl rfl rfl ?_
    obtain ⟨I16, eI16, h⟩ := zlt_e h
    refine z_eqI C eI16 ?_
    refine z_iconst C (v := 0) (by decide) dX12_run_122 ?_
    refine z_istore_n C (lv' := [(2, .int (0 : Int32)), (0, .ref (B0 + 97))]) rfl (by decide) rfl dX12_run_123 ?_
    refine z_lv [1, 0] (lv' := [(0, .ref (B0 + 97)), (2, .int (0 : Int32))]) rfl ?_
    exact L_X12_run_124 C  (0 : Int32) I16 L h
  · have h := zif_f hc h
    refine z_iconst C (v := 0) (by decide) dX12_run_111 ?_
    obtain rfl := Option.some.inj h
    exact z_iret C dX12_run_112 .int rfl rfl rfl
set_option maxHeartbeats 4000000 in
set_option maxRecDepth 100000 in
theorem l_X12_run_55 {r : Int32 × zI × zL} (C : zC p l e R s m args below meth c s0 a0 d cy B0 yX12_run.cls cX12_run 4 (some .int) bc bs bc bs 4 101 []) (k55 : Int32 → Int32 → zI → zL → Option (Int32 × zI × zL)) (hk55 : ∀ (v1 : Int32) (v2 : Int32) (I : zI) (L : zL), k55 v1 v2 I L = some r → zG p l e R s m args below meth c d cy B0 4 bc bs (zQ below s args d cy B0 bc bs (.inl (some (.int r.1))) zSH zKn bc bs r.2.1 r.2.2) 55 [(0, .ref (B0 + 97)), (1, .int v1), (2, .int v2)] [] zSH zKn bc bs I L) (v1 : Int32) (v2 : Int32) (I : zI) (L : zL) (h : f_X12_run_55 k55 v1 v2 I L = some r) : zG p l e R s m args below meth c d cy B0 4 bc bs (zQ below s args d cy B0 bc bs (.inl (some (.int r.1))) zSH zKn bc bs r.2.1 r.2.2) 55 [(0, .ref (B0 + 97)), (1, .int v1), (2, .int v2)] [] zSH zKn bc bs I L := by
  unfold f_X12_run_55 at h
  refine z_iload_n C rfl 2 rfl dX12_run_55 ?_
  refine z_aload_n C rfl 0 rfl dX12_run_56 ?_
  refine z_geti C zc_12 dX12_run_57 15 97 rfl (by decide) (by decide) q_1184 rfl ?_
  refine z_icmp_ge C 83 (by decide) dX12_run_60 (fun hc => ?_) (fun hc => ?_)
  · have h := zif_t hc h
    refine z_aload_n C rfl 0 rfl dX12_run_83 ?_
    refine z_iconst C (v := 0) (by decide) dX12_run_84 ?_
    refine z_puti C zc_12 dX12_run_85 30 97 rfl (by decide) (by decide) rfl q_1199 rfl rfl rfl ?_
    obtain ⟨I7, eI7, h⟩ := zlt_e h
    refine z_eqI C eI7 ?_
    refine z_aload_n C rfl 0 rfl dX12_run_88 ?_
    refine z_iload_n C rfl 1 rfl dX12_run_89 ?_
    refine z_sipush C (v := 300) (by decide) dX12_run_90 ?_
    refine z_icmp_le C 100 (by decide) dX12_run_93 (fun hc => ?_) (fun hc => ?_)
    · have h := zif_t hc h
      refine z_iconst C (v := 0) (by decide) dX12_run_100 ?_
      refine z_lv [0] (lv' := [(0, .ref (B0 + 97))]) rfl ?_
      exact l_X12_run_101 C  (0 : Int32) I7 L h
    · have h := zif_f hc h
      refine z_iconst C (v := 2) (by decide) dX12_run_96 ?_
      refine z_goto C 101 (by decide) dX12_run_97 ?_
      refine z_lv [0] (lv' := [(0, .ref (B0 + 97))]) rfl ?_
      exact l_X12_run_101 C  (2 : Int32) I7 L h
  · have h := zif_f hc h
    refine z_iload_n C rfl 1 rfl dX12_run_63 ?_
    refine z_aload_n C rfl 0 rfl dX12_run_64 ?_
    refine z_getr C zc_12 dX12_run_65 33 97 120 rfl (by decide) (by decide) q_1202 rfl rfl ?_
    refine z_aload_n C rfl 0 rfl dX12_run_68 ?_
    refine z_getr C zc_12 dX12_run_69 25 97 114 rfl (by decide) (by decide) q_1194 rfl rfl ?_
    refine z_iload_n C rfl 2 rfl dX12_run_72 ?_
    obtain ⟨hb8, h⟩ := zck_e h
    refine z_iaload C dX12_run_73 rfl rfl (by decide) (zbd_in hb8) ?_
    obtain ⟨x9, ex9, h⟩ := zlt_e h
    refine z_eqi C ex9 ?_
    obtain ⟨hb10, h⟩ := zck_e h
    refine z_iaload C dX12_run_74 rfl rfl (by decide) (zbd_in hb10) ?_
    refine z_iadd C dX12_run_75 ?_
    obtain ⟨x11, ex11, h⟩ := zlt_e h
    refine z_eqi C ex11 ?_
    refine z_istore_n C (lv' := [(1, .int x11), (0, .ref (B0 + 97)), (2, .int v2)]) rfl (by decide) rfl dX12_run_76 ?_
    obtain ⟨x12, ex12, h⟩ := zlt_e h
    refine z_iinc C (j := 2) (v := x12) (lv' := [(2, .int x12), (1, .int x11), (0, .ref (B0 + 97))]) rfl (by rw [ex12]; rfl) (by decide) rfl dX12_run_77 ?_
    refine z_goto C 55 (by decide) dX12_run_80 ?_
    refine z_lv [2, 1, 0] (lv' := [(0, .ref (B0 + 97)), (1, .int x11), (2, .int x12)]) rfl ?_
    exact hk55 x11 x12 I L h
set_option maxHeartbeats 4000000 in
set_option maxRecDepth 100000 in
theorem L_X12_run_55 {r : Int32 × zI × zL} (C : zC p l e R s m args below meth c s0 a0 d cy B0 yX12_run.cls cX12_run 4 (some .int) bc bs bc bs 4 101 []) (v1 : Int32) (v2 : Int32) (I : zI) (L : zL) (h : zlp4 (f_X12_run_55) zF v1 v2 I L = some r) : zG p l e R s m args below meth c d cy B0 4 bc bs (zQ below s args d cy B0 bc bs (.inl (some (.int r.1))) zSH zKn bc bs r.2.1 r.2.2) 55 [(0, .ref (B0 + 97)), (1, .int v1), (2, .int v2)] [] zSH zKn bc bs I L :=
 zlp4_e (fun (v1 : Int32) (v2 : Int32) (I : zI) (L : zL) => zG p l e R s m args below meth c d cy B0 4 bc bs (zQ below s args d cy B0 bc bs (.inl (some (.int r.1))) zSH zKn bc bs r.2.1 r.2.2) 55 [(0, .ref (B0 + 97)), (1, .int v1), (2, .int v2)] [] zSH zKn bc bs I L) (fun k9 hk9 v1 v2 I L h => l_X12_run_55 C k9 hk9 v1 v2 I L h) zF v1 v2 I L h
set_option maxHeartbeats 4000000 in
set_option maxRecDepth 100000 in
theorem l_X12_run_27 {r : Int32 × zI × zL} (C : zC p l e R s m args below meth c s0 a0 d cy B0 yX12_run.cls cX12_run 4 (some .int) bc bs bc bs 4 101 []) (k27 : Int32 → zI → zL → Option (Int32 × zI × zL)) (hk27 : ∀ (v1 : Int32) (I : zI) (L : zL), k27 v1 I L = some r → zG p l e R s m args below meth c d cy B0 4 bc bs (zQ below s args d cy B0 bc bs (.inl (some (.int r.1))) zSH zKn bc bs r.2.1 r.2.2) 27 [(0, .ref (B0 + 97)), (1, .int v1)] [] zSH zKn bc bs I L) (v1 : Int32) (I : zI) (L : zL) (h : f_X12_run_27 k27 v1 I L = some r) : zG p l e R s m args below meth c d cy B0 4 bc bs (zQ below s args d cy B0 bc bs (.inl (some (.int r.1))) zSH zKn bc bs r.2.1 r.2.2) 27 [(0, .ref (B0 + 97)), (1, .int v1)] [] zSH zKn bc bs I L := by
  unfold f_X12_run_27 at h
  refine z_iload_n C rfl 1 rfl dX12_run_27 ?_
  refine z_aload_n C rfl 0 rfl dX12_run_28 ?_
  refine z_geti C zc_12 dX12_run_29 12 97 rfl (by decide) (by decide) q_1181 rfl ?_
  refine z_icmp_ge C 51 (by decide) dX12_run_32 (fun hc => ?_) (fun hc => ?_)
  · have h := zif_t hc h
    refine z_iconst C (v := 0) (by decide) dX12_run_51 ?_
    refine z_istore_n C (lv' := [(1, .int (0 : Int32)), (0, .ref (B0 + 97))]) rfl (by decide) rfl dX12_run_52 ?_
    refine z_iconst C (v := 0) (by decide) dX12_run_53 ?_
    refine z_istore_n C (lv' := [(2, .int (0 : Int32)), (1, .int (0 : Int32)), (0, .ref (B0 + 97))]) rfl (by decide) rfl dX12_run_54 ?_
    refine z_lv [2, 1, 0] (lv' := [(0, .ref (B0 + 97)), (1, .int (0 : Int32)), (2, .int (0 : Int32))]) rfl ?_
    exact L_X12_run_55 C  (0 : Int32) (0 : Int32) I L h
  · have h := zif_f hc h
    refine z_aload_n C rfl 0 rfl dX12_run_35 ?_
    refine z_iload_n C rfl 1 rfl dX12_run_36 ?_
    obtain ⟨I3, hg2, h⟩ := zb1_e h
    refine z_callV C zc_12 rfl (by decide) dX12_run_37 yy_X12_make (c_X12_make C.2.2.2.2.1  v1 I L hg2) q_1453 q_1455 q_59 (by decide) (by decide) rfl rfl (Nat.le_of_ble_eq_true rfl) ⟨Nat.le_refl _, Nat.le_refl _, Nat.le_refl _, Nat.le_refl _⟩ ?_
    refine z_aload_n C rfl 0 rfl dX12_run_40 ?_
    refine z_iload_n C rfl 1 rfl dX12_run_41 ?_
    obtain ⟨I5, hg4, h⟩ := zb1_e h
    refine z_callV C zc_12 rfl (by decide) dX12_run_42 yy_X12_findShapes (c_X12_findShapes C.2.2.2.2.1  v1 I3 L hg4) q_1465 q_1467 q_62 (by decide) (by decide) rfl rfl (Nat.le_of_ble_eq_true rfl) ⟨Nat.le_refl _, Nat.le_refl _, Nat.le_refl _, Nat.le_refl _⟩ ?_
    obtain ⟨x6, ex6, h⟩ := zlt_e h
    refine z_iinc C (j := 1) (v := x6) (lv' := [(1, .int x6), (0, .ref (B0 + 97))]) rfl (by rw [ex6]; rfl) (by decide) rfl dX12_run_45 ?_
    refine z_goto C 27 (by decide) dX12_run_48 ?_
    refine z_lv [1, 0] (lv' := [(0, .ref (B0 + 97)), (1, .int x6)]) rfl ?_
    exact hk27 x6 I5 L h
set_option maxHeartbeats 4000000 in
set_option maxRecDepth 100000 in
theorem L_X12_run_27 {r : Int32 × zI × zL} (C : zC p l e R s m args below meth c s0 a0 d cy B0 yX12_run.cls cX12_run 4 (some .int) bc bs bc bs 4 101 []) (v1 : Int32) (I : zI) (L : zL) (h : zlp3 (f_X12_run_27) zF v1 I L = some r) : zG p l e R s m args below meth c d cy B0 4 bc bs (zQ below s args d cy B0 bc bs (.inl (some (.int r.1))) zSH zKn bc bs r.2.1 r.2.2) 27 [(0, .ref (B0 + 97)), (1, .int v1)] [] zSH zKn bc bs I L :=
 zlp3_e (fun (v1 : Int32) (I : zI) (L : zL) => zG p l e R s m args below meth c d cy B0 4 bc bs (zQ below s args d cy B0 bc bs (.inl (some (.int r.1))) zSH zKn bc bs r.2.1 r.2.2) 27 [(0, .ref (B0 + 97)), (1, .int v1)] [] zSH zKn bc bs I L) (fun k9 hk9 v1 I L h => l_X12_run_27 C k9 hk9 v1 I L h) zF v1 I L h
set_option maxHeartbeats 4000000 in
set_option maxRecDepth 100000 in
theorem l_X12_run_13 {r : Int32 × zI × zL} (C : zC p l e R s m args below meth c s0 a0 d cy B0 yX12_run.cls cX12_run 4 (some .int) bc bs bc bs 4 101 []) (w1 : Int32) (I : zI) (L : zL) (h : f_X12_run_13 w1 I L = some r) : zG p l e R s m args below meth c d cy B0 4 bc bs (zQ below s args d cy B0 bc bs (.inl (some (.int r.1))) zSH zKn bc bs r.2.1 r.2.2) 13 [(0, .ref (B0 + 97))] [.int w1, .ref (B0 + 97)] zSH zKn bc bs I L := by
  unfold f_X12_run_13 at h
  refine z_puti C zc_12 dX12_run_13 0 97 rfl (by decide) (by decide) rfl q_1169 rfl rfl rfl ?_
  obtain ⟨I1, eI1, h⟩ := zlt_e h
  refine z_eqI C eI1 ?_
  refine z_aload_n C rfl 0 rfl dX12_run_16 ?_
  refine z_geti C zc_12 dX12_run_17 0 97 rfl (by decide) (by decide) q_1169 rfl ?_
  refine z_if_le C 25 (by decide) dX12_run_20 (fun hc => ?_) (fun hc => ?_)
  · have h := zif_t hc h
    refine z_iconst C (v := 0) (by decide) dX12_run_25 ?_
    refine z_istore_n C (lv' := [(1, .int (0 : Int32)), (0, .ref (B0 + 97))]) rfl (by decide) rfl dX12_run_26 ?_
    refine z_lv [1, 0] (lv' := [(0, .ref (B0 + 97)), (1, .int (0 : Int32))]) rfl ?_
    exact L_X12_run_27 C  (0 : Int32) I1 L h
  · have h := zif_f hc h
    refine z_iconst C (v := 0) (by decide) dX12_run_23 ?_
    obtain rfl := Option.some.inj h
    exact z_iret C dX12_run_24 .int rfl rfl rfl
set_option maxHeartbeats 4000000 in
set_option maxRecDepth 100000 in
theorem c_X12_run {r : Int32 × zI × zL} (hE : zE0 l s0 a0 d cy B0) (I : zI) (L : zL) (h : f_X12_run I L = some r) : zM l s0 d cy B0 yX12_run cX12_run 4 (some .int) 4 101 [.ref (B0 + 97)] zSH zKn bc bs I L (.inl (some (.int r.1))) zSH zKn bc bs r.2.1 r.2.2 := by
  refine z_meth yy_X12_run hE (Nat.le_of_ble_eq_true rfl) (fun p e R s m args below meth c C => ?_)
  show zG p l e R s m args below meth c d cy B0 4 bc bs (zQ below s args d cy B0 bc bs (.inl (some (.int r.1))) zSH zKn bc bs r.2.1 r.2.2) 0 [(0, .ref (B0 + 97))] [] zSH zKn bc bs I L
  unfold f_X12_run at h
  refine z_aload_n C rfl 0 rfl dX12_run_0 ?_
  refine z_aload_n C rfl 0 rfl dX12_run_1 ?_
  refine z_geti C zc_12 dX12_run_2 11 97 rfl (by decide) (by decide) q_1180 rfl ?_
  refine z_if_eq C 12 (by decide) dX12_run_5 (fun hc => ?_) (fun hc => ?_)
  · have h := zif_t hc h
    refine z_iconst C (v := 1) (by decide) dX12_run_12 ?_
    exact l_X12_run_13 C  (1 : Int32) I L h
  · have h := zif_f hc h
    refine z_iconst C (v := 0) (by decide) dX12_run_8 ?_
    refine z_goto C 13 (by decide) dX12_run_9 ?_
    exact l_X12_run_13 C  (0 : Int32) I L h
theorem q_1512 : (Cond.code ({ cls := "DeviceFindModel", name := "isDevice", desc := "(I)Z" } : Jvm.MethodName) prog_14_method_43_code (2 : Nat) (Option.some Jvm.ClassFile.FieldType.boolean)) ∈ lw_tbl := List.mem_of_getElem? (i := 1512) (by decide +kernel)
theorem yy_X12_isDevice : zY yX12_isDevice cX12_isDevice 2 (some .boolean) 1 := ⟨q_1512, q_88, by decide +kernel, by decide +kernel, by decide +kernel⟩
def f_X12_isDevice_17 (w0 : Int32) (I : zI) : Option Int32 :=
  zck (zbo w0) (some w0)
def f_X12_isDevice_16 (I : zI) : Option Int32 :=
  f_X12_isDevice_17 (0 : Int32) I
def f_X12_isDevice (a1 : Int32) (I : zI) : Option Int32 :=
  if a1 < 0 then (f_X12_isDevice_16 I) else (if (I 97 39) ≤ a1 then (f_X12_isDevice_16 I) else (f_X12_isDevice_17 (1 : Int32) I))
set_option maxHeartbeats 4000000 in
set_option maxRecDepth 100000 in
theorem l_X12_isDevice_17 {r : Int32} (C : zC p l e R s m args below meth c s0 a0 d cy B0 yX12_isDevice.cls cX12_isDevice 2 (some .boolean) bc bs bc bs 0 0 []) (L : zL) (w0 : Int32) (I : zI) (h : f_X12_isDevice_17 w0 I = some r) : zG p l e R s m args below meth c d cy B0 2 bc bs (zQ below s args d cy B0 bc bs (.inl (some (.int r))) zSH zKn bc bs I L) 17 [] [.int w0] zSH zKn bc bs I L := by
  unfold f_X12_isDevice_17 at h
  obtain ⟨hb1, h⟩ := zck_e h
  obtain rfl := Option.some.inj h
  exact z_iret C dX12_isDevice_17 .boolean rfl (zbo_n hb1).1 rfl
set_option maxHeartbeats 4000000 in
set_option maxRecDepth 100000 in
theorem l_X12_isDevice_16 {r : Int32} (C : zC p l e R s m args below meth c s0 a0 d cy B0 yX12_isDevice.cls cX12_isDevice 2 (some .boolean) bc bs bc bs 0 0 []) (L : zL) (I : zI) (h : f_X12_isDevice_16 I = some r) : zG p l e R s m args below meth c d cy B0 2 bc bs (zQ below s args d cy B0 bc bs (.inl (some (.int r))) zSH zKn bc bs I L) 16 [] [] zSH zKn bc bs I L := by
  unfold f_X12_isDevice_16 at h
  refine z_iconst C (v := 0) (by decide) dX12_isDevice_16 ?_
  exact l_X12_isDevice_17 C L (0 : Int32) I h
set_option maxHeartbeats 4000000 in
set_option maxRecDepth 100000 in
theorem c_X12_isDevice {r : Int32} (hE : zE0 l s0 a0 d cy B0) (a1 : Int32) (I : zI) (L : zL) (h : f_X12_isDevice a1 I = some r) : zM l s0 d cy B0 yX12_isDevice cX12_isDevice 2 (some .boolean) 0 0 [.ref (B0 + 97), .int a1] zSH zKn bc bs I L (.inl (some (.int r))) zSH zKn bc bs I L := by
  refine z_meth yy_X12_isDevice hE (Nat.le_of_ble_eq_true rfl) (fun p e R s m args below meth c C => ?_)
  show zG p l e R s m args below meth c d cy B0 2 bc bs (zQ below s args d cy B0 bc bs (.inl (some (.int r))) zSH zKn bc bs I L) 0 [(0, .ref (B0 + 97)), (1, .int a1)] [] zSH zKn bc bs I L
  unfold f_X12_isDevice at h
  refine z_iload_n C rfl 1 rfl dX12_isDevice_0 ?_
  refine z_if_lt C 16 (by decide) dX12_isDevice_1 (fun hc => ?_) (fun hc => ?_)
  · have h := zif_t hc h
    refine z_lv [] (lv' := []) rfl ?_
    exact l_X12_isDevice_16 C L I h
  · have h := zif_f hc h
    refine z_iload_n C rfl 1 rfl dX12_isDevice_4 ?_
    refine z_aload_n C rfl 0 rfl dX12_isDevice_5 ?_
    refine z_geti C zc_12 dX12_isDevice_6 39 97 rfl (by decide) (by decide) q_1208 rfl ?_
    refine z_icmp_ge C 16 (by decide) dX12_isDevice_9 (fun hc => ?_) (fun hc => ?_)
    · have h := zif_t hc h
      refine z_lv [] (lv' := []) rfl ?_
      exact l_X12_isDevice_16 C L I h
    · have h := zif_f hc h
      refine z_iconst C (v := 1) (by decide) dX12_isDevice_12 ?_
      refine z_goto C 17 (by decide) dX12_isDevice_13 ?_
      refine z_lv [] (lv' := []) rfl ?_
      exact l_X12_isDevice_17 C L (1 : Int32) I h
theorem q_71 : Cond.selects "DeviceFindModel" ⟨"DeviceFindModel", "isDevice", "(I)Z"⟩ ⟨"DeviceFindModel", "isDevice", "(I)Z"⟩ ∈ lw_tbl := List.mem_of_getElem? (i := 71) (by decide +kernel)
theorem q_1508 : (Cond.code ({ cls := "DeviceFindModel", name := "device", desc := "(II)I" } : Jvm.MethodName) prog_14_method_44_code (3 : Nat) (Option.some Jvm.ClassFile.FieldType.int)) ∈ lw_tbl := List.mem_of_getElem? (i := 1508) (by decide +kernel)
theorem q_1509 : (Cond.methodLink "DeviceFindModel" (305 : Nat) ({ cls := "DeviceFindModel", name := "isDevice", desc := "(I)Z" } : Jvm.MethodName)) ∈ lw_tbl := List.mem_of_getElem? (i := 1509) (by decide +kernel)
theorem q_1511 : (Cond.instanceMethod ({ cls := "DeviceFindModel", name := "isDevice", desc := "(I)Z" } : Jvm.MethodName)) ∈ lw_tbl := List.mem_of_getElem? (i := 1511) (by decide +kernel)
theorem yy_X12_device : zY yX12_device cX12_device 3 (some .int) 2 := ⟨q_1508, q_88, by decide +kernel, by decide +kernel, by decide +kernel⟩
def f_X12_device_125 (w0 : Int32) (I : zI) : Option (Int32 × zI) :=
  some (w0, I)
def f_X12_device_38 (v1 : Int32) (v2 : Int32) (w1 : Int32) (I : zI) : Option (Int32 × zI) :=
  zlt (zu I 97 0 w1) (fun I3 => if (I3 97 0) ≤ 0 then (if v2 = 0 then (zck (zbd v1 300) (f_X12_device_125 (I3 124 v1.toNatClampNeg) I3)) else (if v2 = (1 : Int32) then (zck (zbd v1 300) (f_X12_device_125 (I3 125 v1.toNatClampNeg) I3)) else (if v2 = (2 : Int32) then (zck (zbd v1 300) (if (I3 127 v1.toNatClampNeg) = 0 then (f_X12_device_125 (0 : Int32) I3) else (f_X12_device_125 (1 : Int32) I3))) else (if v2 = (3 : Int32) then (zck (zbd v1 300) (zlt ((I3 126 v1.toNatClampNeg) - (I3 126 v1.toNatClampNeg) / (64 : Int32) * (64 : Int32)) (fun x9 => f_X12_device_125 x9 I3))) else (zck (zbd v1 300) (zlt ((I3 126 v1.toNatClampNeg) / (64 : Int32)) (fun x6 => f_X12_device_125 x6 I3))))))) else (some ((0 : Int32), I3)))
def f_X12_device_10 (v1 : Int32) (v2 : Int32) (I : zI) : Option (Int32 × zI) :=
  f_X12_device_38 v1 v2 (1 : Int32) I
def f_X12_device (a1 : Int32) (a2 : Int32) (I : zI) : Option (Int32 × zI) :=
  if a2 < 0 then (f_X12_device_10 a1 a2 I) else (if a2 ≤ (4 : Int32) then (if (I 97 30) = 0 then (f_X12_device_38 a1 a2 (2 : Int32) I) else (zb1 (f_X12_isDevice a1 I) (fun x2 => if x2 = 0 then (f_X12_device_38 a1 a2 (1 : Int32) I) else (f_X12_device_38 a1 a2 (0 : Int32) I)))) else (f_X12_device_10 a1 a2 I))
set_option maxHeartbeats 4000000 in
set_option maxRecDepth 100000 in
theorem l_X12_device_125 {r : Int32 × zI} (C : zC p l e R s m args below meth c s0 a0 d cy B0 yX12_device.cls cX12_device 3 (some .int) bc bs bc bs 1 21 []) (L : zL) (w0 : Int32) (I : zI) (h : f_X12_device_125 w0 I = some r) : zG p l e R s m args below meth c d cy B0 3 bc bs (zQ below s args d cy B0 bc bs (.inl (some (.int r.1))) zSH zKn bc bs r.2 L) 125 [] [.int w0] zSH zKn bc bs I L := by
  unfold f_X12_device_125 at h
  obtain rfl := Option.some.inj h
  exact z_iret C dX12_device_125 .int rfl rfl rfl
set_option maxHeartbeats 4000000 in
set_option maxRecDepth 100000 in
theorem l_X12_device_38 {r : Int32 × zI} (C : zC p l e R s m args below meth c s0 a0 d cy B0 yX12_device.cls cX12_device 3 (some .int) bc bs bc bs 1 21 []) (L : zL) (v1 : Int32) (v2 : Int32) (w1 : Int32) (I : zI) (h : f_X12_device_38 v1 v2 w1 I = some r) : zG p l e R s m args below meth c d cy B0 3 bc bs (zQ below s args d cy B0 bc bs (.inl (some (.int r.1))) zSH zKn bc bs r.2 L) 38 [(0, .ref (B0 + 97)), (1, .int v1), (2, .int v2)] [.int w1, .ref (B0 + 97)] zSH zKn bc bs I L := by
  unfold f_X12_device_38 at h
  refine z_puti C zc_12 dX12_device_38 0 97 rfl (by decide) (by decide) rfl q_1169 rfl rfl rfl ?_
  obtain ⟨I3, eI3, h⟩ := zlt_e h
  refine z_eqI C eI3 ?_
  refine z_aload_n C rfl 0 rfl dX12_device_41 ?_
  refine z_geti C zc_12 dX12_device_42 0 97 rfl (by decide) (by decide) q_1169 rfl ?_
  refine z_if_le C 50 (by decide) dX12_device_45 (fun hc => ?_) (fun hc => ?_)
  · have h := zif_t hc h
    refine z_iload_n C rfl 2 rfl dX12_device_50 ?_
    refine z_if_ne C 63 (by decide) dX12_device_51 (fun hc => ?_) (fun hc => ?_)
    · have h := zif_f hc h
      refine z_iload_n C rfl 2 rfl dX12_device_63 ?_
      refine z_iconst C (v := 1) (by decide) dX12_device_64 ?_
      refine z_icmp_ne C 77 (by decide) dX12_device_65 (fun hc => ?_) (fun hc => ?_)
      · have h := zif_f hc h
        refine z_iload_n C rfl 2 rfl dX12_device_77 ?_
        refine z_iconst C (v := 2) (by decide) dX12_device_78 ?_
        refine z_icmp_ne C 99 (by decide) dX12_device_79 (fun hc => ?_) (fun hc => ?_)
        · have h := zif_f hc h
          refine z_iload_n C rfl 2 rfl dX12_device_99 ?_
          refine z_iconst C (v := 3) (by decide) dX12_device_100 ?_
          refine z_icmp_ne C 116 (by decide) dX12_device_101 (fun hc => ?_) (fun hc => ?_)
          · have h := zif_f hc h
            refine z_aload_n C rfl 0 rfl dX12_device_116 ?_
            refine z_getr C zc_12 dX12_device_117 42 97 126 rfl (by decide) (by decide) q_1211 rfl rfl ?_
            refine z_iload_n C rfl 1 rfl dX12_device_120 ?_
            obtain ⟨hb4, h⟩ := zck_e h
            refine z_iaload C dX12_device_121 rfl rfl (by decide) (zbd_in hb4) ?_
            refine z_bipush C (v := 64) (by decide) dX12_device_122 ?_
            refine z_idiv C (by decide) dX12_device_124 ?_
            obtain ⟨x6, ex6, h⟩ := zlt_e h
            refine z_eqi C ex6 ?_
            refine z_lv [] (lv' := []) rfl ?_
            exact l_X12_device_125 C L x6 I3 h
          · have h := zif_t hc h
            refine z_aload_n C rfl 0 rfl dX12_device_104 ?_
            refine z_getr C zc_12 dX12_device_105 42 97 126 rfl (by decide) (by decide) q_1211 rfl rfl ?_
            refine z_iload_n C rfl 1 rfl dX12_device_108 ?_
            obtain ⟨hb7, h⟩ := zck_e h
            refine z_iaload C dX12_device_109 rfl rfl (by decide) (zbd_in hb7) ?_
            refine z_bipush C (v := 64) (by decide) dX12_device_110 ?_
            refine z_irem C (by decide) dX12_device_112 ?_
            obtain ⟨x9, ex9, h⟩ := zlt_e h
            refine z_eqi C ex9 ?_
            refine z_goto C 125 (by decide) dX12_device_113 ?_
            refine z_lv [] (lv' := []) rfl ?_
            exact l_X12_device_125 C L x9 I3 h
        · have h := zif_t hc h
          refine z_aload_n C rfl 0 rfl dX12_device_82 ?_
          refine z_getr C zc_12 dX12_device_83 43 97 127 rfl (by decide) (by decide) q_1212 rfl rfl ?_
          refine z_iload_n C rfl 1 rfl dX12_device_86 ?_
          obtain ⟨hb10, h⟩ := zck_e h
          refine z_zaload C dX12_device_87 rfl rfl (by decide) (zbd_in hb10) ?_
          refine z_if_eq C 95 (by decide) dX12_device_88 (fun hc => ?_) (fun hc => ?_)
          · have h := zif_t hc h
            refine z_iconst C (v := 0) (by decide) dX12_device_95 ?_
            refine z_goto C 125 (by decide) dX12_device_96 ?_
            refine z_lv [] (lv' := []) rfl ?_
            exact l_X12_device_125 C L (0 : Int32) I3 h
          · have h := zif_f hc h
            refine z_iconst C (v := 1) (by decide) dX12_device_91 ?_
            refine z_goto C 125 (by decide) dX12_device_92 ?_
            refine z_lv [] (lv' := []) rfl ?_
            exact l_X12_device_125 C L (1 : Int32) I3 h
      · have h := zif_t hc h
        refine z_aload_n C rfl 0 rfl dX12_device_68 ?_
        refine z_getr C zc_12 dX12_device_69 41 97 125 rfl (by decide) (by decide) q_1210 rfl rfl ?_
        refine z_iload_n C rfl 1 rfl dX12_device_72 ?_
        obtain ⟨hb11, h⟩ := zck_e h
        refine z_iaload C dX12_device_73 rfl rfl (by decide) (zbd_in hb11) ?_
        refine z_goto C 125 (by decide) dX12_device_74 ?_
        refine z_lv [] (lv' := []) rfl ?_
        exact l_X12_device_125 C L (I3 125 v1.toNatClampNeg) I3 h
    · have h := zif_t hc h
      refine z_aload_n C rfl 0 rfl dX12_device_54 ?_
      refine z_getr C zc_12 dX12_device_55 40 97 124 rfl (by decide) (by decide) q_1209 rfl rfl ?_
      refine z_iload_n C rfl 1 rfl dX12_device_58 ?_
      obtain ⟨hb12, h⟩ := zck_e h
      refine z_iaload C dX12_device_59 rfl rfl (by decide) (zbd_in hb12) ?_
      refine z_goto C 125 (by decide) dX12_device_60 ?_
      refine z_lv [] (lv' := []) rfl ?_
      exact l_X12_device_125 C L (I3 124 v1.toNatClampNeg) I3 h
  · have h := zif_f hc h
    refine z_iconst C (v := 0) (by decide) dX12_device_48 ?_
    obtain rfl := Option.some.inj h
    exact z_iret C dX12_device_49 .int rfl rfl rfl
set_option maxHeartbeats 4000000 in
set_option maxRecDepth 100000 in
theorem l_X12_device_10 {r : Int32 × zI} (C : zC p l e R s m args below meth c s0 a0 d cy B0 yX12_device.cls cX12_device 3 (some .int) bc bs bc bs 1 21 []) (L : zL) (v1 : Int32) (v2 : Int32) (I : zI) (h : f_X12_device_10 v1 v2 I = some r) : zG p l e R s m args below meth c d cy B0 3 bc bs (zQ below s args d cy B0 bc bs (.inl (some (.int r.1))) zSH zKn bc bs r.2 L) 10 [(0, .ref (B0 + 97)), (1, .int v1), (2, .int v2)] [.ref (B0 + 97)] zSH zKn bc bs I L := by
  unfold f_X12_device_10 at h
  refine z_iconst C (v := 1) (by decide) dX12_device_10 ?_
  refine z_goto C 38 (by decide) dX12_device_11 ?_
  exact l_X12_device_38 C L v1 v2 (1 : Int32) I h
set_option maxHeartbeats 4000000 in
set_option maxRecDepth 100000 in
theorem c_X12_device {r : Int32 × zI} (hE : zE0 l s0 a0 d cy B0) (a1 : Int32) (a2 : Int32) (I : zI) (L : zL) (h : f_X12_device a1 a2 I = some r) : zM l s0 d cy B0 yX12_device cX12_device 3 (some .int) 1 21 [.ref (B0 + 97), .int a1, .int a2] zSH zKn bc bs I L (.inl (some (.int r.1))) zSH zKn bc bs r.2 L := by
  refine z_meth yy_X12_device hE (Nat.le_of_ble_eq_true rfl) (fun p e R s m args below meth c C => ?_)
  show zG p l e R s m args below meth c d cy B0 3 bc bs (zQ below s args d cy B0 bc bs (.inl (some (.int r.1))) zSH zKn bc bs r.2 L) 0 [(0, .ref (B0 + 97)), (1, .int a1), (2, .int a2)] [] zSH zKn bc bs I L
  unfold f_X12_device at h
  refine z_aload_n C rfl 0 rfl dX12_device_0 ?_
  refine z_iload_n C rfl 2 rfl dX12_device_1 ?_
  refine z_if_lt C 10 (by decide) dX12_device_2 (fun hc => ?_) (fun hc => ?_)
  · have h := zif_t hc h
    exact l_X12_device_10 C L a1 a2 I h
  · have h := zif_f hc h
    refine z_iload_n C rfl 2 rfl dX12_device_5 ?_
    refine z_iconst C (v := 4) (by decide) dX12_device_6 ?_
    refine z_icmp_le C 14 (by decide) dX12_device_7 (fun hc => ?_) (fun hc => ?_)
    · have h := zif_t hc h
      refine z_aload_n C rfl 0 rfl dX12_device_14 ?_
      refine z_geti C zc_12 dX12_device_15 30 97 rfl (by decide) (by decide) q_1199 rfl ?_
      refine z_if_ne C 25 (by decide) dX12_device_18 (fun hc => ?_) (fun hc => ?_)
      · have h := zif_f hc h
        refine z_aload_n C rfl 0 rfl dX12_device_25 ?_
        refine z_iload_n C rfl 1 rfl dX12_device_26 ?_
        obtain ⟨x2, hg1, h⟩ := zb1_e h
        refine z_callV C zc_12 rfl (by decide) dX12_device_27 yy_X12_isDevice (c_X12_isDevice C.2.2.2.2.1  a1 I L hg1) q_1509 q_1511 q_71 (by decide) (by decide) rfl rfl (Nat.le_of_ble_eq_true rfl) ⟨Nat.le_refl _, Nat.le_refl _, Nat.le_refl _, Nat.le_refl _⟩ ?_
        refine z_if_ne C 37 (by decide) dX12_device_30 (fun hc => ?_) (fun hc => ?_)
        · have h := zif_f hc h
          refine z_iconst C (v := 0) (by decide) dX12_device_37 ?_
          exact l_X12_device_38 C L a1 a2 (0 : Int32) I h
        · have h := zif_t hc h
          refine z_iconst C (v := 1) (by decide) dX12_device_33 ?_
          refine z_goto C 38 (by decide) dX12_device_34 ?_
          exact l_X12_device_38 C L a1 a2 (1 : Int32) I h
      · have h := zif_t hc h
        refine z_iconst C (v := 2) (by decide) dX12_device_21 ?_
        refine z_goto C 38 (by decide) dX12_device_22 ?_
        exact l_X12_device_38 C L a1 a2 (2 : Int32) I h
    · have h := zif_f hc h
      exact l_X12_device_10 C L a1 a2 I h
theorem q_1516 : (Cond.code ({ cls := "DeviceFindModel", name := "size", desc := "(II)J" } : Jvm.MethodName) prog_14_method_45_code (3 : Nat) (Option.some Jvm.ClassFile.FieldType.long)) ∈ lw_tbl := List.mem_of_getElem? (i := 1516) (by decide +kernel)
theorem yy_X12_size : zY yX12_size cX12_size 3 (some .long) 2 := ⟨q_1516, q_88, by decide +kernel, by decide +kernel, by decide +kernel⟩
def f_X12_size_62 (w0 : Int64) (I : zI) (L : zL) : Option (Int64 × zI) :=
  some (w0, I)
def f_X12_size_38 (v1 : Int32) (v2 : Int32) (w1 : Int32) (I : zI) (L : zL) : Option (Int64 × zI) :=
  zlt (zu I 97 0 w1) (fun I3 => if (I3 97 0) ≤ 0 then (zlt (((3 : Int32) * v1) + v2) (fun x4 => zck (zbd x4 900) (f_X12_size_62 (L 129 x4.toNatClampNeg) I3 L))) else (f_X12_size_62 (0 : Int64) I3 L))
def f_X12_size_10 (v1 : Int32) (v2 : Int32) (I : zI) (L : zL) : Option (Int64 × zI) :=
  f_X12_size_38 v1 v2 (1 : Int32) I L
def f_X12_size (a1 : Int32) (a2 : Int32) (I : zI) (L : zL) : Option (Int64 × zI) :=
  if a2 < 0 then (f_X12_size_10 a1 a2 I L) else (if a2 ≤ (2 : Int32) then (if (I 97 30) = 0 then (f_X12_size_38 a1 a2 (2 : Int32) I L) else (zb1 (f_X12_isDevice a1 I) (fun x2 => if x2 = 0 then (f_X12_size_38 a1 a2 (1 : Int32) I L) else (f_X12_size_38 a1 a2 (0 : Int32) I L)))) else (f_X12_size_10 a1 a2 I L))
set_option maxHeartbeats 4000000 in
set_option maxRecDepth 100000 in
theorem l_X12_size_62 {r : Int64 × zI} (C : zC p l e R s m args below meth c s0 a0 d cy B0 yX12_size.cls cX12_size 3 (some .long) bc bs bc bs 1 21 []) (w0 : Int64) (I : zI) (L : zL) (h : f_X12_size_62 w0 I L = some r) : zG p l e R s m args below meth c d cy B0 3 bc bs (zQ below s args d cy B0 bc bs (.inl (some (.long r.1))) zSH zKn bc bs r.2 L) 62 [] [.long w0] zSH zKn bc bs I L := by
  unfold f_X12_size_62 at h
  obtain rfl := Option.some.inj h
  exact z_lret C dX12_size_62 rfl rfl
set_option maxHeartbeats 4000000 in
set_option maxRecDepth 100000 in
theorem l_X12_size_38 {r : Int64 × zI} (C : zC p l e R s m args below meth c s0 a0 d cy B0 yX12_size.cls cX12_size 3 (some .long) bc bs bc bs 1 21 []) (v1 : Int32) (v2 : Int32) (w1 : Int32) (I : zI) (L : zL) (h : f_X12_size_38 v1 v2 w1 I L = some r) : zG p l e R s m args below meth c d cy B0 3 bc bs (zQ below s args d cy B0 bc bs (.inl (some (.long r.1))) zSH zKn bc bs r.2 L) 38 [(0, .ref (B0 + 97)), (1, .int v1), (2, .int v2)] [.int w1, .ref (B0 + 97)] zSH zKn bc bs I L := by
  unfold f_X12_size_38 at h
  refine z_puti C zc_12 dX12_size_38 0 97 rfl (by decide) (by decide) rfl q_1169 rfl rfl rfl ?_
  obtain ⟨I3, eI3, h⟩ := zlt_e h
  refine z_eqI C eI3 ?_
  refine z_aload_n C rfl 0 rfl dX12_size_41 ?_
  refine z_geti C zc_12 dX12_size_42 0 97 rfl (by decide) (by decide) q_1169 rfl ?_
  refine z_if_le C 52 (by decide) dX12_size_45 (fun hc => ?_) (fun hc => ?_)
  · have h := zif_t hc h
    refine z_aload_n C rfl 0 rfl dX12_size_52 ?_
    refine z_getr C zc_12 dX12_size_53 45 97 129 rfl (by decide) (by decide) q_1214 rfl rfl ?_
    refine z_iconst C (v := 3) (by decide) dX12_size_56 ?_
    refine z_iload_n C rfl 1 rfl dX12_size_57 ?_
    refine z_imul C dX12_size_58 ?_
    refine z_iload_n C rfl 2 rfl dX12_size_59 ?_
    refine z_iadd C dX12_size_60 ?_
    obtain ⟨x4, ex4, h⟩ := zlt_e h
    refine z_eqi C ex4 ?_
    obtain ⟨hb5, h⟩ := zck_e h
    refine z_laload C dX12_size_61 rfl rfl (by decide) (zbd_in hb5) ?_
    refine z_lv [] (lv' := []) rfl ?_
    exact l_X12_size_62 C  (L 129 x4.toNatClampNeg) I3 L h
  · have h := zif_f hc h
    refine z_lconst C (v := 0) (by decide) dX12_size_48 ?_
    refine z_goto C 62 (by decide) dX12_size_49 ?_
    refine z_lv [] (lv' := []) rfl ?_
    exact l_X12_size_62 C  (0 : Int64) I3 L h
set_option maxHeartbeats 4000000 in
set_option maxRecDepth 100000 in
theorem l_X12_size_10 {r : Int64 × zI} (C : zC p l e R s m args below meth c s0 a0 d cy B0 yX12_size.cls cX12_size 3 (some .long) bc bs bc bs 1 21 []) (v1 : Int32) (v2 : Int32) (I : zI) (L : zL) (h : f_X12_size_10 v1 v2 I L = some r) : zG p l e R s m args below meth c d cy B0 3 bc bs (zQ below s args d cy B0 bc bs (.inl (some (.long r.1))) zSH zKn bc bs r.2 L) 10 [(0, .ref (B0 + 97)), (1, .int v1), (2, .int v2)] [.ref (B0 + 97)] zSH zKn bc bs I L := by
  unfold f_X12_size_10 at h
  refine z_iconst C (v := 1) (by decide) dX12_size_10 ?_
  refine z_goto C 38 (by decide) dX12_size_11 ?_
  exact l_X12_size_38 C  v1 v2 (1 : Int32) I L h
set_option maxHeartbeats 4000000 in
set_option maxRecDepth 100000 in
theorem c_X12_size {r : Int64 × zI} (hE : zE0 l s0 a0 d cy B0) (a1 : Int32) (a2 : Int32) (I : zI) (L : zL) (h : f_X12_size a1 a2 I L = some r) : zM l s0 d cy B0 yX12_size cX12_size 3 (some .long) 1 21 [.ref (B0 + 97), .int a1, .int a2] zSH zKn bc bs I L (.inl (some (.long r.1))) zSH zKn bc bs r.2 L := by
  refine z_meth yy_X12_size hE (Nat.le_of_ble_eq_true rfl) (fun p e R s m args below meth c C => ?_)
  show zG p l e R s m args below meth c d cy B0 3 bc bs (zQ below s args d cy B0 bc bs (.inl (some (.long r.1))) zSH zKn bc bs r.2 L) 0 [(0, .ref (B0 + 97)), (1, .int a1), (2, .int a2)] [] zSH zKn bc bs I L
  unfold f_X12_size at h
  refine z_aload_n C rfl 0 rfl dX12_size_0 ?_
  refine z_iload_n C rfl 2 rfl dX12_size_1 ?_
  refine z_if_lt C 10 (by decide) dX12_size_2 (fun hc => ?_) (fun hc => ?_)
  · have h := zif_t hc h
    exact l_X12_size_10 C  a1 a2 I L h
  · have h := zif_f hc h
    refine z_iload_n C rfl 2 rfl dX12_size_5 ?_
    refine z_iconst C (v := 2) (by decide) dX12_size_6 ?_
    refine z_icmp_le C 14 (by decide) dX12_size_7 (fun hc => ?_) (fun hc => ?_)
    · have h := zif_t hc h
      refine z_aload_n C rfl 0 rfl dX12_size_14 ?_
      refine z_geti C zc_12 dX12_size_15 30 97 rfl (by decide) (by decide) q_1199 rfl ?_
      refine z_if_ne C 25 (by decide) dX12_size_18 (fun hc => ?_) (fun hc => ?_)
      · have h := zif_f hc h
        refine z_aload_n C rfl 0 rfl dX12_size_25 ?_
        refine z_iload_n C rfl 1 rfl dX12_size_26 ?_
        obtain ⟨x2, hg1, h⟩ := zb1_e h
        refine z_callV C zc_12 rfl (by decide) dX12_size_27 yy_X12_isDevice (c_X12_isDevice C.2.2.2.2.1  a1 I L hg1) q_1509 q_1511 q_71 (by decide) (by decide) rfl rfl (Nat.le_of_ble_eq_true rfl) ⟨Nat.le_refl _, Nat.le_refl _, Nat.le_refl _, Nat.le_refl _⟩ ?_
        refine z_if_ne C 37 (by decide) dX12_size_30 (fun hc => ?_) (fun hc => ?_)
        · have h := zif_f hc h
          refine z_iconst C (v := 0) (by decide) dX12_size_37 ?_
          exact l_X12_size_38 C  a1 a2 (0 : Int32) I L h
        · have h := zif_t hc h
          refine z_iconst C (v := 1) (by decide) dX12_size_33 ?_
          refine z_goto C 38 (by decide) dX12_size_34 ?_
          exact l_X12_size_38 C  a1 a2 (1 : Int32) I L h
      · have h := zif_t hc h
        refine z_iconst C (v := 2) (by decide) dX12_size_21 ?_
        refine z_goto C 38 (by decide) dX12_size_22 ?_
        exact l_X12_size_38 C  a1 a2 (2 : Int32) I L h
    · have h := zif_f hc h
      exact l_X12_size_10 C  a1 a2 I L h
theorem q_1524 : (Cond.code ({ cls := "DeviceFindModel", name := "netOf", desc := "(I)I" } : Jvm.MethodName) prog_14_method_46_code (2 : Nat) (Option.some Jvm.ClassFile.FieldType.int)) ∈ lw_tbl := List.mem_of_getElem? (i := 1524) (by decide +kernel)
theorem yy_X12_netOf : zY yX12_netOf cX12_netOf 2 (some .int) 1 := ⟨q_1524, q_88, by decide +kernel, by decide +kernel, by decide +kernel⟩
def f_X12_netOf_15 (w0 : Int32) (I : zI) : Option Int32 :=
  some w0
def f_X12_netOf (a1 : Int32) (I : zI) : Option Int32 :=
  if a1 = (-1 : Int32) then (f_X12_netOf_15 (-1 : Int32) I) else (zck (zbd a1 32768) (f_X12_netOf_15 (I 123 a1.toNatClampNeg) I))
set_option maxHeartbeats 4000000 in
set_option maxRecDepth 100000 in
theorem l_X12_netOf_15 {r : Int32} (C : zC p l e R s m args below meth c s0 a0 d cy B0 yX12_netOf.cls cX12_netOf 2 (some .int) bc bs bc bs 0 0 []) (L : zL) (w0 : Int32) (I : zI) (h : f_X12_netOf_15 w0 I = some r) : zG p l e R s m args below meth c d cy B0 2 bc bs (zQ below s args d cy B0 bc bs (.inl (some (.int r))) zSH zKn bc bs I L) 15 [] [.int w0] zSH zKn bc bs I L := by
  unfold f_X12_netOf_15 at h
  obtain rfl := Option.some.inj h
  exact z_iret C dX12_netOf_15 .int rfl rfl rfl
set_option maxHeartbeats 4000000 in
set_option maxRecDepth 100000 in
theorem c_X12_netOf {r : Int32} (hE : zE0 l s0 a0 d cy B0) (a1 : Int32) (I : zI) (L : zL) (h : f_X12_netOf a1 I = some r) : zM l s0 d cy B0 yX12_netOf cX12_netOf 2 (some .int) 0 0 [.ref (B0 + 97), .int a1] zSH zKn bc bs I L (.inl (some (.int r))) zSH zKn bc bs I L := by
  refine z_meth yy_X12_netOf hE (Nat.le_of_ble_eq_true rfl) (fun p e R s m args below meth c C => ?_)
  show zG p l e R s m args below meth c d cy B0 2 bc bs (zQ below s args d cy B0 bc bs (.inl (some (.int r))) zSH zKn bc bs I L) 0 [(0, .ref (B0 + 97)), (1, .int a1)] [] zSH zKn bc bs I L
  unfold f_X12_netOf at h
  refine z_iload_n C rfl 1 rfl dX12_netOf_0 ?_
  refine z_iconst C (v := -1) (by decide) dX12_netOf_1 ?_
  refine z_icmp_ne C 9 (by decide) dX12_netOf_2 (fun hc => ?_) (fun hc => ?_)
  · have h := zif_f hc h
    refine z_aload_n C rfl 0 rfl dX12_netOf_9 ?_
    refine z_getr C zc_12 dX12_netOf_10 37 97 123 rfl (by decide) (by decide) q_1206 rfl rfl ?_
    refine z_iload_n C rfl 1 rfl dX12_netOf_13 ?_
    obtain ⟨hb1, h⟩ := zck_e h
    refine z_iaload C dX12_netOf_14 rfl rfl (by decide) (zbd_in hb1) ?_
    refine z_lv [] (lv' := []) rfl ?_
    exact l_X12_netOf_15 C L (I 123 a1.toNatClampNeg) I h
  · have h := zif_t hc h
    refine z_iconst C (v := -1) (by decide) dX12_netOf_5 ?_
    refine z_goto C 15 (by decide) dX12_netOf_6 ?_
    refine z_lv [] (lv' := []) rfl ?_
    exact l_X12_netOf_15 C L (-1 : Int32) I h
end Zp05_15_walk
