section Zp05_13_walk
variable {p : Program} {l : Launch} {e : Env} {R : Room} {s : State} {m : MethodId} {args : Array Value} {below : List Frame} {meth : Method} {c : Code} {s0 : State} {a0 : Array Value} {d : va_G} {cy : Nat → ClassId} {B0 : Nat} {bc bs : Nat}
theorem q_60 : Cond.selects "DeviceFindModel" ⟨"DeviceFindModel", "isOpen", "(I)Z"⟩ ⟨"DeviceFindModel", "isOpen", "(I)Z"⟩ ∈ lw_tbl := List.mem_of_getElem? (i := 60) (by decide +kernel)
theorem q_61 : Cond.selects "DeviceFindModel" ⟨"DeviceFindModel", "covers", "(III)Z"⟩ ⟨"DeviceFindModel", "covers", "(III)Z"⟩ ∈ lw_tbl := List.mem_of_getElem? (i := 61) (by decide +kernel)
theorem q_1200 : (Cond.fieldLink "DeviceFindModel" (72 : Nat) "DeviceFindModel" "has" "[Z") ∈ lw_tbl := List.mem_of_getElem? (i := 1200) (by decide +kernel)
theorem q_1201 : (Cond.fieldLink "DeviceFindModel" (76 : Nat) "DeviceFindModel" "shape" "[I") ∈ lw_tbl := List.mem_of_getElem? (i := 1201) (by decide +kernel)
theorem q_1456 : (Cond.code ({ cls := "DeviceFindModel", name := "make", desc := "(I)V" } : Jvm.MethodName) prog_14_method_31_code (6 : Nat) (Option.none : Option Jvm.ClassFile.FieldType)) ∈ lw_tbl := List.mem_of_getElem? (i := 1456) (by decide +kernel)
theorem q_1457 : (Cond.methodLink "DeviceFindModel" (252 : Nat) ({ cls := "DeviceFindModel", name := "isOpen", desc := "(I)Z" } : Jvm.MethodName)) ∈ lw_tbl := List.mem_of_getElem? (i := 1457) (by decide +kernel)
theorem q_1459 : (Cond.instanceMethod ({ cls := "DeviceFindModel", name := "isOpen", desc := "(I)Z" } : Jvm.MethodName)) ∈ lw_tbl := List.mem_of_getElem? (i := 1459) (by decide +kernel)
theorem q_1461 : (Cond.methodLink "DeviceFindModel" (255 : Nat) ({ cls := "DeviceFindModel", name := "covers", desc := "(III)Z" } : Jvm.MethodName)) ∈ lw_tbl := List.mem_of_getElem? (i := 1461) (by decide +kernel)
theorem q_1463 : (Cond.instanceMethod ({ cls := "DeviceFindModel", name := "covers", desc := "(III)Z" } : Jvm.MethodName)) ∈ lw_tbl := List.mem_of_getElem? (i := 1463) (by decide +kernel)
theorem yy_X12_make : zY yX12_make cX12_make 6 none 1 := ⟨q_1456, q_88, by decide +kernel, by decide +kernel, by decide +kernel⟩
def f_X12_make_83 (k2 : Int32 → Int32 → zI → Option zI) (k23 : Int32 → Int32 → Int32 → Int32 → zI → Option zI) (v1 : Int32) (v2 : Int32) (v4 : Int32) (w0 : Int32) (I : zI) : Option zI :=
  zlt (v4 + 1) (fun x31 => k23 v1 v2 w0 x31 I)
def f_X12_make_82 (k2 : Int32 → Int32 → zI → Option zI) (k23 : Int32 → Int32 → Int32 → Int32 → zI → Option zI) (v1 : Int32) (v2 : Int32) (v4 : Int32) (I : zI) : Option zI :=
  f_X12_make_83 k2 k23 v1 v2 v4 (0 : Int32) I
def f_X12_make_203 (k2 : Int32 → Int32 → zI → Option zI) (v1 : Int32) (v2 : Int32) (v3 : Int32) (I : zI) : Option zI :=
  zlt (((4096 : Int32) * v1) + v2) (fun x24 => zck (zbd x24 98304) (zlt (zu I 118 x24.toNatClampNeg (vp_nar .boolean v3)) (fun I26 => zlt (((4096 : Int32) * v1) + v2) (fun x27 => zck (zbd x27 98304) (zlt (zu I26 119 x27.toNatClampNeg (-1 : Int32)) (fun I29 => zlt (v2 + 1) (fun x30 => k2 v1 x30 I29)))))))
def f_X12_make_90 (k2 : Int32 → Int32 → zI → Option zI) (v1 : Int32) (v2 : Int32) (v3 : Int32) (I : zI) : Option zI :=
  f_X12_make_203 k2 v1 v2 v3 I
def f_X12_make_23 (k2 : Int32 → Int32 → zI → Option zI) (k23 : Int32 → Int32 → Int32 → Int32 → zI → Option zI) (v1 : Int32) (v2 : Int32) (v3 : Int32) (v4 : Int32) (I : zI) : Option zI :=
  if (I 97 2) ≤ v4 then (f_X12_make_90 k2 v1 v2 v3 I) else (if v3 = 0 then (zck (zbd v4 60) (zck (zbd v1 48) (if (I 98 v4.toNatClampNeg) = (I 107 v1.toNatClampNeg) then (zb1 (f_X12_isOpen v4 I) (fun x17 => if x17 = 0 then (zlt (v2 - v2 / (64 : Int32) * (64 : Int32)) (fun x19 => zlt (v2 / (64 : Int32)) (fun x21 => zb1 (f_X12_covers v4 x19 x21 I) (fun x23 => if x23 = 0 then (f_X12_make_82 k2 k23 v1 v2 v4 I) else (f_X12_make_83 k2 k23 v1 v2 v4 (1 : Int32) I))))) else (f_X12_make_82 k2 k23 v1 v2 v4 I))) else (f_X12_make_82 k2 k23 v1 v2 v4 I)))) else (f_X12_make_90 k2 v1 v2 v3 I))
def f_X12_make_202 (k2 : Int32 → Int32 → zI → Option zI) (v1 : Int32) (v2 : Int32) (w0 : Int32) (I : zI) : Option zI :=
  f_X12_make_203 k2 v1 v2 w0 I
def f_X12_make_155 (k2 : Int32 → Int32 → zI → Option zI) (v1 : Int32) (v2 : Int32) (I : zI) : Option zI :=
  f_X12_make_202 k2 v1 v2 (0 : Int32) I
def f_X12_make_179 (k2 : Int32 → Int32 → zI → Option zI) (v1 : Int32) (v2 : Int32) (I : zI) : Option zI :=
  f_X12_make_202 k2 v1 v2 (1 : Int32) I
def f_X12_make_201 (k2 : Int32 → Int32 → zI → Option zI) (v1 : Int32) (v2 : Int32) (I : zI) : Option zI :=
  f_X12_make_202 k2 v1 v2 (0 : Int32) I
def f_X12_make_2 (k2 : Int32 → Int32 → zI → Option zI) (v1 : Int32) (v2 : Int32) (I : zI) : Option zI :=
  if (4096 : Int32) ≤ v2 then (some I) else (zck (zbd v1 48) (if (I 106 v1.toNatClampNeg) = 0 then (zlp5 (f_X12_make_23 k2) zF v1 v2 (0 : Int32) (0 : Int32) I) else (zck (zbd v1 48) (zlt ((4096 : Int32) * (I 107 v1.toNatClampNeg)) (fun x3 => zlt (x3 + v2) (fun x4 => zck (zbd x4 98304) (zlt (I 118 x4.toNatClampNeg) (fun x6 => zck (zbd v1 48) (zlt ((4096 : Int32) * (I 108 v1.toNatClampNeg)) (fun x8 => zlt (x8 + v2) (fun x9 => zck (zbd x9 98304) (zlt (I 118 x9.toNatClampNeg) (fun x11 => zck (zbd v1 48) (if (I 106 v1.toNatClampNeg) = (1 : Int32) then (if x6 = 0 then (f_X12_make_155 k2 v1 v2 I) else (if x11 = 0 then (f_X12_make_155 k2 v1 v2 I) else (f_X12_make_202 k2 v1 v2 (1 : Int32) I))) else (zck (zbd v1 48) (if (I 106 v1.toNatClampNeg) = (2 : Int32) then (if x6 = 0 then (if x11 = 0 then (f_X12_make_202 k2 v1 v2 (0 : Int32) I) else (f_X12_make_179 k2 v1 v2 I)) else (f_X12_make_179 k2 v1 v2 I)) else (if x6 = 0 then (f_X12_make_201 k2 v1 v2 I) else (if x11 = 0 then (f_X12_make_202 k2 v1 v2 (1 : Int32) I) else (f_X12_make_201 k2 v1 v2 I)))))))))))))))))))
def f_X12_make (a1 : Int32) (I : zI) : Option zI :=
  zlp3 (f_X12_make_2) zF a1 (0 : Int32) I
set_option maxHeartbeats 4000000 in
set_option maxRecDepth 100000 in
theorem l_X12_make_83 {r : zI} (C : zC p l e R s m args below meth c s0 a0 d cy B0 yX12_make.cls cX12_make 6 none bc bs bc bs 1 28 []) (L : zL) (k2 : Int32 → Int32 → zI → Option zI) (hk2 : ∀ (v1 : Int32) (v2 : Int32) (I : zI), k2 v1 v2 I = some r → zG p l e R s m args below meth c d cy B0 6 bc bs (zQ below s args d cy B0 bc bs (.inl none) zSH zKn bc bs r L) 2 [(0, .ref (B0 + 97)), (1, .int v1), (2, .int v2)] [] zSH zKn bc bs I L) (k23 : Int32 → Int32 → Int32 → Int32 → zI → Option zI) (hk23 : ∀ (v1 : Int32) (v2 : Int32) (v3 : Int32) (v4 : Int32) (I : zI), k23 v1 v2 v3 v4 I = some r → zG p l e R s m args below meth c d cy B0 6 bc bs (zQ below s args d cy B0 bc bs (.inl none) zSH zKn bc bs r L) 23 [(0, .ref (B0 + 97)), (1, .int v1), (2, .int v2), (3, .int v3), (4, .int v4)] [] zSH zKn bc bs I L) (v1 : Int32) (v2 : Int32) (v4 : Int32) (w0 : Int32) (I : zI) (h : f_X12_make_83 k2 k23 v1 v2 v4 w0 I = some r) : zG p l e R s m args below meth c d cy B0 6 bc bs (zQ below s args d cy B0 bc bs (.inl none) zSH zKn bc bs r L) 83 [(0, .ref (B0 + 97)), (1, .int v1), (2, .int v2), (4, .int v4)] [.int w0] zSH zKn bc bs I L := by
  unfold f_X12_make_83 at h
  refine z_istore_n C (lv' := [(3, .int w0), (0, .ref (B0 + 97)), (1, .int v1), (2, .int v2), (4, .int v4)]) rfl (by decide) rfl dX12_make_83 ?_
  obtain ⟨x31, ex31, h⟩ := zlt_e h
  refine z_iinc C (j := 4) (v := x31) (lv' := [(4, .int x31), (3, .int w0), (0, .ref (B0 + 97)), (1, .int v1), (2, .int v2)]) rfl (by rw [ex31]; rfl) (by decide) rfl dX12_make_84 ?_
  refine z_goto C 23 (by decide) dX12_make_87 ?_
  refine z_lv [2, 3, 4, 1, 0] (lv' := [(0, .ref (B0 + 97)), (1, .int v1), (2, .int v2), (3, .int w0), (4, .int x31)]) rfl ?_
  exact hk23 v1 v2 w0 x31 I h
set_option maxHeartbeats 4000000 in
set_option maxRecDepth 100000 in
theorem l_X12_make_82 {r : zI} (C : zC p l e R s m args below meth c s0 a0 d cy B0 yX12_make.cls cX12_make 6 none bc bs bc bs 1 28 []) (L : zL) (k2 : Int32 → Int32 → zI → Option zI) (hk2 : ∀ (v1 : Int32) (v2 : Int32) (I : zI), k2 v1 v2 I = some r → zG p l e R s m args below meth c d cy B0 6 bc bs (zQ below s args d cy B0 bc bs (.inl none) zSH zKn bc bs r L) 2 [(0, .ref (B0 + 97)), (1, .int v1), (2, .int v2)] [] zSH zKn bc bs I L) (k23 : Int32 → Int32 → Int32 → Int32 → zI → Option zI) (hk23 : ∀ (v1 : Int32) (v2 : Int32) (v3 : Int32) (v4 : Int32) (I : zI), k23 v1 v2 v3 v4 I = some r → zG p l e R s m args below meth c d cy B0 6 bc bs (zQ below s args d cy B0 bc bs (.inl none) zSH zKn bc bs r L) 23 [(0, .ref (B0 + 97)), (1, .int v1), (2, .int v2), (3, .int v3), (4, .int v4)] [] zSH zKn bc bs I L) (v1 : Int32) (v2 : Int32) (v4 : Int32) (I : zI) (h : f_X12_make_82 k2 k23 v1 v2 v4 I = some r) : zG p l e R s m args below meth c d cy B0 6 bc bs (zQ below s args d cy B0 bc bs (.inl none) zSH zKn bc bs r L) 82 [(0, .ref (B0 + 97)), (1, .int v1), (2, .int v2), (4, .int v4)] [] zSH zKn bc bs I L := by
  unfold f_X12_make_82 at h
  refine z_iconst C (v := 0) (by decide) dX12_make_82 ?_
  exact l_X12_make_83 C L k2 hk2 k23 hk23 v1 v2 v4 (0 : Int32) I h
set_option maxHeartbeats 4000000 in
set_option maxRecDepth 100000 in
theorem l_X12_make_203 {r : zI} (C : zC p l e R s m args below meth c s0 a0 d cy B0 yX12_make.cls cX12_make 6 none bc bs bc bs 1 28 []) (L : zL) (k2 : Int32 → Int32 → zI → Option zI) (hk2 : ∀ (v1 : Int32) (v2 : Int32) (I : zI), k2 v1 v2 I = some r → zG p l e R s m args below meth c d cy B0 6 bc bs (zQ below s args d cy B0 bc bs (.inl none) zSH zKn bc bs r L) 2 [(0, .ref (B0 + 97)), (1, .int v1), (2, .int v2)] [] zSH zKn bc bs I L) (v1 : Int32) (v2 : Int32) (v3 : Int32) (I : zI) (h : f_X12_make_203 k2 v1 v2 v3 I = some r) : zG p l e R s m args below meth c d cy B0 6 bc bs (zQ below s args d cy B0 bc bs (.inl none) zSH zKn bc bs r L) 203 [(0, .ref (B0 + 97)), (1, .int v1), (2, .int v2), (3, .int v3)] [] zSH zKn bc bs I L := by
  unfold f_X12_make_203 at h
  refine z_aload_n C rfl 0 rfl dX12_make_203 ?_
  refine z_getr C zc_12 dX12_make_204 31 97 118 rfl (by decide) (by decide) q_1200 rfl rfl ?_
  refine z_sipush C (v := 4096) (by decide) dX12_make_207 ?_
  refine z_iload_n C rfl 1 rfl dX12_make_210 ?_
  refine z_imul C dX12_make_211 ?_
  refine z_iload_n C rfl 2 rfl dX12_make_212 ?_
  refine z_iadd C dX12_make_213 ?_
  obtain ⟨x24, ex24, h⟩ := zlt_e h
  refine z_eqi C ex24 ?_
  refine z_iload_n C rfl 3 rfl dX12_make_214 ?_
  obtain ⟨hb25, h⟩ := zck_e h
  refine z_zastore C dX12_make_215 rfl rfl (by decide) (zbd_in hb25) ?_
  obtain ⟨I26, eI26, h⟩ := zlt_e h
  refine z_eqI C eI26 ?_
  refine z_aload_n C rfl 0 rfl dX12_make_216 ?_
  refine z_getr C zc_12 dX12_make_217 32 97 119 rfl (by decide) (by decide) q_1201 rfl rfl ?_
  refine z_sipush C (v := 4096) (by decide) dX12_make_220 ?_
  refine z_iload_n C rfl 1 rfl dX12_make_223 ?_
  refine z_imul C dX12_make_224 ?_
  refine z_iload_n C rfl 2 rfl dX12_make_225 ?_
  refine z_iadd C dX12_make_226 ?_
  obtain ⟨x27, ex27, h⟩ := zlt_e h
  refine z_eqi C ex27 ?_
  refine z_iconst C (v := -1) (by decide) dX12_make_227 ?_
  obtain ⟨hb28, h⟩ := zck_e h
  refine z_iastore C dX12_make_228 rfl rfl (by decide) (zbd_in hb28) ?_
  obtain ⟨I29, eI29, h⟩ := zlt_e h
  refine z_eqI C eI29 ?_
  obtain ⟨x30, ex30, h⟩ := zlt_e h
  refine z_iinc C (j := 2) (v := x30) (lv' := [(2, .int x30), (0, .ref (B0 + 97)), (1, .int v1), (3, .int v3)]) rfl (by rw [ex30]; rfl) (by decide) rfl dX12_make_229 ?_
  refine z_goto C 2 (by decide) dX12_make_232 ?_
  refine z_lv [1, 2, 0] (lv' := [(0, .ref (B0 + 97)), (1, .int v1), (2, .int x30)]) rfl ?_
  exact hk2 v1 x30 I29 h
set_option maxHeartbeats 4000000 in
set_option maxRecDepth 100000 in
theorem l_X12_make_90 {r : zI} (C : zC p l e R s m args below meth c s0 a0 d cy B0 yX12_make.cls cX12_make 6 none bc bs bc bs 1 28 []) (L : zL) (k2 : Int32 → Int32 → zI → Option zI) (hk2 : ∀ (v1 : Int32) (v2 : Int32) (I : zI), k2 v1 v2 I = some r → zG p l e R s m args below meth c d cy B0 6 bc bs (zQ below s args d cy B0 bc bs (.inl none) zSH zKn bc bs r L) 2 [(0, .ref (B0 + 97)), (1, .int v1), (2, .int v2)] [] zSH zKn bc bs I L) (v1 : Int32) (v2 : Int32) (v3 : Int32) (I : zI) (h : f_X12_make_90 k2 v1 v2 v3 I = some r) : zG p l e R s m args below meth c d cy B0 6 bc bs (zQ below s args d cy B0 bc bs (.inl none) zSH zKn bc bs r L) 90 [(0, .ref (B0 + 97)), (1, .int v1), (2, .int v2), (3, .int v3)] [] zSH zKn bc bs I L := by
  unfold f_X12_make_90 at h
  refine z_goto C 203 (by decide) dX12_make_90 ?_
  exact l_X12_make_203 C L k2 hk2 v1 v2 v3 I h
set_option maxHeartbeats 4000000 in
set_option maxRecDepth 100000 in
theorem l_X12_make_23 {r : zI} (C : zC p l e R s m args below meth c s0 a0 d cy B0 yX12_make.cls cX12_make 6 none bc bs bc bs 1 28 []) (L : zL) (k2 : Int32 → Int32 → zI → Option zI) (hk2 : ∀ (v1 : Int32) (v2 : Int32) (I : zI), k2 v1 v2 I = some r → zG p l e R s m args below meth c d cy B0 6 bc bs (zQ below s args d cy B0 bc bs (.inl none) zSH zKn bc bs r L) 2 [(0, .ref (B0 + 97)), (1, .int v1), (2, .int v2)] [] zSH zKn bc bs I L) (k23 : Int32 → Int32 → Int32 → Int32 → zI → Option zI) (hk23 : ∀ (v1 : Int32) (v2 : Int32) (v3 : Int32) (v4 : Int32) (I : zI), k23 v1 v2 v3 v4 I = some r → zG p l e R s m args below meth c d cy B0 6 bc bs (zQ below s args d cy B0 bc bs (.inl none) zSH zKn bc bs r L) 23 [(0, .ref (B0 + 97)), (1, .int v1), (2, .int v2), (3, .int v3), (4, .int v4)] [] zSH zKn bc bs I L) (v1 : Int32) (v2 : Int32) (v3 : Int32) (v4 : Int32) (I : zI) (h : f_X12_make_23 k2 k23 v1 v2 v3 v4 I = some r) : zG p l e R s m args below meth c d cy B0 6 bc bs (zQ below s args d cy B0 bc bs (.inl none) zSH zKn bc bs r L) 23 [(0, .ref (B0 + 97)), (1, .int v1), (2, .int v2), (3, .int v3), (4, .int v4)] [] zSH zKn bc bs I L := by
  unfold f_X12_make_23 at h
  refine z_iload C 4 rfl dX12_make_23 ?_
  refine z_aload_n C rfl 0 rfl dX12_make_25 ?_
  refine z_geti C zc_12 dX12_make_26 2 97 rfl (by decide) (by decide) q_1171 rfl ?_
  refine z_icmp_ge C 90 (by decide) dX12_make_29 (fun hc => ?_) (fun hc => ?_)
  · have h := zif_t hc h
    refine z_lv [0, 1, 2, 3] (lv' := [(0, .ref (B0 + 97)), (1, .int v1), (2, .int v2), (3, .int v3)]) rfl ?_
    exact l_X12_make_90 C L k2 hk2 v1 v2 v3 I h
  · have h := zif_f hc h
    refine z_iload_n C rfl 3 rfl dX12_make_32 ?_
    refine z_if_ne C 90 (by decide) dX12_make_33 (fun hc => ?_) (fun hc => ?_)
    · have h := zif_f hc h
      refine z_lv [0, 1, 2, 3] (lv' := [(0, .ref (B0 + 97)), (1, .int v1), (2, .int v2), (3, .int v3)]) rfl ?_
      exact l_X12_make_90 C L k2 hk2 v1 v2 v3 I h
    · have h := zif_t hc h
      refine z_aload_n C rfl 0 rfl dX12_make_36 ?_
      refine z_getr C zc_12 dX12_make_37 3 97 98 rfl (by decide) (by decide) q_1172 rfl rfl ?_
      refine z_iload C 4 rfl dX12_make_40 ?_
      obtain ⟨hb14, h⟩ := zck_e h
      refine z_iaload C dX12_make_42 rfl rfl (by decide) (zbd_in hb14) ?_
      refine z_aload_n C rfl 0 rfl dX12_make_43 ?_
      refine z_getr C zc_12 dX12_make_44 18 97 107 rfl (by decide) (by decide) q_1187 rfl rfl ?_
      refine z_iload_n C rfl 1 rfl dX12_make_47 ?_
      obtain ⟨hb15, h⟩ := zck_e h
      refine z_iaload C dX12_make_48 rfl rfl (by decide) (zbd_in hb15) ?_
      refine z_icmp_ne C 82 (by decide) dX12_make_49 (fun hc => ?_) (fun hc => ?_)
      · have h := zif_f hc h
        refine z_lv [0, 1, 2, 4] (lv' := [(0, .ref (B0 + 97)), (1, .int v1), (2, .int v2), (4, .int v4)]) rfl ?_
        exact l_X12_make_82 C L k2 hk2 k23 hk23 v1 v2 v4 I h
      · have h := zif_t hc h
        refine z_aload_n C rfl 0 rfl dX12_make_52 ?_
        refine z_iload C 4 rfl dX12_make_53 ?_
        obtain ⟨x17, hg16, h⟩ := zb1_e h
        refine z_callV C zc_12 rfl (by decide) dX12_make_55 yy_X12_isOpen (c_X12_isOpen C.2.2.2.2.1  v4 I L hg16) q_1457 q_1459 q_60 (by decide) (by decide) rfl rfl (Nat.le_of_ble_eq_true rfl) ⟨Nat.le_refl _, Nat.le_refl _, Nat.le_refl _, Nat.le_refl _⟩ ?_
        refine z_if_ne C 82 (by decide) dX12_make_58 (fun hc => ?_) (fun hc => ?_)
        · have h := zif_f hc h
          refine z_lv [0, 1, 2, 4] (lv' := [(0, .ref (B0 + 97)), (1, .int v1), (2, .int v2), (4, .int v4)]) rfl ?_
          exact l_X12_make_82 C L k2 hk2 k23 hk23 v1 v2 v4 I h
        · have h := zif_t hc h
          refine z_aload_n C rfl 0 rfl dX12_make_61 ?_
          refine z_iload C 4 rfl dX12_make_62 ?_
          refine z_iload_n C rfl 2 rfl dX12_make_64 ?_
          refine z_bipush C (v := 64) (by decide) dX12_make_65 ?_
          refine z_irem C (by decide) dX12_make_67 ?_
          obtain ⟨x19, ex19, h⟩ := zlt_e h
          refine z_eqi C ex19 ?_
          refine z_iload_n C rfl 2 rfl dX12_make_68 ?_
          refine z_bipush C (v := 64) (by decide) dX12_make_69 ?_
          refine z_idiv C (by decide) dX12_make_71 ?_
          obtain ⟨x21, ex21, h⟩ := zlt_e h
          refine z_eqi C ex21 ?_
          obtain ⟨x23, hg22, h⟩ := zb1_e h
          refine z_callV C zc_12 rfl (by decide) dX12_make_72 yy_X12_covers (c_X12_covers C.2.2.2.2.1  v4 x19 x21 I L hg22) q_1461 q_1463 q_61 (by decide) (by decide) rfl rfl (Nat.le_of_ble_eq_true rfl) ⟨Nat.le_refl _, Nat.le_refl _, Nat.le_refl _, Nat.le_refl _⟩ ?_
          refine z_if_eq C 82 (by decide) dX12_make_75 (fun hc => ?_) (fun hc => ?_)
          · have h := zif_t hc h
            refine z_lv [0, 1, 2, 4] (lv' := [(0, .ref (B0 + 97)), (1, .int v1), (2, .int v2), (4, .int v4)]) rfl ?_
            exact l_X12_make_82 C L k2 hk2 k23 hk23 v1 v2 v4 I h
          · have h := zif_f hc h
            refine z_iconst C (v := 1) (by decide) dX12_make_78 ?_
            refine z_goto C 83 (by decide) dX12_make_79 ?_
            refine z_lv [0, 1, 2, 4] (lv' := [(0, .ref (B0 + 97)), (1, .int v1), (2, .int v2), (4, .int v4)]) rfl ?_
            exact l_X12_make_83 C L k2 hk2 k23 hk23 v1 v2 v4 (1 : Int32) I h
set_option maxHeartbeats 4000000 in
set_option maxRecDepth 100000 in
theorem L_X12_make_23 {r : zI} (C : zC p l e R s m args below meth c s0 a0 d cy B0 yX12_make.cls cX12_make 6 none bc bs bc bs 1 28 []) (L : zL) (k2 : Int32 → Int32 → zI → Option zI) (hk2 : ∀ (v1 : Int32) (v2 : Int32) (I : zI), k2 v1 v2 I = some r → zG p l e R s m args below meth c d cy B0 6 bc bs (zQ below s args d cy B0 bc bs (.inl none) zSH zKn bc bs r L) 2 [(0, .ref (B0 + 97)), (1, .int v1), (2, .int v2)] [] zSH zKn bc bs I L) (v1 : Int32) (v2 : Int32) (v3 : Int32) (v4 : Int32) (I : zI) (h : zlp5 (f_X12_make_23 k2) zF v1 v2 v3 v4 I = some r) : zG p l e R s m args below meth c d cy B0 6 bc bs (zQ below s args d cy B0 bc bs (.inl none) zSH zKn bc bs r L) 23 [(0, .ref (B0 + 97)), (1, .int v1), (2, .int v2), (3, .int v3), (4, .int v4)] [] zSH zKn bc bs I L :=
 zlp5_e (fun (v1 : Int32) (v2 : Int32) (v3 : Int32) (v4 : Int32) (I : zI) => zG p l e R s m args below meth c d cy B0 6 bc bs (zQ below s args d cy B0 bc bs (.inl none) zSH zKn bc bs r L) 23 [(0, .ref (B0 + 97)), (1, .int v1), (2, .int v2), (3, .int v3), (4, .int v4)] [] zSH zKn bc bs I L) (fun k9 hk9 v1 v2 v3 v4 I h => l_X12_make_23 C L k2 hk2 k9 hk9 v1 v2 v3 v4 I h) zF v1 v2 v3 v4 I h
set_option maxHeartbeats 4000000 in
set_option maxRecDepth 100000 in
theorem l_X12_make_202 {r : zI} (C : zC p l e R s m args below meth c s0 a0 d cy B0 yX12_make.cls cX12_make 6 none bc bs bc bs 1 28 []) (L : zL) (k2 : Int32 → Int32 → zI → Option zI) (hk2 : ∀ (v1 : Int32) (v2 : Int32) (I : zI), k2 v1 v2 I = some r → zG p l e R s m args below meth c d cy B0 6 bc bs (zQ below s args d cy B0 bc bs (.inl none) zSH zKn bc bs r L) 2 [(0, .ref (B0 + 97)), (1, .int v1), (2, .int v2)] [] zSH zKn bc bs I L) (v1 : Int32) (v2 : Int32) (w0 : Int32) (I : zI) (h : f_X12_make_202 k2 v1 v2 w0 I = some r) : zG p l e R s m args below meth c d cy B0 6 bc bs (zQ below s args d cy B0 bc bs (.inl none) zSH zKn bc bs r L) 202 [(0, .ref (B0 + 97)), (1, .int v1), (2, .int v2)] [.int w0] zSH zKn bc bs I L := by
  unfold f_X12_make_202 at h
  refine z_istore_n C (lv' := [(3, .int w0), (0, .ref (B0 + 97)), (1, .int v1), (2, .int v2)]) rfl (by decide) rfl dX12_make_202 ?_
  refine z_lv [1, 2, 3, 0] (lv' := [(0, .ref (B0 + 97)), (1, .int v1), (2, .int v2), (3, .int w0)]) rfl ?_
  exact l_X12_make_203 C L k2 hk2 v1 v2 w0 I h
set_option maxHeartbeats 4000000 in
set_option maxRecDepth 100000 in
theorem l_X12_make_155 {r : zI} (C : zC p l e R s m args below meth c s0 a0 d cy B0 yX12_make.cls cX12_make 6 none bc bs bc bs 1 28 []) (L : zL) (k2 : Int32 → Int32 → zI → Option zI) (hk2 : ∀ (v1 : Int32) (v2 : Int32) (I : zI), k2 v1 v2 I = some r → zG p l e R s m args below meth c d cy B0 6 bc bs (zQ below s args d cy B0 bc bs (.inl none) zSH zKn bc bs r L) 2 [(0, .ref (B0 + 97)), (1, .int v1), (2, .int v2)] [] zSH zKn bc bs I L) (v1 : Int32) (v2 : Int32) (I : zI) (h : f_X12_make_155 k2 v1 v2 I = some r) : zG p l e R s m args below meth c d cy B0 6 bc bs (zQ below s args d cy B0 bc bs (.inl none) zSH zKn bc bs r L) 155 [(0, .ref (B0 + 97)), (1, .int v1), (2, .int v2)] [] zSH zKn bc bs I L := by
  unfold f_X12_make_155 at h
  refine z_iconst C (v := 0) (by decide) dX12_make_155 ?_
  refine z_goto C 202 (by decide) dX12_make_156 ?_
  exact l_X12_make_202 C L k2 hk2 v1 v2 (0 : Int32) I h
set_option maxHeartbeats 4000000 in
set_option maxRecDepth 100000 in
theorem l_X12_make_179 {r : zI} (C : zC p l e R s m args below meth c s0 a0 d cy B0 yX12_make.cls cX12_make 6 none bc bs bc bs 1 28 []) (L : zL) (k2 : Int32 → Int32 → zI → Option zI) (hk2 : ∀ (v1 : Int32) (v2 : Int32) (I : zI), k2 v1 v2 I = some r → zG p l e R s m args below meth c d cy B0 6 bc bs (zQ below s args d cy B0 bc bs (.inl none) zSH zKn bc bs r L) 2 [(0, .ref (B0 + 97)), (1, .int v1), (2, .int v2)] [] zSH zKn bc bs I L) (v1 : Int32) (v2 : Int32) (I : zI) (h : f_X12_make_179 k2 v1 v2 I = some r) : zG p l e R s m args below meth c d cy B0 6 bc bs (zQ below s args d cy B0 bc bs (.inl none) zSH zKn bc bs r L) 179 [(0, .ref (B0 + 97)), (1, .int v1), (2, .int v2)] [] zSH zKn bc bs I L := by
  unfold f_X12_make_179 at h
  refine z_iconst C (v := 1) (by decide) dX12_make_179 ?_
  refine z_goto C 202 (by decide) dX12_make_180 ?_
  exact l_X12_make_202 C L k2 hk2 v1 v2 (1 : Int32) I h
set_option maxHeartbeats 4000000 in
set_option maxRecDepth 100000 in
theorem l_X12_make_201 {r : zI} (C : zC p l e R s m args below meth c s0 a0 d cy B0 yX12_make.cls cX12_make 6 none bc bs bc bs 1 28 []) (L : zL) (k2 : Int32 → Int32 → zI → Option zI) (hk2 : ∀ (v1 : Int32) (v2 : Int32) (I : zI), k2 v1 v2 I = some r → zG p l e R s m args below meth c d cy B0 6 bc bs (zQ below s args d cy B0 bc bs (.inl none) zSH zKn bc bs r L) 2 [(0, .ref (B0 + 97)), (1, .int v1), (2, .int v2)] [] zSH zKn bc bs I L) (v1 : Int32) (v2 : Int32) (I : zI) (h : f_X12_make_201 k2 v1 v2 I = some r) : zG p l e R s m args below meth c d cy B0 6 bc bs (zQ below s args d cy B0 bc bs (.inl none) zSH zKn bc bs r L) 201 [(0, .ref (B0 + 97)), (1, .int v1), (2, .int v2)] [] zSH zKn bc bs I L := by
  unfold f_X12_make_201 at h
  refine z_iconst C (v := 0) (by decide) dX12_make_201 ?_
  exact l_X12_make_202 C L k2 hk2 v1 v2 (0 : Int32) I h
set_option maxHeartbeats 4000000 in
set_option maxRecDepth 100000 in
theorem l_X12_make_2 {r : zI} (C : zC p l e R s m args below meth c s0 a0 d cy B0 yX12_make.cls cX12_make 6 none bc bs bc bs 1 28 []) (L : zL) (k2 : Int32 → Int32 → zI → Option zI) (hk2 : ∀ (v1 : Int32) (v2 : Int32) (I : zI), k2 v1 v2 I = some r → zG p l e R s m args below meth c d cy B0 6 bc bs (zQ below s args d cy B0 bc bs (.inl none) zSH zKn bc bs r L) 2 [(0, .ref (B0 + 97)), (1, .int v1), (2, .int v2)] [] zSH zKn bc bs I L) (v1 : Int32) (v2 : Int32) (I : zI) (h : f_X12_make_2 k2 v1 v2 I = some r) : zG p l e R s m args below meth c d cy B0 6 bc bs (zQ below s args d cy B0 bc bs (.inl none) zSH zKn bc bs r L) 2 [(0, .ref (B0 + 97)), (1, .int v1), (2, .int v2)] [] zSH zKn bc bs I L := by
  unfold f_X12_make_2 at h
  refine z_iload_n C rfl 2 rfl dX12_make_2 ?_
  refine z_sipush C (v := 4096) (by decide) dX12_make_3 ?_
  refine z_icmp_ge C 235 (by decide) dX12_make_6 (fun hc => ?_) (fun hc => ?_)
  · have h := zif_t hc h
    obtain rfl := Option.some.inj h
    exact z_vret C dX12_make_235 rfl rfl
  · have h := zif_f hc h
    refine z_iconst C (v := 0) (by decide) dX12_make_9 ?_
    refine z_istore_n C (lv' := [(3, .int (0 : Int32)), (0, .ref (B0 + 97)), (1, .int v1), (2, .int v2)]) rfl (by decide) rfl dX12_make_10 ?_
    refine z_aload_n C rfl 1 rfl dX12_make_11 ?_
    refine z_getr C zc_12 dX12_make_12 17 97 106 rfl (by decide) (by decide) q_1186 rfl rfl ?_
    refine z_iload_n C rfl 2 rfl dX12_make_15 ?_
    obtain ⟨hb1, h⟩ := zck_e h
    refine z_iaload C dX12_make_16 rfl rfl (by decide) (zbd_in hb1) ?_
    refine z_if_ne C 93 (by decide) dX12_make_17 (fun hc => ?_) (fun hc => ?_)
    · have h := zif_f hc h
      refine z_aload_n C rfl 1 rfl dX12_make_93 ?_
      refine z_getr C zc_12 dX12_make_94 31 97 118 rfl (by decide) (by decide) q_1200 rfl rfl ?_
      refine z_sipush C (v := 4096) (by decide) dX12_make_97 ?_
      refine z_aload_n C rfl 1 rfl dX12_make_100 ?_
      refine z_getr C zc_12 dX12_make_101 18 97 107 rfl (by decide) (by decide) q_1187 rfl rfl ?_
      refine z_iload_n C rfl 2 rfl dX12_make_104 ?_
      obtain ⟨hb2, h⟩ := zck_e h
      refine z_iaload C dX12_make_105 rfl rfl (by decide) (zbd_in hb2) ?_
      refine z_imul C dX12_make_106 ?_
      obtain ⟨x3, ex3, h⟩ := zlt_e h
      refine z_eqi C ex3 ?_
      refine z_iload_n C rfl 3 rfl dX12_make_107 ?_
      refine z_iadd C dX12_make_108 ?_
      obtain ⟨x4, ex4, h⟩ := zlt_e h
      refine z_eqi C ex4 ?_
      obtain ⟨hb5, h⟩ := zck_e h
      refine z_zaload C dX12_make_109 rfl rfl (by decide) (zbd_in hb5) ?_
      obtain ⟨x6, ex6, h⟩ := zlt_e h
      refine z_eqi C ex6 ?_
      refine z_istore C (lv' := [(4, .int x6), (3, .int (0 : Int32)), (0, .ref (B0 + 97)), (1, .int v1), (2, .int v2)]) (by decide) rfl dX12_make_110 ?_
      refine z_aload_n C rfl 2 rfl dX12_make_112 ?_
      refine z_getr C zc_12 dX12_make_113 31 97 118 rfl (by decide) (by decide) q_1200 rfl rfl ?_
      refine z_sipush C (v := 4096) (by decide) dX12_make_116 ?_
      refine z_aload_n C rfl 2 rfl dX12_make_119 ?_
      refine z_getr C zc_12 dX12_make_120 19 97 108 rfl (by decide) (by decide) q_1188 rfl rfl ?_
      refine z_iload_n C rfl 3 rfl dX12_make_123 ?_
      obtain ⟨hb7, h⟩ := zck_e h
      refine z_iaload C dX12_make_124 rfl rfl (by decide) (zbd_in hb7) ?_
      refine z_imul C dX12_make_125 ?_
      obtain ⟨x8, ex8, h⟩ := zlt_e h
      refine z_eqi C ex8 ?_
      refine z_iload_n C rfl 4 rfl dX12_make_126 ?_
      refine z_iadd C dX12_make_127 ?_
      obtain ⟨x9, ex9, h⟩ := zlt_e h
      refine z_eqi C ex9 ?_
      obtain ⟨hb10, h⟩ := zck_e h
      refine z_zaload C dX12_make_128 rfl rfl (by decide) (zbd_in hb10) ?_
      obtain ⟨x11, ex11, h⟩ := zlt_e h
      refine z_eqi C ex11 ?_
      refine z_istore C (lv' := [(5, .int x11), (4, .int x6), (3, .int (0 : Int32)), (0, .ref (B0 + 97)), (1, .int v1), (2, .int v2)]) (by decide) rfl dX12_make_129 ?_
      refine z_aload_n C rfl 3 rfl dX12_make_131 ?_
      refine z_getr C zc_12 dX12_make_132 17 97 106 rfl (by decide) (by decide) q_1186 rfl rfl ?_
      refine z_iload_n C rfl 4 rfl dX12_make_135 ?_
      obtain ⟨hb12, h⟩ := zck_e h
      refine z_iaload C dX12_make_136 rfl rfl (by decide) (zbd_in hb12) ?_
      refine z_iconst C (v := 1) (by decide) dX12_make_137 ?_
      refine z_icmp_ne C 159 (by decide) dX12_make_138 (fun hc => ?_) (fun hc => ?_)
      · have h := zif_f hc h
        refine z_aload_n C rfl 3 rfl dX12_make_159 ?_
        refine z_getr C zc_12 dX12_make_160 17 97 106 rfl (by decide) (by decide) q_1186 rfl rfl ?_
        refine z_iload_n C rfl 4 rfl dX12_make_163 ?_
        obtain ⟨hb13, h⟩ := zck_e h
        refine z_iaload C dX12_make_164 rfl rfl (by decide) (zbd_in hb13) ?_
        refine z_iconst C (v := 2) (by decide) dX12_make_165 ?_
        refine z_icmp_ne C 187 (by decide) dX12_make_166 (fun hc => ?_) (fun hc => ?_)
        · have h := zif_f hc h
          refine z_iload C 1 rfl dX12_make_187 ?_
          refine z_if_eq C 201 (by decide) dX12_make_189 (fun hc => ?_) (fun hc => ?_)
          · have h := zif_t hc h
            refine z_lv [3, 4, 5] (lv' := [(0, .ref (B0 + 97)), (1, .int v1), (2, .int v2)]) rfl ?_
            exact l_X12_make_201 C L k2 hk2 v1 v2 I h
          · have h := zif_f hc h
            refine z_iload C 0 rfl dX12_make_192 ?_
            refine z_if_ne C 201 (by decide) dX12_make_194 (fun hc => ?_) (fun hc => ?_)
            · have h := zif_f hc h
              refine z_lv [3, 4, 5] (lv' := [(0, .ref (B0 + 97)), (1, .int v1), (2, .int v2)]) rfl ?_
              exact l_X12_make_201 C L k2 hk2 v1 v2 I h
            · have h := zif_t hc h
              refine z_iconst C (v := 1) (by decide) dX12_make_197 ?_
              refine z_goto C 202 (by decide) dX12_make_198 ?_
              refine z_lv [3, 4, 5] (lv' := [(0, .ref (B0 + 97)), (1, .int v1), (2, .int v2)]) rfl ?_
              exact l_X12_make_202 C L k2 hk2 v1 v2 (1 : Int32) I h
        · have h := zif_t hc h
          refine z_iload C 1 rfl dX12_make_169 ?_
          refine z_if_ne C 179 (by decide) dX12_make_171 (fun hc => ?_) (fun hc => ?_)
          · have h := zif_f hc h
            refine z_lv [3, 4, 5] (lv' := [(0, .ref (B0 + 97)), (1, .int v1), (2, .int v2)]) rfl ?_
            exact l_X12_make_179 C L k2 hk2 v1 v2 I h
          · have h := zif_t hc h
            refine z_iload C 0 rfl dX12_make_174 ?_
            refine z_if_eq C 183 (by decide) dX12_make_176 (fun hc => ?_) (fun hc => ?_)
            · have h := zif_t hc h
              refine z_iconst C (v := 0) (by decide) dX12_make_183 ?_
              refine z_goto C 202 (by decide) dX12_make_184 ?_
              refine z_lv [3, 4, 5] (lv' := [(0, .ref (B0 + 97)), (1, .int v1), (2, .int v2)]) rfl ?_
              exact l_X12_make_202 C L k2 hk2 v1 v2 (0 : Int32) I h
            · have h := zif_f hc h
              refine z_lv [3, 4, 5] (lv' := [(0, .ref (B0 + 97)), (1, .int v1), (2, .int v2)]) rfl ?_
              exact l_X12_make_179 C L k2 hk2 v1 v2 I h
      · have h := zif_t hc h
        refine z_iload C 1 rfl dX12_make_141 ?_
        refine z_if_eq C 155 (by decide) dX12_make_143 (fun hc => ?_) (fun hc => ?_)
        · have h := zif_t hc h
          refine z_lv [3, 4, 5] (lv' := [(0, .ref (B0 + 97)), (1, .int v1), (2, .int v2)]) rfl ?_
          exact l_X12_make_155 C L k2 hk2 v1 v2 I h
        · have h := zif_f hc h
          refine z_iload C 0 rfl dX12_make_146 ?_
          refine z_if_eq C 155 (by decide) dX12_make_148 (fun hc => ?_) (fun hc => ?_)
          · have h := zif_t hc h
            refine z_lv [3, 4, 5] (lv' := [(0, .ref (B0 + 97)), (1, .int v1), (2, .int v2)]) rfl ?_
            exact l_X12_make_155 C L k2 hk2 v1 v2 I h
          · have h := zif_f hc h
            refine z_iconst C (v := 1) (by decide) dX12_make_151 ?_
            refine z_goto C 202 (by decide) dX12_make_152 ?_
            refine z_lv [3, 4, 5] (lv' := [(0, .ref (B0 + 97)), (1, .int v1), (2, .int v2)]) rfl ?_
            exact l_X12_make_202 C L k2 hk2 v1 v2 (1 : Int32) I h
    · have h := zif_t hc h
      refine z_iconst C (v := 0) (by decide) dX12_make_20 ?_
      refine z_istore C (lv' := [(4, .int (0 : Int32)), (3, .int (0 : Int32)), (0, .ref (B0 + 97)), (1, .int v1), (2, .int v2)]) (by decide) rfl dX12_make_21 ?_
      refine z_lv [2, 3, 4, 1, 0] (lv' := [(0, .ref (B0 + 97)), (1, .int v1), (2, .int v2), (3, .int (0 : Int32)), (4, .int (0 : Int32))]) rfl ?_
      exact L_X12_make_23 C L k2 hk2 v1 v2 (0 : Int32) (0 : Int32) I h
set_option maxHeartbeats 4000000 in
set_option maxRecDepth 100000 in
theorem L_X12_make_2 {r : zI} (C : zC p l e R s m args below meth c s0 a0 d cy B0 yX12_make.cls cX12_make 6 none bc bs bc bs 1 28 []) (L : zL) (v1 : Int32) (v2 : Int32) (I : zI) (h : zlp3 (f_X12_make_2) zF v1 v2 I = some r) : zG p l e R s m args below meth c d cy B0 6 bc bs (zQ below s args d cy B0 bc bs (.inl none) zSH zKn bc bs r L) 2 [(0, .ref (B0 + 97)), (1, .int v1), (2, .int v2)] [] zSH zKn bc bs I L :=
 zlp3_e (fun (v1 : Int32) (v2 : Int32) (I : zI) => zG p l e R s m args below meth c d cy B0 6 bc bs (zQ below s args d cy B0 bc bs (.inl none) zSH zKn bc bs r L) 2 [(0, .ref (B0 + 97)), (1, .int v1), (2, .int v2)] [] zSH zKn bc bs I L) (fun k9 hk9 v1 v2 I h => l_X12_make_2 C L k9 hk9 v1 v2 I h) zF v1 v2 I h
set_option maxHeartbeats 4000000 in
set_option maxRecDepth 100000 in
theorem c_X12_make {r : zI} (hE : zE0 l s0 a0 d cy B0) (a1 : Int32) (I : zI) (L : zL) (h : f_X12_make a1 I = some r) : zM l s0 d cy B0 yX12_make cX12_make 6 none 1 28 [.ref (B0 + 97), .int a1] zSH zKn bc bs I L (.inl none) zSH zKn bc bs r L := by
  refine z_meth yy_X12_make hE (Nat.le_of_ble_eq_true rfl) (fun p e R s m args below meth c C => ?_)
  show zG p l e R s m args below meth c d cy B0 6 bc bs (zQ below s args d cy B0 bc bs (.inl none) zSH zKn bc bs r L) 0 [(0, .ref (B0 + 97)), (1, .int a1)] [] zSH zKn bc bs I L
  unfold f_X12_make at h
  refine z_iconst C (v := 0) (by decide) dX12_make_0 ?_
  refine z_istore_n C (lv' := [(2, .int (0 : Int32)), (0, .ref (B0 + 97)), (1, .int a1)]) rfl (by decide) rfl dX12_make_1 ?_
  refine z_lv [1, 2, 0] (lv' := [(0, .ref (B0 + 97)), (1, .int a1), (2, .int (0 : Int32))]) rfl ?_
  exact L_X12_make_2 C L a1 (0 : Int32) I h
theorem q_1475 : (Cond.code ({ cls := "DeviceFindModel", name := "beside", desc := "(II)I" } : Jvm.MethodName) prog_14_method_32_code (4 : Nat) (Option.some Jvm.ClassFile.FieldType.int)) ∈ lw_tbl := List.mem_of_getElem? (i := 1475) (by decide +kernel)
theorem yy_X12_beside : zY yX12_beside cX12_beside 4 (some .int) 2 := ⟨q_1475, q_88, by decide +kernel, by decide +kernel, by decide +kernel⟩
def f_X12_beside_69 (w0 : Int32) : Option Int32 :=
  some w0
def f_X12_beside_47 (v2 : Int32) (w0 : Int32) (w1 : Int32) : Option Int32 :=
  zlt (w0 + w1) (fun x6 => zb1 (f_X12_isSquare v2.toInt64 x6.toInt64) (fun x8 => if x8 = 0 then (f_X12_beside_69 (-1 : Int32)) else (zlt (((64 : Int32) * x6) + v2) (fun x9 => f_X12_beside_69 x9))))
def f_X12_beside_22 (v0 : Int32) (v1 : Int32) (w0 : Int32) (w1 : Int32) : Option Int32 :=
  zlt (w0 + w1) (fun x3 => zlt (v0 / (64 : Int32)) (fun x5 => if v1 = (2 : Int32) then (f_X12_beside_47 x3 x5 (1 : Int32)) else (if v1 = (3 : Int32) then (f_X12_beside_47 x3 x5 (-1 : Int32)) else (f_X12_beside_47 x3 x5 (0 : Int32)))))
def f_X12_beside (a0 : Int32) (a1 : Int32) : Option Int32 :=
  zlt (a0 - a0 / (64 : Int32) * (64 : Int32)) (fun x2 => if a1 = 0 then (f_X12_beside_22 a0 a1 x2 (1 : Int32)) else (if a1 = (1 : Int32) then (f_X12_beside_22 a0 a1 x2 (-1 : Int32)) else (f_X12_beside_22 a0 a1 x2 (0 : Int32))))
set_option maxHeartbeats 4000000 in
set_option maxRecDepth 100000 in
theorem l_X12_beside_69 {r : Int32} (C : zC p l e R s m args below meth c s0 a0 d cy B0 yX12_beside.cls cX12_beside 4 (some .int) bc bs bc bs 1 23 []) (I : zI) (L : zL) (w0 : Int32) (h : f_X12_beside_69 w0 = some r) : zG p l e R s m args below meth c d cy B0 4 bc bs (zQ below s args d cy B0 bc bs (.inl (some (.int r))) zSH zKn bc bs I L) 69 [] [.int w0] zSH zKn bc bs I L := by
  unfold f_X12_beside_69 at h
  obtain rfl := Option.some.inj h
  exact z_iret C dX12_beside_69 .int rfl rfl rfl
set_option maxHeartbeats 4000000 in
set_option maxRecDepth 100000 in
theorem l_X12_beside_47 {r : Int32} (C : zC p l e R s m args below meth c s0 a0 d cy B0 yX12_beside.cls cX12_beside 4 (some .int) bc bs bc bs 1 23 []) (I : zI) (L : zL) (v2 : Int32) (w0 : Int32) (w1 : Int32) (h : f_X12_beside_47 v2 w0 w1 = some r) : zG p l e R s m args below meth c d cy B0 4 bc bs (zQ below s args d cy B0 bc bs (.inl (some (.int r))) zSH zKn bc bs I L) 47 [(2, .int v2)] [.int w1, .int w0] zSH zKn bc bs I L := by
  unfold f_X12_beside_47 at h
  refine z_iadd C dX12_beside_47 ?_
  obtain ⟨x6, ex6, h⟩ := zlt_e h
  refine z_eqi C ex6 ?_
  refine z_istore_n C (lv' := [(3, .int x6), (2, .int v2)]) rfl (by decide) rfl dX12_beside_48 ?_
  refine z_iload_n C rfl 1 rfl dX12_beside_49 ?_
  refine z_i2l C dX12_beside_50 ?_
  refine z_iload_n C rfl 0 rfl dX12_beside_51 ?_
  refine z_i2l C dX12_beside_52 ?_
  obtain ⟨x8, hg7, h⟩ := zb1_e h
  refine z_callS C dX12_beside_53 yy_X12_isSquare (c_X12_isSquare C.2.2.2.2.1  v2.toInt64 x6.toInt64 I L hg7) q_1359 q_1360 (by decide) (by decide) rfl rfl (Nat.le_of_ble_eq_true rfl) ⟨Nat.le_refl _, Nat.le_refl _, Nat.le_refl _, Nat.le_refl _⟩ ?_
  refine z_if_eq C 68 (by decide) dX12_beside_56 (fun hc => ?_) (fun hc => ?_)
  · have h := zif_t hc h
    refine z_iconst C (v := -1) (by decide) dX12_beside_68 ?_
    refine z_lv [] (lv' := []) rfl ?_
    exact l_X12_beside_69 C I L (-1 : Int32) h
  · have h := zif_f hc h
    refine z_bipush C (v := 64) (by decide) dX12_beside_59 ?_
    refine z_iload_n C rfl 0 rfl dX12_beside_61 ?_
    refine z_imul C dX12_beside_62 ?_
    refine z_iload_n C rfl 1 rfl dX12_beside_63 ?_
    refine z_iadd C dX12_beside_64 ?_
    obtain ⟨x9, ex9, h⟩ := zlt_e h
    refine z_eqi C ex9 ?_
    refine z_goto C 69 (by decide) dX12_beside_65 ?_
    refine z_lv [] (lv' := []) rfl ?_
    exact l_X12_beside_69 C I L x9 h
set_option maxHeartbeats 4000000 in
set_option maxRecDepth 100000 in
theorem l_X12_beside_22 {r : Int32} (C : zC p l e R s m args below meth c s0 a0 d cy B0 yX12_beside.cls cX12_beside 4 (some .int) bc bs bc bs 1 23 []) (I : zI) (L : zL) (v0 : Int32) (v1 : Int32) (w0 : Int32) (w1 : Int32) (h : f_X12_beside_22 v0 v1 w0 w1 = some r) : zG p l e R s m args below meth c d cy B0 4 bc bs (zQ below s args d cy B0 bc bs (.inl (some (.int r))) zSH zKn bc bs I L) 22 [(0, .int v0), (1, .int v1)] [.int w1, .int w0] zSH zKn bc bs I L := by
  unfold f_X12_beside_22 at h
  refine z_iadd C dX12_beside_22 ?_
  obtain ⟨x3, ex3, h⟩ := zlt_e h
  refine z_eqi C ex3 ?_
  refine z_istore_n C (lv' := [(2, .int x3), (0, .int v0), (1, .int v1)]) rfl (by decide) rfl dX12_beside_23 ?_
  refine z_iload_n C rfl 1 rfl dX12_beside_24 ?_
  refine z_bipush C (v := 64) (by decide) dX12_beside_25 ?_
  refine z_idiv C (by decide) dX12_beside_27 ?_
  obtain ⟨x5, ex5, h⟩ := zlt_e h
  refine z_eqi C ex5 ?_
  refine z_iload_n C rfl 2 rfl dX12_beside_28 ?_
  refine z_iconst C (v := 2) (by decide) dX12_beside_29 ?_
  refine z_icmp_ne C 37 (by decide) dX12_beside_30 (fun hc => ?_) (fun hc => ?_)
  · have h := zif_f hc h
    refine z_iload_n C rfl 2 rfl dX12_beside_37 ?_
    refine z_iconst C (v := 3) (by decide) dX12_beside_38 ?_
    refine z_icmp_ne C 46 (by decide) dX12_beside_39 (fun hc => ?_) (fun hc => ?_)
    · have h := zif_f hc h
      refine z_iconst C (v := 0) (by decide) dX12_beside_46 ?_
      refine z_lv [0] (lv' := [(2, .int x3)]) rfl ?_
      exact l_X12_beside_47 C I L x3 x5 (0 : Int32) h
    · have h := zif_t hc h
      refine z_iconst C (v := -1) (by decide) dX12_beside_42 ?_
      refine z_goto C 47 (by decide) dX12_beside_43 ?_
      refine z_lv [0] (lv' := [(2, .int x3)]) rfl ?_
      exact l_X12_beside_47 C I L x3 x5 (-1 : Int32) h
  · have h := zif_t hc h
    refine z_iconst C (v := 1) (by decide) dX12_beside_33 ?_
    refine z_goto C 47 (by decide) dX12_beside_34 ?_
    refine z_lv [0] (lv' := [(2, .int x3)]) rfl ?_
    exact l_X12_beside_47 C I L x3 x5 (1 : Int32) h
set_option maxHeartbeats 4000000 in
set_option maxRecDepth 100000 in
theorem c_X12_beside {r : Int32} (hE : zE0 l s0 a0 d cy B0) (a0 : Int32) (a1 : Int32) (I : zI) (L : zL) (h : f_X12_beside a0 a1 = some r) : zM l s0 d cy B0 yX12_beside cX12_beside 4 (some .int) 1 23 [.int a0, .int a1] zSH zKn bc bs I L (.inl (some (.int r))) zSH zKn bc bs I L := by
  refine z_meth yy_X12_beside hE (Nat.le_of_ble_eq_true rfl) (fun p e R s m args below meth c C => ?_)
  show zG p l e R s m args below meth c d cy B0 4 bc bs (zQ below s args d cy B0 bc bs (.inl (some (.int r))) zSH zKn bc bs I L) 0 [(0, .int a0), (1, .int a1)] [] zSH zKn bc bs I L
  unfold f_X12_beside at h
  refine z_iload_n C rfl 0 rfl dX12_beside_0 ?_
  refine z_bipush C (v := 64) (by decide) dX12_beside_1 ?_
  refine z_irem C (by decide) dX12_beside_3 ?_
  obtain ⟨x2, ex2, h⟩ := zlt_e h
  refine z_eqi C ex2 ?_
  refine z_iload_n C rfl 1 rfl dX12_beside_4 ?_
  refine z_if_ne C 12 (by decide) dX12_beside_5 (fun hc => ?_) (fun hc => ?_)
  · have h := zif_f hc h
    refine z_iload_n C rfl 1 rfl dX12_beside_12 ?_
    refine z_iconst C (v := 1) (by decide) dX12_beside_13 ?_
    refine z_icmp_ne C 21 (by decide) dX12_beside_14 (fun hc => ?_) (fun hc => ?_)
    · have h := zif_f hc h
      refine z_iconst C (v := 0) (by decide) dX12_beside_21 ?_
      exact l_X12_beside_22 C I L a0 a1 x2 (0 : Int32) h
    · have h := zif_t hc h
      refine z_iconst C (v := -1) (by decide) dX12_beside_17 ?_
      refine z_goto C 22 (by decide) dX12_beside_18 ?_
      exact l_X12_beside_22 C I L a0 a1 x2 (-1 : Int32) h
  · have h := zif_t hc h
    refine z_iconst C (v := 1) (by decide) dX12_beside_8 ?_
    refine z_goto C 22 (by decide) dX12_beside_9 ?_
    exact l_X12_beside_22 C I L a0 a1 x2 (1 : Int32) h
theorem q_1223 : (Cond.fieldLink "DeviceFindModel" (110 : Nat) "DeviceFindModel" "row" "[I") ∈ lw_tbl := List.mem_of_getElem? (i := 1223) (by decide +kernel)
theorem q_1472 : (Cond.code ({ cls := "DeviceFindModel", name := "flood", desc := "(III)V" } : Jvm.MethodName) prog_14_method_33_code (9 : Nat) (Option.none : Option Jvm.ClassFile.FieldType)) ∈ lw_tbl := List.mem_of_getElem? (i := 1472) (by decide +kernel)
theorem q_1473 : (Cond.methodLink "DeviceFindModel" (259 : Nat) ({ cls := "DeviceFindModel", name := "beside", desc := "(II)I" } : Jvm.MethodName)) ∈ lw_tbl := List.mem_of_getElem? (i := 1473) (by decide +kernel)
theorem q_1474 : (Cond.static ({ cls := "DeviceFindModel", name := "beside", desc := "(II)I" } : Jvm.MethodName)) ∈ lw_tbl := List.mem_of_getElem? (i := 1474) (by decide +kernel)
theorem yy_X12_flood : zY yX12_flood cX12_flood 9 none 3 := ⟨q_1472, q_88, by decide +kernel, by decide +kernel, by decide +kernel⟩
def f_X12_flood_116 (k30 : Int32 → Int32 → Int32 → Int32 → zI → Option zI) (k40 : Int32 → Int32 → Int32 → Int32 → Int32 → zI → Option zI) (v3 : Int32) (v4 : Int32) (v5 : Int32) (v6 : Int32) (v7 : Int32) (I : zI) : Option zI :=
  zlt (v7 + 1) (fun x19 => k40 v3 v4 v5 v6 x19 I)
def f_X12_flood_40 (k30 : Int32 → Int32 → Int32 → Int32 → zI → Option zI) (k40 : Int32 → Int32 → Int32 → Int32 → Int32 → zI → Option zI) (v3 : Int32) (v4 : Int32) (v5 : Int32) (v6 : Int32) (v7 : Int32) (I : zI) : Option zI :=
  if (4 : Int32) ≤ v7 then (zlt (v6 + 1) (fun x6 => k30 v3 v4 v5 x6 I)) else (zck (zbd v6 4096) (zb1 (f_X12_beside (I 130 v6.toNatClampNeg) v7) (fun x9 => if x9 = (-1 : Int32) then (f_X12_flood_116 k30 k40 v3 v4 v5 v6 v7 I) else (zlt (v4 + x9) (fun x10 => zck (zbd x10 98304) (if (I 118 x10.toNatClampNeg) = 0 then (f_X12_flood_116 k30 k40 v3 v4 v5 v6 v7 I) else (zlt (v4 + x9) (fun x12 => zck (zbd x12 98304) (if (I 119 x12.toNatClampNeg) = (-1 : Int32) then (zck (zbd (v4 + x9) 98304) (zlt (zu I 119 (v4 + x9).toNatClampNeg v3) (fun I15 => zck (zbd v5 4096) (zlt (zu I15 130 v5.toNatClampNeg x9) (fun I17 => zlt (v5 + 1) (fun x18 => f_X12_flood_116 k30 k40 v3 v4 x18 v6 v7 I17)))))) else (f_X12_flood_116 k30 k40 v3 v4 v5 v6 v7 I))))))))))
def f_X12_flood_30 (k30 : Int32 → Int32 → Int32 → Int32 → zI → Option zI) (v3 : Int32) (v4 : Int32) (v5 : Int32) (v6 : Int32) (I : zI) : Option zI :=
  if v5 ≤ v6 then (some I) else (zlp6 (f_X12_flood_40 k30) zF v3 v4 v5 v6 (0 : Int32) I)
def f_X12_flood (a1 : Int32) (a2 : Int32) (a3 : Int32) (I : zI) : Option zI :=
  zlt ((4096 : Int32) * a1) (fun x1 => zck (zbd (0 : Int32) 4096) (zlt (zu I 130 (0 : Int32).toNatClampNeg a2) (fun I3 => zck (zbd (x1 + a2) 98304) (zlt (zu I3 119 (x1 + a2).toNatClampNeg a3) (fun I5 => zlp5 (f_X12_flood_30) zF a3 x1 (1 : Int32) (0 : Int32) I5)))))
set_option maxHeartbeats 4000000 in
set_option maxRecDepth 100000 in
theorem l_X12_flood_116 {r : zI} (C : zC p l e R s m args below meth c s0 a0 d cy B0 yX12_flood.cls cX12_flood 9 none bc bs bc bs 2 46 []) (L : zL) (k30 : Int32 → Int32 → Int32 → Int32 → zI → Option zI) (hk30 : ∀ (v3 : Int32) (v4 : Int32) (v5 : Int32) (v6 : Int32) (I : zI), k30 v3 v4 v5 v6 I = some r → zG p l e R s m args below meth c d cy B0 9 bc bs (zQ below s args d cy B0 bc bs (.inl none) zSH zKn bc bs r L) 30 [(0, .ref (B0 + 97)), (3, .int v3), (4, .int v4), (5, .int v5), (6, .int v6)] [] zSH zKn bc bs I L) (k40 : Int32 → Int32 → Int32 → Int32 → Int32 → zI → Option zI) (hk40 : ∀ (v3 : Int32) (v4 : Int32) (v5 : Int32) (v6 : Int32) (v7 : Int32) (I : zI), k40 v3 v4 v5 v6 v7 I = some r → zG p l e R s m args below meth c d cy B0 9 bc bs (zQ below s args d cy B0 bc bs (.inl none) zSH zKn bc bs r L) 40 [(0, .ref (B0 + 97)), (3, .int v3), (4, .int v4), (5, .int v5), (6, .int v6), (7, .int v7)] [] zSH zKn bc bs I L) (v3 : Int32) (v4 : Int32) (v5 : Int32) (v6 : Int32) (v7 : Int32) (I : zI) (h : f_X12_flood_116 k30 k40 v3 v4 v5 v6 v7 I = some r) : zG p l e R s m args below meth c d cy B0 9 bc bs (zQ below s args d cy B0 bc bs (.inl none) zSH zKn bc bs r L) 116 [(0, .ref (B0 + 97)), (3, .int v3), (4, .int v4), (5, .int v5), (6, .int v6), (7, .int v7)] [] zSH zKn bc bs I L := by
  unfold f_X12_flood_116 at h
  obtain ⟨x19, ex19, h⟩ := zlt_e h
  refine z_iinc C (j := 5) (v := x19) (lv' := [(7, .int x19), (0, .ref (B0 + 97)), (3, .int v3), (4, .int v4), (5, .int v5), (6, .int v6)]) rfl (by rw [ex19]; rfl) (by decide) rfl dX12_flood_116 ?_
  refine z_goto C 40 (by decide) dX12_flood_119 ?_
  refine z_lv [1, 2, 3, 4, 5, 0] (lv' := [(0, .ref (B0 + 97)), (3, .int v3), (4, .int v4), (5, .int v5), (6, .int v6), (7, .int x19)]) rfl ?_
  exact hk40 v3 v4 v5 v6 x19 I h
set_option maxHeartbeats 4000000 in
set_option maxRecDepth 100000 in
theorem l_X12_flood_40 {r : zI} (C : zC p l e R s m args below meth c s0 a0 d cy B0 yX12_flood.cls cX12_flood 9 none bc bs bc bs 2 46 []) (L : zL) (k30 : Int32 → Int32 → Int32 → Int32 → zI → Option zI) (hk30 : ∀ (v3 : Int32) (v4 : Int32) (v5 : Int32) (v6 : Int32) (I : zI), k30 v3 v4 v5 v6 I = some r → zG p l e R s m args below meth c d cy B0 9 bc bs (zQ below s args d cy B0 bc bs (.inl none) zSH zKn bc bs r L) 30 [(0, .ref (B0 + 97)), (3, .int v3), (4, .int v4), (5, .int v5), (6, .int v6)] [] zSH zKn bc bs I L) (k40 : Int32 → Int32 → Int32 → Int32 → Int32 → zI → Option zI) (hk40 : ∀ (v3 : Int32) (v4 : Int32) (v5 : Int32) (v6 : Int32) (v7 : Int32) (I : zI), k40 v3 v4 v5 v6 v7 I = some r → zG p l e R s m args below meth c d cy B0 9 bc bs (zQ below s args d cy B0 bc bs (.inl none) zSH zKn bc bs r L) 40 [(0, .ref (B0 + 97)), (3, .int v3), (4, .int v4), (5, .int v5), (6, .int v6), (7, .int v7)] [] zSH zKn bc bs I L) (v3 : Int32) (v4 : Int32) (v5 : Int32) (v6 : Int32) (v7 : Int32) (I : zI) (h : f_X12_flood_40 k30 k40 v3 v4 v5 v6 v7 I = some r) : zG p l e R s m args below meth c d cy B0 9 bc bs (zQ below s args d cy B0 bc bs (.inl none) zSH zKn bc bs r L) 40 [(0, .ref (B0 + 97)), (3, .int v3), (4, .int v4), (5, .int v5), (6, .int v6), (7, .int v7)] [] zSH zKn bc bs I L := by
  unfold f_X12_flood_40 at h
  refine z_iload C 5 rfl dX12_flood_40 ?_
  refine z_iconst C (v := 4) (by decide) dX12_flood_42 ?_
  refine z_icmp_ge C 122 (by decide) dX12_flood_43 (fun hc => ?_) (fun hc => ?_)
  · have h := zif_t hc h
    obtain ⟨x6, ex6, h⟩ := zlt_e h
    refine z_iinc C (j := 4) (v := x6) (lv' := [(6, .int x6), (0, .ref (B0 + 97)), (3, .int v3), (4, .int v4), (5, .int v5), (7, .int v7)]) rfl (by rw [ex6]; rfl) (by decide) rfl dX12_flood_122 ?_
    refine z_goto C 30 (by decide) dX12_flood_125 ?_
    refine z_lv [1, 2, 3, 4, 0] (lv' := [(0, .ref (B0 + 97)), (3, .int v3), (4, .int v4), (5, .int v5), (6, .int x6)]) rfl ?_
    exact hk30 v3 v4 v5 x6 I h
  · have h := zif_f hc h
    refine z_aload_n C rfl 0 rfl dX12_flood_46 ?_
    refine z_getr C zc_12 dX12_flood_47 54 97 130 rfl (by decide) (by decide) q_1223 rfl rfl ?_
    refine z_iload C 4 rfl dX12_flood_50 ?_
    obtain ⟨hb7, h⟩ := zck_e h
    refine z_iaload C dX12_flood_52 rfl rfl (by decide) (zbd_in hb7) ?_
    refine z_iload C 5 rfl dX12_flood_53 ?_
    obtain ⟨x9, hg8, h⟩ := zb1_e h
    refine z_callS C dX12_flood_55 yy_X12_beside (c_X12_beside C.2.2.2.2.1  (I 130 v6.toNatClampNeg) v7 I L hg8) q_1473 q_1474 (by decide) (by decide) rfl rfl (Nat.le_of_ble_eq_true rfl) ⟨Nat.le_refl _, Nat.le_refl _, Nat.le_refl _, Nat.le_refl _⟩ ?_
    refine z_istore C (lv' := [(8, .int x9), (0, .ref (B0 + 97)), (3, .int v3), (4, .int v4), (5, .int v5), (6, .int v6), (7, .int v7)]) (by decide) rfl dX12_flood_58 ?_
    refine z_iload C 0 rfl dX12_flood_60 ?_
    refine z_iconst C (v := -1) (by decide) dX12_flood_62 ?_
    refine z_icmp_eq C 116 (by decide) dX12_flood_63 (fun hc => ?_) (fun hc => ?_)
    · have h := zif_t hc h
      refine z_lv [1, 2, 3, 4, 5, 6] (lv' := [(0, .ref (B0 + 97)), (3, .int v3), (4, .int v4), (5, .int v5), (6, .int v6), (7, .int v7)]) rfl ?_
      exact l_X12_flood_116 C L k30 hk30 k40 hk40 v3 v4 v5 v6 v7 I h
    · have h := zif_f hc h
      refine z_aload_n C rfl 1 rfl dX12_flood_66 ?_
      refine z_getr C zc_12 dX12_flood_67 31 97 118 rfl (by decide) (by decide) q_1200 rfl rfl ?_
      refine z_iload C 3 rfl dX12_flood_70 ?_
      refine z_iload C 0 rfl dX12_flood_72 ?_
      refine z_iadd C dX12_flood_74 ?_
      obtain ⟨x10, ex10, h⟩ := zlt_e h
      refine z_eqi C ex10 ?_
      obtain ⟨hb11, h⟩ := zck_e h
      refine z_zaload C dX12_flood_75 rfl rfl (by decide) (zbd_in hb11) ?_
      refine z_if_eq C 116 (by decide) dX12_flood_76 (fun hc => ?_) (fun hc => ?_)
      · have h := zif_t hc h
        refine z_lv [1, 2, 3, 4, 5, 6] (lv' := [(0, .ref (B0 + 97)), (3, .int v3), (4, .int v4), (5, .int v5), (6, .int v6), (7, .int v7)]) rfl ?_
        exact l_X12_flood_116 C L k30 hk30 k40 hk40 v3 v4 v5 v6 v7 I h
      · have h := zif_f hc h
        refine z_aload_n C rfl 1 rfl dX12_flood_79 ?_
        refine z_getr C zc_12 dX12_flood_80 32 97 119 rfl (by decide) (by decide) q_1201 rfl rfl ?_
        refine z_iload C 3 rfl dX12_flood_83 ?_
        refine z_iload C 0 rfl dX12_flood_85 ?_
        refine z_iadd C dX12_flood_87 ?_
        obtain ⟨x12, ex12, h⟩ := zlt_e h
        refine z_eqi C ex12 ?_
        obtain ⟨hb13, h⟩ := zck_e h
        refine z_iaload C dX12_flood_88 rfl rfl (by decide) (zbd_in hb13) ?_
        refine z_iconst C (v := -1) (by decide) dX12_flood_89 ?_
        refine z_icmp_ne C 116 (by decide) dX12_flood_90 (fun hc => ?_) (fun hc => ?_)
        · have h := zif_f hc h
          refine z_lv [1, 2, 3, 4, 5, 6] (lv' := [(0, .ref (B0 + 97)), (3, .int v3), (4, .int v4), (5, .int v5), (6, .int v6), (7, .int v7)]) rfl ?_
          exact l_X12_flood_116 C L k30 hk30 k40 hk40 v3 v4 v5 v6 v7 I h
        · have h := zif_t hc h
          refine z_aload_n C rfl 1 rfl dX12_flood_93 ?_
          refine z_getr C zc_12 dX12_flood_94 32 97 119 rfl (by decide) (by decide) q_1201 rfl rfl ?_
          refine z_iload C 3 rfl dX12_flood_97 ?_
          refine z_iload C 0 rfl dX12_flood_99 ?_
          refine z_iadd C dX12_flood_101 ?_
          refine z_iload_n C rfl 2 rfl dX12_flood_102 ?_
          obtain ⟨hb14, h⟩ := zck_e h
          refine z_iastore C dX12_flood_103 rfl rfl (by decide) (zbd_in hb14) ?_
          obtain ⟨I15, eI15, h⟩ := zlt_e h
          refine z_eqI C eI15 ?_
          refine z_aload_n C rfl 1 rfl dX12_flood_104 ?_
          refine z_getr C zc_12 dX12_flood_105 54 97 130 rfl (by decide) (by decide) q_1223 rfl rfl ?_
          refine z_iload C 4 rfl dX12_flood_108 ?_
          refine z_iload C 0 rfl dX12_flood_110 ?_
          obtain ⟨hb16, h⟩ := zck_e h
          refine z_iastore C dX12_flood_112 rfl rfl (by decide) (zbd_in hb16) ?_
          obtain ⟨I17, eI17, h⟩ := zlt_e h
          refine z_eqI C eI17 ?_
          obtain ⟨x18, ex18, h⟩ := zlt_e h
          refine z_iinc C (j := 4) (v := x18) (lv' := [(5, .int x18), (8, .int x9), (0, .ref (B0 + 97)), (3, .int v3), (4, .int v4), (6, .int v6), (7, .int v7)]) rfl (by rw [ex18]; rfl) (by decide) rfl dX12_flood_113 ?_
          refine z_lv [2, 3, 4, 0, 5, 6] (lv' := [(0, .ref (B0 + 97)), (3, .int v3), (4, .int v4), (5, .int x18), (6, .int v6), (7, .int v7)]) rfl ?_
          exact l_X12_flood_116 C L k30 hk30 k40 hk40 v3 v4 x18 v6 v7 I17 h
set_option maxHeartbeats 4000000 in
set_option maxRecDepth 100000 in
theorem L_X12_flood_40 {r : zI} (C : zC p l e R s m args below meth c s0 a0 d cy B0 yX12_flood.cls cX12_flood 9 none bc bs bc bs 2 46 []) (L : zL) (k30 : Int32 → Int32 → Int32 → Int32 → zI → Option zI) (hk30 : ∀ (v3 : Int32) (v4 : Int32) (v5 : Int32) (v6 : Int32) (I : zI), k30 v3 v4 v5 v6 I = some r → zG p l e R s m args below meth c d cy B0 9 bc bs (zQ below s args d cy B0 bc bs (.inl none) zSH zKn bc bs r L) 30 [(0, .ref (B0 + 97)), (3, .int v3), (4, .int v4), (5, .int v5), (6, .int v6)] [] zSH zKn bc bs I L) (v3 : Int32) (v4 : Int32) (v5 : Int32) (v6 : Int32) (v7 : Int32) (I : zI) (h : zlp6 (f_X12_flood_40 k30) zF v3 v4 v5 v6 v7 I = some r) : zG p l e R s m args below meth c d cy B0 9 bc bs (zQ below s args d cy B0 bc bs (.inl none) zSH zKn bc bs r L) 40 [(0, .ref (B0 + 97)), (3, .int v3), (4, .int v4), (5, .int v5), (6, .int v6), (7, .int v7)] [] zSH zKn bc bs I L :=
 zlp6_e (fun (v3 : Int32) (v4 : Int32) (v5 : Int32) (v6 : Int32) (v7 : Int32) (I : zI) => zG p l e R s m args below meth c d cy B0 9 bc bs (zQ below s args d cy B0 bc bs (.inl none) zSH zKn bc bs r L) 40 [(0, .ref (B0 + 97)), (3, .int v3), (4, .int v4), (5, .int v5), (6, .int v6), (7, .int v7)] [] zSH zKn bc bs I L) (fun k9 hk9 v3 v4 v5 v6 v7 I h => l_X12_flood_40 C L k30 hk30 k9 hk9 v3 v4 v5 v6 v7 I h) zF v3 v4 v5 v6 v7 I h
set_option maxHeartbeats 4000000 in
set_option maxRecDepth 100000 in
theorem l_X12_flood_30 {r : zI} (C : zC p l e R s m args below meth c s0 a0 d cy B0 yX12_flood.cls cX12_flood 9 none bc bs bc bs 2 46 []) (L : zL) (k30 : Int32 → Int32 → Int32 → Int32 → zI → Option zI) (hk30 : ∀ (v3 : Int32) (v4 : Int32) (v5 : Int32) (v6 : Int32) (I : zI), k30 v3 v4 v5 v6 I = some r → zG p l e R s m args below meth c d cy B0 9 bc bs (zQ below s args d cy B0 bc bs (.inl none) zSH zKn bc bs r L) 30 [(0, .ref (B0 + 97)), (3, .int v3), (4, .int v4), (5, .int v5), (6, .int v6)] [] zSH zKn bc bs I L) (v3 : Int32) (v4 : Int32) (v5 : Int32) (v6 : Int32) (I : zI) (h : f_X12_flood_30 k30 v3 v4 v5 v6 I = some r) : zG p l e R s m args below meth c d cy B0 9 bc bs (zQ below s args d cy B0 bc bs (.inl none) zSH zKn bc bs r L) 30 [(0, .ref (B0 + 97)), (3, .int v3), (4, .int v4), (5, .int v5), (6, .int v6)] [] zSH zKn bc bs I L := by
  unfold f_X12_flood_30 at h
  refine z_iload C 4 rfl dX12_flood_30 ?_
  refine z_iload C 3 rfl dX12_flood_32 ?_
  refine z_icmp_ge C 128 (by decide) dX12_flood_34 (fun hc => ?_) (fun hc => ?_)
  · have h := zif_t hc h
    obtain rfl := Option.some.inj h
    exact z_vret C dX12_flood_128 rfl rfl
  · have h := zif_f hc h
    refine z_iconst C (v := 0) (by decide) dX12_flood_37 ?_
    refine z_istore C (lv' := [(7, .int (0 : Int32)), (0, .ref (B0 + 97)), (3, .int v3), (4, .int v4), (5, .int v5), (6, .int v6)]) (by decide) rfl dX12_flood_38 ?_
    refine z_lv [1, 2, 3, 4, 5, 0] (lv' := [(0, .ref (B0 + 97)), (3, .int v3), (4, .int v4), (5, .int v5), (6, .int v6), (7, .int (0 : Int32))]) rfl ?_
    exact L_X12_flood_40 C L k30 hk30 v3 v4 v5 v6 (0 : Int32) I h
set_option maxHeartbeats 4000000 in
set_option maxRecDepth 100000 in
theorem L_X12_flood_30 {r : zI} (C : zC p l e R s m args below meth c s0 a0 d cy B0 yX12_flood.cls cX12_flood 9 none bc bs bc bs 2 46 []) (L : zL) (v3 : Int32) (v4 : Int32) (v5 : Int32) (v6 : Int32) (I : zI) (h : zlp5 (f_X12_flood_30) zF v3 v4 v5 v6 I = some r) : zG p l e R s m args below meth c d cy B0 9 bc bs (zQ below s args d cy B0 bc bs (.inl none) zSH zKn bc bs r L) 30 [(0, .ref (B0 + 97)), (3, .int v3), (4, .int v4), (5, .int v5), (6, .int v6)] [] zSH zKn bc bs I L :=
 zlp5_e (fun (v3 : Int32) (v4 : Int32) (v5 : Int32) (v6 : Int32) (I : zI) => zG p l e R s m args below meth c d cy B0 9 bc bs (zQ below s args d cy B0 bc bs (.inl none) zSH zKn bc bs r L) 30 [(0, .ref (B0 + 97)), (3, .int v3), (4, .int v4), (5, .int v5), (6, .int v6)] [] zSH zKn bc bs I L) (fun k9 hk9 v3 v4 v5 v6 I h => l_X12_flood_30 C L k9 hk9 v3 v4 v5 v6 I h) zF v3 v4 v5 v6 I h
set_option maxHeartbeats 4000000 in
set_option maxRecDepth 100000 in
theorem c_X12_flood {r : zI} (hE : zE0 l s0 a0 d cy B0) (a1 : Int32) (a2 : Int32) (a3 : Int32) (I : zI) (L : zL) (h : f_X12_flood a1 a2 a3 I = some r) : zM l s0 d cy B0 yX12_flood cX12_flood 9 none 2 46 [.ref (B0 + 97), .int a1, .int a2, .int a3] zSH zKn bc bs I L (.inl none) zSH zKn bc bs r L := by
  refine z_meth yy_X12_flood hE (Nat.le_of_ble_eq_true rfl) (fun p e R s m args below meth c C => ?_)
  show zG p l e R s m args below meth c d cy B0 9 bc bs (zQ below s args d cy B0 bc bs (.inl none) zSH zKn bc bs r L) 0 [(0, .ref (B0 + 97)), (1, .int a1), (2, .int a2), (3, .int a3)] [] zSH zKn bc bs I L
  unfold f_X12_flood at h
  refine z_sipush C (v := 4096) (by decide) dX12_flood_0 ?_
  refine z_iload_n C rfl 1 rfl dX12_flood_3 ?_
  refine z_imul C dX12_flood_4 ?_
  obtain ⟨x1, ex1, h⟩ := zlt_e h
  refine z_eqi C ex1 ?_
  refine z_istore C (lv' := [(4, .int x1), (0, .ref (B0 + 97)), (1, .int a1), (2, .int a2), (3, .int a3)]) (by decide) rfl dX12_flood_5 ?_
  refine z_iconst C (v := 1) (by decide) dX12_flood_7 ?_
  refine z_istore C (lv' := [(5, .int (1 : Int32)), (4, .int x1), (0, .ref (B0 + 97)), (1, .int a1), (2, .int a2), (3, .int a3)]) (by decide) rfl dX12_flood_8 ?_
  refine z_aload_n C rfl 2 rfl dX12_flood_10 ?_
  refine z_getr C zc_12 dX12_flood_11 54 97 130 rfl (by decide) (by decide) q_1223 rfl rfl ?_
  refine z_iconst C (v := 0) (by decide) dX12_flood_14 ?_
  refine z_iload_n C rfl 4 rfl dX12_flood_15 ?_
  obtain ⟨hb2, h⟩ := zck_e h
  refine z_iastore C dX12_flood_16 rfl rfl (by decide) (zbd_in hb2) ?_
  obtain ⟨I3, eI3, h⟩ := zlt_e h
  refine z_eqI C eI3 ?_
  refine z_aload_n C rfl 2 rfl dX12_flood_17 ?_
  refine z_getr C zc_12 dX12_flood_18 32 97 119 rfl (by decide) (by decide) q_1201 rfl rfl ?_
  refine z_iload C 1 rfl dX12_flood_21 ?_
  refine z_iload_n C rfl 4 rfl dX12_flood_23 ?_
  refine z_iadd C dX12_flood_24 ?_
  refine z_iload_n C rfl 5 rfl dX12_flood_25 ?_
  obtain ⟨hb4, h⟩ := zck_e h
  refine z_iastore C dX12_flood_26 rfl rfl (by decide) (zbd_in hb4) ?_
  obtain ⟨I5, eI5, h⟩ := zlt_e h
  refine z_eqI C eI5 ?_
  refine z_iconst C (v := 0) (by decide) dX12_flood_27 ?_
  refine z_istore C (lv' := [(6, .int (0 : Int32)), (5, .int (1 : Int32)), (4, .int x1), (0, .ref (B0 + 97)), (1, .int a1), (2, .int a2), (3, .int a3)]) (by decide) rfl dX12_flood_28 ?_
  refine z_lv [3, 6, 2, 1, 0] (lv' := [(0, .ref (B0 + 97)), (3, .int a3), (4, .int x1), (5, .int (1 : Int32)), (6, .int (0 : Int32))]) rfl ?_
  exact L_X12_flood_30 C L a3 x1 (1 : Int32) (0 : Int32) I5 h
theorem q_63 : Cond.selects "DeviceFindModel" ⟨"DeviceFindModel", "flood", "(III)V"⟩ ⟨"DeviceFindModel", "flood", "(III)V"⟩ ∈ lw_tbl := List.mem_of_getElem? (i := 63) (by decide +kernel)
theorem q_1202 : (Cond.fieldLink "DeviceFindModel" (79 : Nat) "DeviceFindModel" "shapes" "[I") ∈ lw_tbl := List.mem_of_getElem? (i := 1202) (by decide +kernel)
theorem q_1468 : (Cond.code ({ cls := "DeviceFindModel", name := "findShapes", desc := "(I)V" } : Jvm.MethodName) prog_14_method_34_code (3 : Nat) (Option.none : Option Jvm.ClassFile.FieldType)) ∈ lw_tbl := List.mem_of_getElem? (i := 1468) (by decide +kernel)
theorem q_1469 : (Cond.methodLink "DeviceFindModel" (263 : Nat) ({ cls := "DeviceFindModel", name := "flood", desc := "(III)V" } : Jvm.MethodName)) ∈ lw_tbl := List.mem_of_getElem? (i := 1469) (by decide +kernel)
theorem q_1471 : (Cond.instanceMethod ({ cls := "DeviceFindModel", name := "flood", desc := "(III)V" } : Jvm.MethodName)) ∈ lw_tbl := List.mem_of_getElem? (i := 1471) (by decide +kernel)
theorem yy_X12_findShapes : zY yX12_findShapes cX12_findShapes 3 none 1 := ⟨q_1468, q_88, by decide +kernel, by decide +kernel, by decide +kernel⟩
def f_X12_findShapes_69 (k9 : Int32 → Int32 → zI → Option zI) (v1 : Int32) (v2 : Int32) (I : zI) : Option zI :=
  zlt (v2 + 1) (fun x14 => k9 v1 x14 I)
def f_X12_findShapes_9 (k9 : Int32 → Int32 → zI → Option zI) (v1 : Int32) (v2 : Int32) (I : zI) : Option zI :=
  if (4096 : Int32) ≤ v2 then (some I) else (zlt (((4096 : Int32) * v1) + v2) (fun x3 => zck (zbd x3 98304) (if (I 118 x3.toNatClampNeg) = 0 then (f_X12_findShapes_69 k9 v1 v2 I) else (zlt (((4096 : Int32) * v1) + v2) (fun x5 => zck (zbd x5 98304) (if (I 119 x5.toNatClampNeg) = (-1 : Int32) then (zck (zbd v1 24) (zb1 (f_X12_flood v1 v2 (I 120 v1.toNatClampNeg) I) (fun I9 => zck (zbd v1 24) (zlt ((I9 120 v1.toNatClampNeg) + (1 : Int32)) (fun x11 => zck (zbd v1 24) (zlt (zu I9 120 v1.toNatClampNeg x11) (fun I13 => f_X12_findShapes_69 k9 v1 v2 I13))))))) else (f_X12_findShapes_69 k9 v1 v2 I)))))))
def f_X12_findShapes (a1 : Int32) (I : zI) : Option zI :=
  zck (zbd a1 24) (zlt (zu I 120 a1.toNatClampNeg (0 : Int32)) (fun I2 => zlp3 (f_X12_findShapes_9) zF a1 (0 : Int32) I2))
set_option maxHeartbeats 4000000 in
set_option maxRecDepth 100000 in
theorem l_X12_findShapes_69 {r : zI} (C : zC p l e R s m args below meth c s0 a0 d cy B0 yX12_findShapes.cls cX12_findShapes 3 none bc bs bc bs 3 74 []) (L : zL) (k9 : Int32 → Int32 → zI → Option zI) (hk9 : ∀ (v1 : Int32) (v2 : Int32) (I : zI), k9 v1 v2 I = some r → zG p l e R s m args below meth c d cy B0 3 bc bs (zQ below s args d cy B0 bc bs (.inl none) zSH zKn bc bs r L) 9 [(0, .ref (B0 + 97)), (1, .int v1), (2, .int v2)] [] zSH zKn bc bs I L) (v1 : Int32) (v2 : Int32) (I : zI) (h : f_X12_findShapes_69 k9 v1 v2 I = some r) : zG p l e R s m args below meth c d cy B0 3 bc bs (zQ below s args d cy B0 bc bs (.inl none) zSH zKn bc bs r L) 69 [(0, .ref (B0 + 97)), (1, .int v1), (2, .int v2)] [] zSH zKn bc bs I L := by
  unfold f_X12_findShapes_69 at h
  obtain ⟨x14, ex14, h⟩ := zlt_e h
  refine z_iinc C (j := 2) (v := x14) (lv' := [(2, .int x14), (0, .ref (B0 + 97)), (1, .int v1)]) rfl (by rw [ex14]; rfl) (by decide) rfl dX12_findShapes_69 ?_
  refine z_goto C 9 (by decide) dX12_findShapes_72 ?_
  refine z_lv [1, 2, 0] (lv' := [(0, .ref (B0 + 97)), (1, .int v1), (2, .int x14)]) rfl ?_
  exact hk9 v1 x14 I h
set_option maxHeartbeats 4000000 in
set_option maxRecDepth 100000 in
theorem l_X12_findShapes_9 {r : zI} (C : zC p l e R s m args below meth c s0 a0 d cy B0 yX12_findShapes.cls cX12_findShapes 3 none bc bs bc bs 3 74 []) (L : zL) (k9 : Int32 → Int32 → zI → Option zI) (hk9 : ∀ (v1 : Int32) (v2 : Int32) (I : zI), k9 v1 v2 I = some r → zG p l e R s m args below meth c d cy B0 3 bc bs (zQ below s args d cy B0 bc bs (.inl none) zSH zKn bc bs r L) 9 [(0, .ref (B0 + 97)), (1, .int v1), (2, .int v2)] [] zSH zKn bc bs I L) (v1 : Int32) (v2 : Int32) (I : zI) (h : f_X12_findShapes_9 k9 v1 v2 I = some r) : zG p l e R s m args below meth c d cy B0 3 bc bs (zQ below s args d cy B0 bc bs (.inl none) zSH zKn bc bs r L) 9 [(0, .ref (B0 + 97)), (1, .int v1), (2, .int v2)] [] zSH zKn bc bs I L := by
  unfold f_X12_findShapes_9 at h
  refine z_iload_n C rfl 2 rfl dX12_findShapes_9 ?_
  refine z_sipush C (v := 4096) (by decide) dX12_findShapes_10 ?_
  refine z_icmp_ge C 75 (by decide) dX12_findShapes_13 (fun hc => ?_) (fun hc => ?_)
  · have h := zif_t hc h
    obtain rfl := Option.some.inj h
    exact z_vret C dX12_findShapes_75 rfl rfl
  · have h := zif_f hc h
    refine z_aload_n C rfl 0 rfl dX12_findShapes_16 ?_
    refine z_getr C zc_12 dX12_findShapes_17 31 97 118 rfl (by decide) (by decide) q_1200 rfl rfl ?_
    refine z_sipush C (v := 4096) (by decide) dX12_findShapes_20 ?_
    refine z_iload_n C rfl 1 rfl dX12_findShapes_23 ?_
    refine z_imul C dX12_findShapes_24 ?_
    refine z_iload_n C rfl 2 rfl dX12_findShapes_25 ?_
    refine z_iadd C dX12_findShapes_26 ?_
    obtain ⟨x3, ex3, h⟩ := zlt_e h
    refine z_eqi C ex3 ?_
    obtain ⟨hb4, h⟩ := zck_e h
    refine z_zaload C dX12_findShapes_27 rfl rfl (by decide) (zbd_in hb4) ?_
    refine z_if_eq C 69 (by decide) dX12_findShapes_28 (fun hc => ?_) (fun hc => ?_)
    · have h := zif_t hc h
      exact l_X12_findShapes_69 C L k9 hk9 v1 v2 I h
    · have h := zif_f hc h
      refine z_aload_n C rfl 0 rfl dX12_findShapes_31 ?_
      refine z_getr C zc_12 dX12_findShapes_32 32 97 119 rfl (by decide) (by decide) q_1201 rfl rfl ?_
      refine z_sipush C (v := 4096) (by decide) dX12_findShapes_35 ?_
      refine z_iload_n C rfl 1 rfl dX12_findShapes_38 ?_
      refine z_imul C dX12_findShapes_39 ?_
      refine z_iload_n C rfl 2 rfl dX12_findShapes_40 ?_
      refine z_iadd C dX12_findShapes_41 ?_
      obtain ⟨x5, ex5, h⟩ := zlt_e h
      refine z_eqi C ex5 ?_
      obtain ⟨hb6, h⟩ := zck_e h
      refine z_iaload C dX12_findShapes_42 rfl rfl (by decide) (zbd_in hb6) ?_
      refine z_iconst C (v := -1) (by decide) dX12_findShapes_43 ?_
      refine z_icmp_ne C 69 (by decide) dX12_findShapes_44 (fun hc => ?_) (fun hc => ?_)
      · have h := zif_f hc h
        exact l_X12_findShapes_69 C L k9 hk9 v1 v2 I h
      · have h := zif_t hc h
        refine z_aload_n C rfl 0 rfl dX12_findShapes_47 ?_
        refine z_iload_n C rfl 1 rfl dX12_findShapes_48 ?_
        refine z_iload_n C rfl 2 rfl dX12_findShapes_49 ?_
        refine z_aload_n C rfl 0 rfl dX12_findShapes_50 ?_
        refine z_getr C zc_12 dX12_findShapes_51 33 97 120 rfl (by decide) (by decide) q_1202 rfl rfl ?_
        refine z_iload_n C rfl 1 rfl dX12_findShapes_54 ?_
        obtain ⟨hb7, h⟩ := zck_e h
        refine z_iaload C dX12_findShapes_55 rfl rfl (by decide) (zbd_in hb7) ?_
        obtain ⟨I9, hg8, h⟩ := zb1_e h
        refine z_callV C zc_12 rfl (by decide) dX12_findShapes_56 yy_X12_flood (c_X12_flood C.2.2.2.2.1  v1 v2 (I 120 v1.toNatClampNeg) I L hg8) q_1469 q_1471 q_63 (by decide) (by decide) rfl rfl (Nat.le_of_ble_eq_true rfl) ⟨Nat.le_refl _, Nat.le_refl _, Nat.le_refl _, Nat.le_refl _⟩ ?_
        refine z_aload_n C rfl 0 rfl dX12_findShapes_59 ?_
        refine z_getr C zc_12 dX12_findShapes_60 33 97 120 rfl (by decide) (by decide) q_1202 rfl rfl ?_
        refine z_iload_n C rfl 1 rfl dX12_findShapes_63 ?_
        refine z_dup2_11 C rfl rfl dX12_findShapes_64 ?_
        obtain ⟨hb10, h⟩ := zck_e h
        refine z_iaload C dX12_findShapes_65 rfl rfl (by decide) (zbd_in hb10) ?_
        refine z_iconst C (v := 1) (by decide) dX12_findShapes_66 ?_
        refine z_iadd C dX12_findShapes_67 ?_
        obtain ⟨x11, ex11, h⟩ := zlt_e h
        refine z_eqi C ex11 ?_
        obtain ⟨hb12, h⟩ := zck_e h
        refine z_iastore C dX12_findShapes_68 rfl rfl (by decide) (zbd_in hb12) ?_
        obtain ⟨I13, eI13, h⟩ := zlt_e h
        refine z_eqI C eI13 ?_
        exact l_X12_findShapes_69 C L k9 hk9 v1 v2 I13 h
set_option maxHeartbeats 4000000 in
set_option maxRecDepth 100000 in
theorem L_X12_findShapes_9 {r : zI} (C : zC p l e R s m args below meth c s0 a0 d cy B0 yX12_findShapes.cls cX12_findShapes 3 none bc bs bc bs 3 74 []) (L : zL) (v1 : Int32) (v2 : Int32) (I : zI) (h : zlp3 (f_X12_findShapes_9) zF v1 v2 I = some r) : zG p l e R s m args below meth c d cy B0 3 bc bs (zQ below s args d cy B0 bc bs (.inl none) zSH zKn bc bs r L) 9 [(0, .ref (B0 + 97)), (1, .int v1), (2, .int v2)] [] zSH zKn bc bs I L :=
 zlp3_e (fun (v1 : Int32) (v2 : Int32) (I : zI) => zG p l e R s m args below meth c d cy B0 3 bc bs (zQ below s args d cy B0 bc bs (.inl none) zSH zKn bc bs r L) 9 [(0, .ref (B0 + 97)), (1, .int v1), (2, .int v2)] [] zSH zKn bc bs I L) (fun k9 hk9 v1 v2 I h => l_X12_findShapes_9 C L k9 hk9 v1 v2 I h) zF v1 v2 I h
set_option maxHeartbeats 4000000 in
set_option maxRecDepth 100000 in
theorem c_X12_findShapes {r : zI} (hE : zE0 l s0 a0 d cy B0) (a1 : Int32) (I : zI) (L : zL) (h : f_X12_findShapes a1 I = some r) : zM l s0 d cy B0 yX12_findShapes cX12_findShapes 3 none 3 74 [.ref (B0 + 97), .int a1] zSH zKn bc bs I L (.inl none) zSH zKn bc bs r L := by
  refine z_meth yy_X12_findShapes hE (Nat.le_of_ble_eq_true rfl) (fun p e R s m args below meth c C => ?_)
  show zG p l e R s m args below meth c d cy B0 3 bc bs (zQ below s args d cy B0 bc bs (.inl none) zSH zKn bc bs r L) 0 [(0, .ref (B0 + 97)), (1, .int a1)] [] zSH zKn bc bs I L
  unfold f_X12_findShapes at h
  refine z_aload_n C rfl 0 rfl dX12_findShapes_0 ?_
  refine z_getr C zc_12 dX12_findShapes_1 33 97 120 rfl (by decide) (by decide) q_1202 rfl rfl ?_
  refine z_iload_n C rfl 1 rfl dX12_findShapes_4 ?_
  refine z_iconst C (v := 0) (by decide) dX12_findShapes_5 ?_
  obtain ⟨hb1, h⟩ := zck_e h
  refine z_iastore C dX12_findShapes_6 rfl rfl (by decide) (zbd_in hb1) ?_
  obtain ⟨I2, eI2, h⟩ := zlt_e h
  refine z_eqI C eI2 ?_
  refine z_iconst C (v := 0) (by decide) dX12_findShapes_7 ?_
  refine z_istore_n C (lv' := [(2, .int (0 : Int32)), (0, .ref (B0 + 97)), (1, .int a1)]) rfl (by decide) rfl dX12_findShapes_8 ?_
  refine z_lv [1, 2, 0] (lv' := [(0, .ref (B0 + 97)), (1, .int a1), (2, .int (0 : Int32))]) rfl ?_
  exact L_X12_findShapes_9 C L a1 (0 : Int32) I2 h
theorem q_1203 : (Cond.fieldLink "DeviceFindModel" (82 : Nat) "DeviceFindModel" "first" "[I") ∈ lw_tbl := List.mem_of_getElem? (i := 1203) (by decide +kernel)
theorem q_1488 : (Cond.code ({ cls := "DeviceFindModel", name := "nodeAt", desc := "(II)I" } : Jvm.MethodName) prog_14_method_35_code (4 : Nat) (Option.some Jvm.ClassFile.FieldType.int)) ∈ lw_tbl := List.mem_of_getElem? (i := 1488) (by decide +kernel)
theorem yy_X12_nodeAt : zY yX12_nodeAt cX12_nodeAt 4 (some .int) 2 := ⟨q_1488, q_88, by decide +kernel, by decide +kernel, by decide +kernel⟩
def f_X12_nodeAt_35 (w0 : Int32) (I : zI) : Option Int32 :=
  some w0
def f_X12_nodeAt (a1 : Int32) (a2 : Int32) (I : zI) : Option Int32 :=
  zck (zbd a1 16) (zlt ((4096 : Int32) * (I 109 a1.toNatClampNeg)) (fun x2 => zlt (x2 + a2) (fun x3 => zck (zbd x3 98304) (zlt (I 119 x3.toNatClampNeg) (fun x5 => if x5 = (-1 : Int32) then (f_X12_nodeAt_35 (-1 : Int32) I) else (zck (zbd a1 8) (zlt ((I 121 a1.toNatClampNeg) + x5) (fun x7 => f_X12_nodeAt_35 x7 I))))))))
set_option maxHeartbeats 4000000 in
set_option maxRecDepth 100000 in
theorem l_X12_nodeAt_35 {r : Int32} (C : zC p l e R s m args below meth c s0 a0 d cy B0 yX12_nodeAt.cls cX12_nodeAt 4 (some .int) bc bs bc bs 0 0 []) (L : zL) (w0 : Int32) (I : zI) (h : f_X12_nodeAt_35 w0 I = some r) : zG p l e R s m args below meth c d cy B0 4 bc bs (zQ below s args d cy B0 bc bs (.inl (some (.int r))) zSH zKn bc bs I L) 35 [] [.int w0] zSH zKn bc bs I L := by
  unfold f_X12_nodeAt_35 at h
  obtain rfl := Option.some.inj h
  exact z_iret C dX12_nodeAt_35 .int rfl rfl rfl
set_option maxHeartbeats 4000000 in
set_option maxRecDepth 100000 in
theorem c_X12_nodeAt {r : Int32} (hE : zE0 l s0 a0 d cy B0) (a1 : Int32) (a2 : Int32) (I : zI) (L : zL) (h : f_X12_nodeAt a1 a2 I = some r) : zM l s0 d cy B0 yX12_nodeAt cX12_nodeAt 4 (some .int) 0 0 [.ref (B0 + 97), .int a1, .int a2] zSH zKn bc bs I L (.inl (some (.int r))) zSH zKn bc bs I L := by
  refine z_meth yy_X12_nodeAt hE (Nat.le_of_ble_eq_true rfl) (fun p e R s m args below meth c C => ?_)
  show zG p l e R s m args below meth c d cy B0 4 bc bs (zQ below s args d cy B0 bc bs (.inl (some (.int r))) zSH zKn bc bs I L) 0 [(0, .ref (B0 + 97)), (1, .int a1), (2, .int a2)] [] zSH zKn bc bs I L
  unfold f_X12_nodeAt at h
  refine z_aload_n C rfl 0 rfl dX12_nodeAt_0 ?_
  refine z_getr C zc_12 dX12_nodeAt_1 32 97 119 rfl (by decide) (by decide) q_1201 rfl rfl ?_
  refine z_sipush C (v := 4096) (by decide) dX12_nodeAt_4 ?_
  refine z_aload_n C rfl 0 rfl dX12_nodeAt_7 ?_
  refine z_getr C zc_12 dX12_nodeAt_8 20 97 109 rfl (by decide) (by decide) q_1189 rfl rfl ?_
  refine z_iload_n C rfl 1 rfl dX12_nodeAt_11 ?_
  obtain ⟨hb1, h⟩ := zck_e h
  refine z_iaload C dX12_nodeAt_12 rfl rfl (by decide) (zbd_in hb1) ?_
  refine z_imul C dX12_nodeAt_13 ?_
  obtain ⟨x2, ex2, h⟩ := zlt_e h
  refine z_eqi C ex2 ?_
  refine z_iload_n C rfl 2 rfl dX12_nodeAt_14 ?_
  refine z_iadd C dX12_nodeAt_15 ?_
  obtain ⟨x3, ex3, h⟩ := zlt_e h
  refine z_eqi C ex3 ?_
  obtain ⟨hb4, h⟩ := zck_e h
  refine z_iaload C dX12_nodeAt_16 rfl rfl (by decide) (zbd_in hb4) ?_
  obtain ⟨x5, ex5, h⟩ := zlt_e h
  refine z_eqi C ex5 ?_
  refine z_istore_n C (lv' := [(3, .int x5), (0, .ref (B0 + 97)), (1, .int a1), (2, .int a2)]) rfl (by decide) rfl dX12_nodeAt_17 ?_
  refine z_iload_n C rfl 0 rfl dX12_nodeAt_18 ?_
  refine z_iconst C (v := -1) (by decide) dX12_nodeAt_19 ?_
  refine z_icmp_ne C 27 (by decide) dX12_nodeAt_20 (fun hc => ?_) (fun hc => ?_)
  · have h := zif_f hc h
    refine z_aload_n C rfl 1 rfl dX12_nodeAt_27 ?_
    refine z_getr C zc_12 dX12_nodeAt_28 34 97 121 rfl (by decide) (by decide) q_1203 rfl rfl ?_
    refine z_iload_n C rfl 2 rfl dX12_nodeAt_31 ?_
    obtain ⟨hb6, h⟩ := zck_e h
    refine z_iaload C dX12_nodeAt_32 rfl rfl (by decide) (zbd_in hb6) ?_
    refine z_iload_n C rfl 0 rfl dX12_nodeAt_33 ?_
    refine z_iadd C dX12_nodeAt_34 ?_
    obtain ⟨x7, ex7, h⟩ := zlt_e h
    refine z_eqi C ex7 ?_
    refine z_lv [] (lv' := []) rfl ?_
    exact l_X12_nodeAt_35 C L x7 I h
  · have h := zif_t hc h
    refine z_iconst C (v := -1) (by decide) dX12_nodeAt_23 ?_
    refine z_goto C 35 (by decide) dX12_nodeAt_24 ?_
    refine z_lv [] (lv' := []) rfl ?_
    exact l_X12_nodeAt_35 C L (-1 : Int32) I h
theorem q_66 : Cond.selects "DeviceFindModel" ⟨"DeviceFindModel", "nodeAt", "(II)I"⟩ ⟨"DeviceFindModel", "nodeAt", "(II)I"⟩ ∈ lw_tbl := List.mem_of_getElem? (i := 66) (by decide +kernel)
theorem q_1205 : (Cond.fieldLink "DeviceFindModel" (86 : Nat) "DeviceFindModel" "net" "[I") ∈ lw_tbl := List.mem_of_getElem? (i := 1205) (by decide +kernel)
theorem q_1224 : (Cond.fieldLink "DeviceFindModel" (113 : Nat) "DeviceFindModel" "least" "[I") ∈ lw_tbl := List.mem_of_getElem? (i := 1224) (by decide +kernel)
theorem q_1483 : (Cond.code ({ cls := "DeviceFindModel", name := "lower", desc := "(I)Z" } : Jvm.MethodName) prog_14_method_36_code (9 : Nat) (Option.some Jvm.ClassFile.FieldType.boolean)) ∈ lw_tbl := List.mem_of_getElem? (i := 1483) (by decide +kernel)
theorem q_1484 : (Cond.constant "DeviceFindModel" (267 : Nat) (40000 : Int32)) ∈ lw_tbl := List.mem_of_getElem? (i := 1484) (by decide +kernel)
theorem q_1485 : (Cond.methodLink "DeviceFindModel" (268 : Nat) ({ cls := "DeviceFindModel", name := "nodeAt", desc := "(II)I" } : Jvm.MethodName)) ∈ lw_tbl := List.mem_of_getElem? (i := 1485) (by decide +kernel)
theorem q_1487 : (Cond.instanceMethod ({ cls := "DeviceFindModel", name := "nodeAt", desc := "(II)I" } : Jvm.MethodName)) ∈ lw_tbl := List.mem_of_getElem? (i := 1487) (by decide +kernel)
theorem yy_X12_lower : zY yX12_lower cX12_lower 9 (some .boolean) 1 := ⟨q_1483, q_88, by decide +kernel, by decide +kernel, by decide +kernel⟩
def f_X12_lower_210 (k48 : Int32 → Int32 → Int32 → Int32 → zI → Option (Int32 × zI)) (k57 : Int32 → Int32 → Int32 → Int32 → Int32 → zI → Option (Int32 × zI)) (k79 : Int32 → Int32 → Int32 → Int32 → Int32 → Int32 → Int32 → zI → Option (Int32 × zI)) (v1 : Int32) (v2 : Int32) (v3 : Int32) (v4 : Int32) (v5 : Int32) (v6 : Int32) (v7 : Int32) (I : zI) : Option (Int32 × zI) :=
  zlt (v7 + 1) (fun x28 => k79 v1 v2 v3 v4 v5 v6 x28 I)
def f_X12_lower_173 (k48 : Int32 → Int32 → Int32 → Int32 → zI → Option (Int32 × zI)) (k57 : Int32 → Int32 → Int32 → Int32 → Int32 → zI → Option (Int32 × zI)) (k79 : Int32 → Int32 → Int32 → Int32 → Int32 → Int32 → Int32 → zI → Option (Int32 × zI)) (v1 : Int32) (v2 : Int32) (v3 : Int32) (v4 : Int32) (v5 : Int32) (v6 : Int32) (v7 : Int32) (w1 : Int32) (w2 : Int32) (I : zI) : Option (Int32 × zI) :=
  zck (zbd w1 4096) (zlt (zu I 131 w1.toNatClampNeg w2) (fun I30 => f_X12_lower_210 k48 k57 k79 v1 v2 v3 v4 v5 v6 v7 I30))
def f_X12_lower_112 (k48 : Int32 → Int32 → Int32 → Int32 → zI → Option (Int32 × zI)) (k57 : Int32 → Int32 → Int32 → Int32 → Int32 → zI → Option (Int32 × zI)) (k79 : Int32 → Int32 → Int32 → Int32 → Int32 → Int32 → Int32 → zI → Option (Int32 × zI)) (v1 : Int32) (v2 : Int32) (v3 : Int32) (v4 : Int32) (v5 : Int32) (v6 : Int32) (v7 : Int32) (w1 : Int32) (I : zI) : Option (Int32 × zI) :=
  zb1 (f_X12_nodeAt w1 v5 I) (fun x18 => if x18 = (-1 : Int32) then (f_X12_lower_210 k48 k57 k79 v1 v2 v3 v4 v5 v6 v7 I) else (if v4 = 0 then (zck (zbd x18 32768) (zck (zbd v6 4096) (if (I 131 v6.toNatClampNeg) ≤ (I 122 x18.toNatClampNeg) then (zck (zbd v6 4096) (f_X12_lower_173 k48 k57 k79 v1 v2 v3 v4 v5 v6 v7 v6 (I 131 v6.toNatClampNeg) I)) else (zck (zbd x18 32768) (f_X12_lower_173 k48 k57 k79 v1 v2 v3 v4 v5 v6 v7 v6 (I 122 x18.toNatClampNeg) I))))) else (zck (zbd x18 32768) (zck (zbd v6 4096) (if (I 122 x18.toNatClampNeg) ≤ (I 131 v6.toNatClampNeg) then (f_X12_lower_210 k48 k57 k79 v1 v2 v3 v4 v5 v6 v7 I) else (zck (zbd v6 4096) (zck (zbd x18 32768) (zlt (zu I 122 x18.toNatClampNeg (I 131 v6.toNatClampNeg)) (fun I23 => f_X12_lower_210 k48 k57 k79 v1 v2 (1 : Int32) v4 v5 v6 v7 I23)))))))))
def f_X12_lower_216 (k48 : Int32 → Int32 → Int32 → Int32 → zI → Option (Int32 × zI)) (k57 : Int32 → Int32 → Int32 → Int32 → Int32 → zI → Option (Int32 × zI)) (v1 : Int32) (v2 : Int32) (v3 : Int32) (v4 : Int32) (v5 : Int32) (I : zI) : Option (Int32 × zI) :=
  zlt (v5 + 1) (fun x16 => k57 v1 v2 v3 v4 x16 I)
def f_X12_lower_79 (k48 : Int32 → Int32 → Int32 → Int32 → zI → Option (Int32 × zI)) (k57 : Int32 → Int32 → Int32 → Int32 → Int32 → zI → Option (Int32 × zI)) (k79 : Int32 → Int32 → Int32 → Int32 → Int32 → Int32 → Int32 → zI → Option (Int32 × zI)) (v1 : Int32) (v2 : Int32) (v3 : Int32) (v4 : Int32) (v5 : Int32) (v6 : Int32) (v7 : Int32) (I : zI) : Option (Int32 × zI) :=
  if (2 : Int32) ≤ v7 then (f_X12_lower_216 k48 k57 v1 v2 v3 v4 v5 I) else (if v6 = (-1 : Int32) then (f_X12_lower_216 k48 k57 v1 v2 v3 v4 v5 I) else (if v7 = 0 then (zck (zbd v1 32) (f_X12_lower_112 k48 k57 k79 v1 v2 v3 v4 v5 v6 v7 (I 110 v1.toNatClampNeg) I)) else (zck (zbd v1 32) (f_X12_lower_112 k48 k57 k79 v1 v2 v3 v4 v5 v6 v7 (I 111 v1.toNatClampNeg) I))))
def f_X12_lower_57 (k48 : Int32 → Int32 → Int32 → Int32 → zI → Option (Int32 × zI)) (k57 : Int32 → Int32 → Int32 → Int32 → Int32 → zI → Option (Int32 × zI)) (v1 : Int32) (v2 : Int32) (v3 : Int32) (v4 : Int32) (v5 : Int32) (I : zI) : Option (Int32 × zI) :=
  if (4096 : Int32) ≤ v5 then (zlt (v4 + 1) (fun x10 => k48 v1 v2 v3 x10 I)) else (zlt (v2 + v5) (fun x11 => zck (zbd x11 98304) (zlt (I 119 x11.toNatClampNeg) (fun x13 => zlp8 (f_X12_lower_79 k48 k57) zF v1 v2 v3 v4 v5 x13 (0 : Int32) I))))
def f_X12_lower_48 (k48 : Int32 → Int32 → Int32 → Int32 → zI → Option (Int32 × zI)) (v1 : Int32) (v2 : Int32) (v3 : Int32) (v4 : Int32) (I : zI) : Option (Int32 × zI) :=
  if (2 : Int32) ≤ v4 then (zck (zbo v3) (some (v3, I))) else (zlp6 (f_X12_lower_57 k48) zF v1 v2 v3 v4 (0 : Int32) I)
def f_X12_lower_13 (k13 : Int32 → Int32 → Int32 → zI → Option (Int32 × zI)) (v1 : Int32) (v2 : Int32) (v3 : Int32) (I : zI) : Option (Int32 × zI) :=
  zck (zbd v1 32) (zlt (I 112 v1.toNatClampNeg) (fun x4 => zck (zbd x4 24) (if (I 120 x4.toNatClampNeg) ≤ v3 then (zlp5 (f_X12_lower_48) zF v1 v2 (0 : Int32) (0 : Int32) I) else (zck (zbd v3 4096) (zlt (zu I 131 v3.toNatClampNeg (40000 : Int32)) (fun I7 => zlt (v3 + 1) (fun x8 => k13 v1 v2 x8 I7)))))))
def f_X12_lower (a1 : Int32) (I : zI) : Option (Int32 × zI) :=
  zck (zbd a1 32) (zlt ((4096 : Int32) * (I 112 a1.toNatClampNeg)) (fun x2 => zlp4 (f_X12_lower_13) zF a1 x2 (0 : Int32) I))
set_option maxHeartbeats 4000000 in
set_option maxRecDepth 100000 in
theorem l_X12_lower_210 {r : Int32 × zI} (C : zC p l e R s m args below meth c s0 a0 d cy B0 yX12_lower.cls cX12_lower 9 (some .boolean) bc bs bc bs 1 23 []) (L : zL) (k48 : Int32 → Int32 → Int32 → Int32 → zI → Option (Int32 × zI)) (hk48 : ∀ (v1 : Int32) (v2 : Int32) (v3 : Int32) (v4 : Int32) (I : zI), k48 v1 v2 v3 v4 I = some r → zG p l e R s m args below meth c d cy B0 9 bc bs (zQ below s args d cy B0 bc bs (.inl (some (.int r.1))) zSH zKn bc bs r.2 L) 48 [(0, .ref (B0 + 97)), (1, .int v1), (2, .int v2), (3, .int v3), (4, .int v4)] [] zSH zKn bc bs I L) (k57 : Int32 → Int32 → Int32 → Int32 → Int32 → zI → Option (Int32 × zI)) (hk57 : ∀ (v1 : Int32) (v2 : Int32) (v3 : Int32) (v4 : Int32) (v5 : Int32) (I : zI), k57 v1 v2 v3 v4 v5 I = some r → zG p l e R s m args below meth c d cy B0 9 bc bs (zQ below s args d cy B0 bc bs (.inl (some (.int r.1))) zSH zKn bc bs r.2 L) 57 [(0, .ref (B0 + 97)), (1, .int v1), (2, .int v2), (3, .int v3), (4, .int v4), (5, .int v5)] [] zSH zKn bc bs I L) (k79 : Int32 → Int32 → Int32 → Int32 → Int32 → Int32 → Int32 → zI → Option (Int32 × zI)) (hk79 : ∀ (v1 : Int32) (v2 : Int32) (v3 : Int32) (v4 : Int32) (v5 : Int32) (v6 : Int32) (v7 : Int32) (I : zI), k79 v1 v2 v3 v4 v5 v6 v7 I = some r → zG p l e R s m args below meth c d cy B0 9 bc bs (zQ below s args d cy B0 bc bs (.inl (some (.int r.1))) zSH zKn bc bs r.2 L) 79 [(0, .ref (B0 + 97)), (1, .int v1), (2, .int v2), (3, .int v3), (4, .int v4), (5, .int v5), (6, .int v6), (7, .int v7)] [] zSH zKn bc bs I L) (v1 : Int32) (v2 : Int32) (v3 : Int32) (v4 : Int32) (v5 : Int32) (v6 : Int32) (v7 : Int32) (I : zI) (h : f_X12_lower_210 k48 k57 k79 v1 v2 v3 v4 v5 v6 v7 I = some r) : zG p l e R s m args below meth c d cy B0 9 bc bs (zQ below s args d cy B0 bc bs (.inl (some (.int r.1))) zSH zKn bc bs r.2 L) 210 [(0, .ref (B0 + 97)), (1, .int v1), (2, .int v2), (3, .int v3), (4, .int v4), (5, .int v5), (6, .int v6), (7, .int v7)] [] zSH zKn bc bs I L := by
  unfold f_X12_lower_210 at h
  obtain ⟨x28, ex28, h⟩ := zlt_e h
  refine z_iinc C (j := 7) (v := x28) (lv' := [(7, .int x28), (0, .ref (B0 + 97)), (1, .int v1), (2, .int v2), (3, .int v3), (4, .int v4), (5, .int v5), (6, .int v6)]) rfl (by rw [ex28]; rfl) (by decide) rfl dX12_lower_210 ?_
  refine z_goto C 79 (by decide) dX12_lower_213 ?_
  refine z_lv [1, 2, 3, 4, 5, 6, 7, 0] (lv' := [(0, .ref (B0 + 97)), (1, .int v1), (2, .int v2), (3, .int v3), (4, .int v4), (5, .int v5), (6, .int v6), (7, .int x28)]) rfl ?_
  exact hk79 v1 v2 v3 v4 v5 v6 x28 I h
set_option maxHeartbeats 4000000 in
set_option maxRecDepth 100000 in
theorem l_X12_lower_173 {r : Int32 × zI} (C : zC p l e R s m args below meth c s0 a0 d cy B0 yX12_lower.cls cX12_lower 9 (some .boolean) bc bs bc bs 1 23 []) (L : zL) (k48 : Int32 → Int32 → Int32 → Int32 → zI → Option (Int32 × zI)) (hk48 : ∀ (v1 : Int32) (v2 : Int32) (v3 : Int32) (v4 : Int32) (I : zI), k48 v1 v2 v3 v4 I = some r → zG p l e R s m args below meth c d cy B0 9 bc bs (zQ below s args d cy B0 bc bs (.inl (some (.int r.1))) zSH zKn bc bs r.2 L) 48 [(0, .ref (B0 + 97)), (1, .int v1), (2, .int v2), (3, .int v3), (4, .int v4)] [] zSH zKn bc bs I L) (k57 : Int32 → Int32 → Int32 → Int32 → Int32 → zI → Option (Int32 × zI)) (hk57 : ∀ (v1 : Int32) (v2 : Int32) (v3 : Int32) (v4 : Int32) (v5 : Int32) (I : zI), k57 v1 v2 v3 v4 v5 I = some r → zG p l e R s m args below meth c d cy B0 9 bc bs (zQ below s args d cy B0 bc bs (.inl (some (.int r.1))) zSH zKn bc bs r.2 L) 57 [(0, .ref (B0 + 97)), (1, .int v1), (2, .int v2), (3, .int v3), (4, .int v4), (5, .int v5)] [] zSH zKn bc bs I L) (k79 : Int32 → Int32 → Int32 → Int32 → Int32 → Int32 → Int32 → zI → Option (Int32 × zI)) (hk79 : ∀ (v1 : Int32) (v2 : Int32) (v3 : Int32) (v4 : Int32) (v5 : Int32) (v6 : Int32) (v7 : Int32) (I : zI), k79 v1 v2 v3 v4 v5 v6 v7 I = some r → zG p l e R s m args below meth c d cy B0 9 bc bs (zQ below s args d cy B0 bc bs (.inl (some (.int r.1))) zSH zKn bc bs r.2 L) 79 [(0, .ref (B0 + 97)), (1, .int v1), (2, .int v2), (3, .int v3), (4, .int v4), (5, .int v5), (6, .int v6), (7, .int v7)] [] zSH zKn bc bs I L) (v1 : Int32) (v2 : Int32) (v3 : Int32) (v4 : Int32) (v5 : Int32) (v6 : Int32) (v7 : Int32) (w1 : Int32) (w2 : Int32) (I : zI) (h : f_X12_lower_173 k48 k57 k79 v1 v2 v3 v4 v5 v6 v7 w1 w2 I = some r) : zG p l e R s m args below meth c d cy B0 9 bc bs (zQ below s args d cy B0 bc bs (.inl (some (.int r.1))) zSH zKn bc bs r.2 L) 173 [(0, .ref (B0 + 97)), (1, .int v1), (2, .int v2), (3, .int v3), (4, .int v4), (5, .int v5), (6, .int v6), (7, .int v7)] [.int w2, .int w1, .ref (B0 + 131)] zSH zKn bc bs I L := by
  unfold f_X12_lower_173 at h
  obtain ⟨hb29, h⟩ := zck_e h
  refine z_iastore C dX12_lower_173 rfl rfl (by decide) (zbd_in hb29) ?_
  obtain ⟨I30, eI30, h⟩ := zlt_e h
  refine z_eqI C eI30 ?_
  refine z_goto C 210 (by decide) dX12_lower_174 ?_
  exact l_X12_lower_210 C L k48 hk48 k57 hk57 k79 hk79 v1 v2 v3 v4 v5 v6 v7 I30 h
set_option maxHeartbeats 4000000 in
set_option maxRecDepth 100000 in
theorem l_X12_lower_112 {r : Int32 × zI} (C : zC p l e R s m args below meth c s0 a0 d cy B0 yX12_lower.cls cX12_lower 9 (some .boolean) bc bs bc bs 1 23 []) (L : zL) (k48 : Int32 → Int32 → Int32 → Int32 → zI → Option (Int32 × zI)) (hk48 : ∀ (v1 : Int32) (v2 : Int32) (v3 : Int32) (v4 : Int32) (I : zI), k48 v1 v2 v3 v4 I = some r → zG p l e R s m args below meth c d cy B0 9 bc bs (zQ below s args d cy B0 bc bs (.inl (some (.int r.1))) zSH zKn bc bs r.2 L) 48 [(0, .ref (B0 + 97)), (1, .int v1), (2, .int v2), (3, .int v3), (4, .int v4)] [] zSH zKn bc bs I L) (k57 : Int32 → Int32 → Int32 → Int32 → Int32 → zI → Option (Int32 × zI)) (hk57 : ∀ (v1 : Int32) (v2 : Int32) (v3 : Int32) (v4 : Int32) (v5 : Int32) (I : zI), k57 v1 v2 v3 v4 v5 I = some r → zG p l e R s m args below meth c d cy B0 9 bc bs (zQ below s args d cy B0 bc bs (.inl (some (.int r.1))) zSH zKn bc bs r.2 L) 57 [(0, .ref (B0 + 97)), (1, .int v1), (2, .int v2), (3, .int v3), (4, .int v4), (5, .int v5)] [] zSH zKn bc bs I L) (k79 : Int32 → Int32 → Int32 → Int32 → Int32 → Int32 → Int32 → zI → Option (Int32 × zI)) (hk79 : ∀ (v1 : Int32) (v2 : Int32) (v3 : Int32) (v4 : Int32) (v5 : Int32) (v6 : Int32) (v7 : Int32) (I : zI), k79 v1 v2 v3 v4 v5 v6 v7 I = some r → zG p l e R s m args below meth c d cy B0 9 bc bs (zQ below s args d cy B0 bc bs (.inl (some (.int r.1))) zSH zKn bc bs r.2 L) 79 [(0, .ref (B0 + 97)), (1, .int v1), (2, .int v2), (3, .int v3), (4, .int v4), (5, .int v5), (6, .int v6), (7, .int v7)] [] zSH zKn bc bs I L) (v1 : Int32) (v2 : Int32) (v3 : Int32) (v4 : Int32) (v5 : Int32) (v6 : Int32) (v7 : Int32) (w1 : Int32) (I : zI) (h : f_X12_lower_112 k48 k57 k79 v1 v2 v3 v4 v5 v6 v7 w1 I = some r) : zG p l e R s m args below meth c d cy B0 9 bc bs (zQ below s args d cy B0 bc bs (.inl (some (.int r.1))) zSH zKn bc bs r.2 L) 112 [(0, .ref (B0 + 97)), (1, .int v1), (2, .int v2), (3, .int v3), (4, .int v4), (5, .int v5), (6, .int v6), (7, .int v7)] [.int w1, .ref (B0 + 97)] zSH zKn bc bs I L := by
  unfold f_X12_lower_112 at h
  refine z_iload C 5 rfl dX12_lower_112 ?_
  obtain ⟨x18, hg17, h⟩ := zb1_e h
  refine z_callV C zc_12 rfl (by decide) dX12_lower_114 yy_X12_nodeAt (c_X12_nodeAt C.2.2.2.2.1  w1 v5 I L hg17) q_1485 q_1487 q_66 (by decide) (by decide) rfl rfl (Nat.le_of_ble_eq_true rfl) ⟨Nat.le_refl _, Nat.le_refl _, Nat.le_refl _, Nat.le_refl _⟩ ?_
  refine z_istore C (lv' := [(8, .int x18), (0, .ref (B0 + 97)), (1, .int v1), (2, .int v2), (3, .int v3), (4, .int v4), (5, .int v5), (6, .int v6), (7, .int v7)]) (by decide) rfl dX12_lower_117 ?_
  refine z_iload C 0 rfl dX12_lower_119 ?_
  refine z_iconst C (v := -1) (by decide) dX12_lower_121 ?_
  refine z_icmp_ne C 128 (by decide) dX12_lower_122 (fun hc => ?_) (fun hc => ?_)
  · have h := zif_f hc h
    refine z_iload C 5 rfl dX12_lower_128 ?_
    refine z_if_ne C 177 (by decide) dX12_lower_130 (fun hc => ?_) (fun hc => ?_)
    · have h := zif_f hc h
      refine z_aload_n C rfl 1 rfl dX12_lower_177 ?_
      refine z_getr C zc_12 dX12_lower_178 36 97 122 rfl (by decide) (by decide) q_1205 rfl rfl ?_
      refine z_iload C 0 rfl dX12_lower_181 ?_
      obtain ⟨hb19, h⟩ := zck_e h
      refine z_iaload C dX12_lower_183 rfl rfl (by decide) (zbd_in hb19) ?_
      refine z_aload_n C rfl 1 rfl dX12_lower_184 ?_
      refine z_getr C zc_12 dX12_lower_185 55 97 131 rfl (by decide) (by decide) q_1224 rfl rfl ?_
      refine z_iload C 7 rfl dX12_lower_188 ?_
      obtain ⟨hb20, h⟩ := zck_e h
      refine z_iaload C dX12_lower_190 rfl rfl (by decide) (zbd_in hb20) ?_
      refine z_icmp_le C 210 (by decide) dX12_lower_191 (fun hc => ?_) (fun hc => ?_)
      · have h := zif_t hc h
        refine z_lv [1, 2, 3, 4, 5, 6, 7, 8] (lv' := [(0, .ref (B0 + 97)), (1, .int v1), (2, .int v2), (3, .int v3), (4, .int v4), (5, .int v5), (6, .int v6), (7, .int v7)]) rfl ?_
        exact l_X12_lower_210 C L k48 hk48 k57 hk57 k79 hk79 v1 v2 v3 v4 v5 v6 v7 I h
      · have h := zif_f hc h
        refine z_aload_n C rfl 1 rfl dX12_lower_194 ?_
        refine z_getr C zc_12 dX12_lower_195 36 97 122 rfl (by decide) (by decide) q_1205 rfl rfl ?_
        refine z_iload C 0 rfl dX12_lower_198 ?_
        refine z_aload_n C rfl 1 rfl dX12_lower_200 ?_
        refine z_getr C zc_12 dX12_lower_201 55 97 131 rfl (by decide) (by decide) q_1224 rfl rfl ?_
        refine z_iload C 7 rfl dX12_lower_204 ?_
        obtain ⟨hb21, h⟩ := zck_e h
        refine z_iaload C dX12_lower_206 rfl rfl (by decide) (zbd_in hb21) ?_
        obtain ⟨hb22, h⟩ := zck_e h
        refine z_iastore C dX12_lower_207 rfl rfl (by decide) (zbd_in hb22) ?_
        obtain ⟨I23, eI23, h⟩ := zlt_e h
        refine z_eqI C eI23 ?_
        refine z_iconst C (v := 1) (by decide) dX12_lower_208 ?_
        refine z_istore_n C (lv' := [(3, .int (1 : Int32)), (8, .int x18), (0, .ref (B0 + 97)), (1, .int v1), (2, .int v2), (4, .int v4), (5, .int v5), (6, .int v6), (7, .int v7)]) rfl (by decide) rfl dX12_lower_209 ?_
        refine z_lv [2, 3, 4, 0, 5, 6, 7, 8] (lv' := [(0, .ref (B0 + 97)), (1, .int v1), (2, .int v2), (3, .int (1 : Int32)), (4, .int v4), (5, .int v5), (6, .int v6), (7, .int v7)]) rfl ?_
        exact l_X12_lower_210 C L k48 hk48 k57 hk57 k79 hk79 v1 v2 (1 : Int32) v4 v5 v6 v7 I23 h
    · have h := zif_t hc h
      refine z_aload_n C rfl 1 rfl dX12_lower_133 ?_
      refine z_getr C zc_12 dX12_lower_134 55 97 131 rfl (by decide) (by decide) q_1224 rfl rfl ?_
      refine z_iload C 7 rfl dX12_lower_137 ?_
      refine z_aload_n C rfl 1 rfl dX12_lower_139 ?_
      refine z_getr C zc_12 dX12_lower_140 36 97 122 rfl (by decide) (by decide) q_1205 rfl rfl ?_
      refine z_iload C 0 rfl dX12_lower_143 ?_
      obtain ⟨hb24, h⟩ := zck_e h
      refine z_iaload C dX12_lower_145 rfl rfl (by decide) (zbd_in hb24) ?_
      refine z_aload_n C rfl 1 rfl dX12_lower_146 ?_
      refine z_getr C zc_12 dX12_lower_147 55 97 131 rfl (by decide) (by decide) q_1224 rfl rfl ?_
      refine z_iload C 7 rfl dX12_lower_150 ?_
      obtain ⟨hb25, h⟩ := zck_e h
      refine z_iaload C dX12_lower_152 rfl rfl (by decide) (zbd_in hb25) ?_
      refine z_icmp_ge C 166 (by decide) dX12_lower_153 (fun hc => ?_) (fun hc => ?_)
      · have h := zif_t hc h
        refine z_aload_n C rfl 1 rfl dX12_lower_166 ?_
        refine z_getr C zc_12 dX12_lower_167 55 97 131 rfl (by decide) (by decide) q_1224 rfl rfl ?_
        refine z_iload C 7 rfl dX12_lower_170 ?_
        obtain ⟨hb26, h⟩ := zck_e h
        refine z_iaload C dX12_lower_172 rfl rfl (by decide) (zbd_in hb26) ?_
        refine z_lv [1, 2, 3, 4, 5, 6, 7, 8] (lv' := [(0, .ref (B0 + 97)), (1, .int v1), (2, .int v2), (3, .int v3), (4, .int v4), (5, .int v5), (6, .int v6), (7, .int v7)]) rfl ?_
        exact l_X12_lower_173 C L k48 hk48 k57 hk57 k79 hk79 v1 v2 v3 v4 v5 v6 v7 v6 (I 131 v6.toNatClampNeg) I h
      · have h := zif_f hc h
        refine z_aload_n C rfl 1 rfl dX12_lower_156 ?_
        refine z_getr C zc_12 dX12_lower_157 36 97 122 rfl (by decide) (by decide) q_1205 rfl rfl ?_
        refine z_iload C 0 rfl dX12_lower_160 ?_
        obtain ⟨hb27, h⟩ := zck_e h
        refine z_iaload C dX12_lower_162 rfl rfl (by decide) (zbd_in hb27) ?_
        refine z_goto C 173 (by decide) dX12_lower_163 ?_
        refine z_lv [1, 2, 3, 4, 5, 6, 7, 8] (lv' := [(0, .ref (B0 + 97)), (1, .int v1), (2, .int v2), (3, .int v3), (4, .int v4), (5, .int v5), (6, .int v6), (7, .int v7)]) rfl ?_
        exact l_X12_lower_173 C L k48 hk48 k57 hk57 k79 hk79 v1 v2 v3 v4 v5 v6 v7 v6 (I 122 x18.toNatClampNeg) I h
  · have h := zif_t hc h
    refine z_goto C 210 (by decide) dX12_lower_125 ?_
    refine z_lv [1, 2, 3, 4, 5, 6, 7, 8] (lv' := [(0, .ref (B0 + 97)), (1, .int v1), (2, .int v2), (3, .int v3), (4, .int v4), (5, .int v5), (6, .int v6), (7, .int v7)]) rfl ?_
    exact l_X12_lower_210 C L k48 hk48 k57 hk57 k79 hk79 v1 v2 v3 v4 v5 v6 v7 I h
set_option maxHeartbeats 4000000 in
set_option maxRecDepth 100000 in
theorem l_X12_lower_216 {r : Int32 × zI} (C : zC p l e R s m args below meth c s0 a0 d cy B0 yX12_lower.cls cX12_lower 9 (some .boolean) bc bs bc bs 1 23 []) (L : zL) (k48 : Int32 → Int32 → Int32 → Int32 → zI → Option (Int32 × zI)) (hk48 : ∀ (v1 : Int32) (v2 : Int32) (v3 : Int32) (v4 : Int32) (I : zI), k48 v1 v2 v3 v4 I = some r → zG p l e R s m args below meth c d cy B0 9 bc bs (zQ below s args d cy B0 bc bs (.inl (some (.int r.1))) zSH zKn bc bs r.2 L) 48 [(0, .ref (B0 + 97)), (1, .int v1), (2, .int v2), (3, .int v3), (4, .int v4)] [] zSH zKn bc bs I L) (k57 : Int32 → Int32 → Int32 → Int32 → Int32 → zI → Option (Int32 × zI)) (hk57 : ∀ (v1 : Int32) (v2 : Int32) (v3 : Int32) (v4 : Int32) (v5 : Int32) (I : zI), k57 v1 v2 v3 v4 v5 I = some r → zG p l e R s m args below meth c d cy B0 9 bc bs (zQ below s args d cy B0 bc bs (.inl (some (.int r.1))) zSH zKn bc bs r.2 L) 57 [(0, .ref (B0 + 97)), (1, .int v1), (2, .int v2), (3, .int v3), (4, .int v4), (5, .int v5)] [] zSH zKn bc bs I L) (v1 : Int32) (v2 : Int32) (v3 : Int32) (v4 : Int32) (v5 : Int32) (I : zI) (h : f_X12_lower_216 k48 k57 v1 v2 v3 v4 v5 I = some r) : zG p l e R s m args below meth c d cy B0 9 bc bs (zQ below s args d cy B0 bc bs (.inl (some (.int r.1))) zSH zKn bc bs r.2 L) 216 [(0, .ref (B0 + 97)), (1, .int v1), (2, .int v2), (3, .int v3), (4, .int v4), (5, .int v5)] [] zSH zKn bc bs I L := by
  unfold f_X12_lower_216 at h
  obtain ⟨x16, ex16, h⟩ := zlt_e h
  refine z_iinc C (j := 5) (v := x16) (lv' := [(5, .int x16), (0, .ref (B0 + 97)), (1, .int v1), (2, .int v2), (3, .int v3), (4, .int v4)]) rfl (by rw [ex16]; rfl) (by decide) rfl dX12_lower_216 ?_
  refine z_goto C 57 (by decide) dX12_lower_219 ?_
  refine z_lv [1, 2, 3, 4, 5, 0] (lv' := [(0, .ref (B0 + 97)), (1, .int v1), (2, .int v2), (3, .int v3), (4, .int v4), (5, .int x16)]) rfl ?_
  exact hk57 v1 v2 v3 v4 x16 I h
set_option maxHeartbeats 4000000 in
set_option maxRecDepth 100000 in
theorem l_X12_lower_79 {r : Int32 × zI} (C : zC p l e R s m args below meth c s0 a0 d cy B0 yX12_lower.cls cX12_lower 9 (some .boolean) bc bs bc bs 1 23 []) (L : zL) (k48 : Int32 → Int32 → Int32 → Int32 → zI → Option (Int32 × zI)) (hk48 : ∀ (v1 : Int32) (v2 : Int32) (v3 : Int32) (v4 : Int32) (I : zI), k48 v1 v2 v3 v4 I = some r → zG p l e R s m args below meth c d cy B0 9 bc bs (zQ below s args d cy B0 bc bs (.inl (some (.int r.1))) zSH zKn bc bs r.2 L) 48 [(0, .ref (B0 + 97)), (1, .int v1), (2, .int v2), (3, .int v3), (4, .int v4)] [] zSH zKn bc bs I L) (k57 : Int32 → Int32 → Int32 → Int32 → Int32 → zI → Option (Int32 × zI)) (hk57 : ∀ (v1 : Int32) (v2 : Int32) (v3 : Int32) (v4 : Int32) (v5 : Int32) (I : zI), k57 v1 v2 v3 v4 v5 I = some r → zG p l e R s m args below meth c d cy B0 9 bc bs (zQ below s args d cy B0 bc bs (.inl (some (.int r.1))) zSH zKn bc bs r.2 L) 57 [(0, .ref (B0 + 97)), (1, .int v1), (2, .int v2), (3, .int v3), (4, .int v4), (5, .int v5)] [] zSH zKn bc bs I L) (k79 : Int32 → Int32 → Int32 → Int32 → Int32 → Int32 → Int32 → zI → Option (Int32 × zI)) (hk79 : ∀ (v1 : Int32) (v2 : Int32) (v3 : Int32) (v4 : Int32) (v5 : Int32) (v6 : Int32) (v7 : Int32) (I : zI), k79 v1 v2 v3 v4 v5 v6 v7 I = some r → zG p l e R s m args below meth c d cy B0 9 bc bs (zQ below s args d cy B0 bc bs (.inl (some (.int r.1))) zSH zKn bc bs r.2 L) 79 [(0, .ref (B0 + 97)), (1, .int v1), (2, .int v2), (3, .int v3), (4, .int v4), (5, .int v5), (6, .int v6), (7, .int v7)] [] zSH zKn bc bs I L) (v1 : Int32) (v2 : Int32) (v3 : Int32) (v4 : Int32) (v5 : Int32) (v6 : Int32) (v7 : Int32) (I : zI) (h : f_X12_lower_79 k48 k57 k79 v1 v2 v3 v4 v5 v6 v7 I = some r) : zG p l e R s m args below meth c d cy B0 9 bc bs (zQ below s args d cy B0 bc bs (.inl (some (.int r.1))) zSH zKn bc bs r.2 L) 79 [(0, .ref (B0 + 97)), (1, .int v1), (2, .int v2), (3, .int v3), (4, .int v4), (5, .int v5), (6, .int v6), (7, .int v7)] [] zSH zKn bc bs I L := by
  unfold f_X12_lower_79 at h
  refine z_iload C 7 rfl dX12_lower_79 ?_
  refine z_iconst C (v := 2) (by decide) dX12_lower_81 ?_
  refine z_icmp_ge C 216 (by decide) dX12_lower_82 (fun hc => ?_) (fun hc => ?_)
  · have h := zif_t hc h
    refine z_lv [0, 1, 2, 3, 4, 5] (lv' := [(0, .ref (B0 + 97)), (1, .int v1), (2, .int v2), (3, .int v3), (4, .int v4), (5, .int v5)]) rfl ?_
    exact l_X12_lower_216 C L k48 hk48 k57 hk57 v1 v2 v3 v4 v5 I h
  · have h := zif_f hc h
    refine z_iload C 6 rfl dX12_lower_85 ?_
    refine z_iconst C (v := -1) (by decide) dX12_lower_87 ?_
    refine z_icmp_eq C 216 (by decide) dX12_lower_88 (fun hc => ?_) (fun hc => ?_)
    · have h := zif_t hc h
      refine z_lv [0, 1, 2, 3, 4, 5] (lv' := [(0, .ref (B0 + 97)), (1, .int v1), (2, .int v2), (3, .int v3), (4, .int v4), (5, .int v5)]) rfl ?_
      exact l_X12_lower_216 C L k48 hk48 k57 hk57 v1 v2 v3 v4 v5 I h
    · have h := zif_f hc h
      refine z_aload_n C rfl 0 rfl dX12_lower_91 ?_
      refine z_iload C 7 rfl dX12_lower_92 ?_
      refine z_if_ne C 106 (by decide) dX12_lower_94 (fun hc => ?_) (fun hc => ?_)
      · have h := zif_f hc h
        refine z_aload_n C rfl 0 rfl dX12_lower_106 ?_
        refine z_getr C zc_12 dX12_lower_107 22 97 111 rfl (by decide) (by decide) q_1191 rfl rfl ?_
        refine z_iload_n C rfl 1 rfl dX12_lower_110 ?_
        obtain ⟨hb14, h⟩ := zck_e h
        refine z_iaload C dX12_lower_111 rfl rfl (by decide) (zbd_in hb14) ?_
        exact l_X12_lower_112 C L k48 hk48 k57 hk57 k79 hk79 v1 v2 v3 v4 v5 v6 v7 (I 111 v1.toNatClampNeg) I h
      · have h := zif_t hc h
        refine z_aload_n C rfl 0 rfl dX12_lower_97 ?_
        refine z_getr C zc_12 dX12_lower_98 21 97 110 rfl (by decide) (by decide) q_1190 rfl rfl ?_
        refine z_iload_n C rfl 1 rfl dX12_lower_101 ?_
        obtain ⟨hb15, h⟩ := zck_e h
        refine z_iaload C dX12_lower_102 rfl rfl (by decide) (zbd_in hb15) ?_
        refine z_goto C 112 (by decide) dX12_lower_103 ?_
        exact l_X12_lower_112 C L k48 hk48 k57 hk57 k79 hk79 v1 v2 v3 v4 v5 v6 v7 (I 110 v1.toNatClampNeg) I h
set_option maxHeartbeats 4000000 in
set_option maxRecDepth 100000 in
theorem L_X12_lower_79 {r : Int32 × zI} (C : zC p l e R s m args below meth c s0 a0 d cy B0 yX12_lower.cls cX12_lower 9 (some .boolean) bc bs bc bs 1 23 []) (L : zL) (k48 : Int32 → Int32 → Int32 → Int32 → zI → Option (Int32 × zI)) (hk48 : ∀ (v1 : Int32) (v2 : Int32) (v3 : Int32) (v4 : Int32) (I : zI), k48 v1 v2 v3 v4 I = some r → zG p l e R s m args below meth c d cy B0 9 bc bs (zQ below s args d cy B0 bc bs (.inl (some (.int r.1))) zSH zKn bc bs r.2 L) 48 [(0, .ref (B0 + 97)), (1, .int v1), (2, .int v2), (3, .int v3), (4, .int v4)] [] zSH zKn bc bs I L) (k57 : Int32 → Int32 → Int32 → Int32 → Int32 → zI → Option (Int32 × zI)) (hk57 : ∀ (v1 : Int32) (v2 : Int32) (v3 : Int32) (v4 : Int32) (v5 : Int32) (I : zI), k57 v1 v2 v3 v4 v5 I = some r → zG p l e R s m args below meth c d cy B0 9 bc bs (zQ below s args d cy B0 bc bs (.inl (some (.int r.1))) zSH zKn bc bs r.2 L) 57 [(0, .ref (B0 + 97)), (1, .int v1), (2, .int v2), (3, .int v3), (4, .int v4), (5, .int v5)] [] zSH zKn bc bs I L) (v1 : Int32) (v2 : Int32) (v3 : Int32) (v4 : Int32) (v5 : Int32) (v6 : Int32) (v7 : Int32) (I : zI) (h : zlp8 (f_X12_lower_79 k48 k57) zF v1 v2 v3 v4 v5 v6 v7 I = some r) : zG p l e R s m args below meth c d cy B0 9 bc bs (zQ below s args d cy B0 bc bs (.inl (some (.int r.1))) zSH zKn bc bs r.2 L) 79 [(0, .ref (B0 + 97)), (1, .int v1), (2, .int v2), (3, .int v3), (4, .int v4), (5, .int v5), (6, .int v6), (7, .int v7)] [] zSH zKn bc bs I L :=
 zlp8_e (fun (v1 : Int32) (v2 : Int32) (v3 : Int32) (v4 : Int32) (v5 : Int32) (v6 : Int32) (v7 : Int32) (I : zI) => zG p l e R s m args below meth c d cy B0 9 bc bs (zQ below s args d cy B0 bc bs (.inl (some (.int r.1))) zSH zKn bc bs r.2 L) 79 [(0, .ref (B0 + 97)), (1, .int v1), (2, .int v2), (3, .int v3), (4, .int v4), (5, .int v5), (6, .int v6), (7, .int v7)] [] zSH zKn bc bs I L) (fun k9 hk9 v1 v2 v3 v4 v5 v6 v7 I h => l_X12_lower_79 C L k48 hk48 k57 hk57 k9 hk9 v1 v2 v3 v4 v5 v6 v7 I h) zF v1 v2 v3 v4 v5 v6 v7 I h
set_option maxHeartbeats 4000000 in
set_option maxRecDepth 100000 in
theorem l_X12_lower_57 {r : Int32 × zI} (C : zC p l e R s m args below meth c s0 a0 d cy B0 yX12_lower.cls cX12_lower 9 (some .boolean) bc bs bc bs 1 23 []) (L : zL) (k48 : Int32 → Int32 → Int32 → Int32 → zI → Option (Int32 × zI)) (hk48 : ∀ (v1 : Int32) (v2 : Int32) (v3 : Int32) (v4 : Int32) (I : zI), k48 v1 v2 v3 v4 I = some r → zG p l e R s m args below meth c d cy B0 9 bc bs (zQ below s args d cy B0 bc bs (.inl (some (.int r.1))) zSH zKn bc bs r.2 L) 48 [(0, .ref (B0 + 97)), (1, .int v1), (2, .int v2), (3, .int v3), (4, .int v4)] [] zSH zKn bc bs I L) (k57 : Int32 → Int32 → Int32 → Int32 → Int32 → zI → Option (Int32 × zI)) (hk57 : ∀ (v1 : Int32) (v2 : Int32) (v3 : Int32) (v4 : Int32) (v5 : Int32) (I : zI), k57 v1 v2 v3 v4 v5 I = some r → zG p l e R s m args below meth c d cy B0 9 bc bs (zQ below s args d cy B0 bc bs (.inl (some (.int r.1))) zSH zKn bc bs r.2 L) 57 [(0, .ref (B0 + 97)), (1, .int v1), (2, .int v2), (3, .int v3), (4, .int v4), (5, .int v5)] [] zSH zKn bc bs I L) (v1 : Int32) (v2 : Int32) (v3 : Int32) (v4 : Int32) (v5 : Int32) (I : zI) (h : f_X12_lower_57 k48 k57 v1 v2 v3 v4 v5 I = some r) : zG p l e R s m args below meth c d cy B0 9 bc bs (zQ below s args d cy B0 bc bs (.inl (some (.int r.1))) zSH zKn bc bs r.2 L) 57 [(0, .ref (B0 + 97)), (1, .int v1), (2, .int v2), (3, .int v3), (4, .int v4), (5, .int v5)] [] zSH zKn bc bs I L := by
  unfold f_X12_lower_57 at h
  refine z_iload C 5 rfl dX12_lower_57 ?_
  refine z_sipush C (v := 4096) (by decide) dX12_lower_59 ?_
  refine z_icmp_ge C 222 (by decide) dX12_lower_62 (fun hc => ?_) (fun hc => ?_)
  · have h := zif_t hc h
    obtain ⟨x10, ex10, h⟩ := zlt_e h
    refine z_iinc C (j := 4) (v := x10) (lv' := [(4, .int x10), (0, .ref (B0 + 97)), (1, .int v1), (2, .int v2), (3, .int v3), (5, .int v5)]) rfl (by rw [ex10]; rfl) (by decide) rfl dX12_lower_222 ?_
    refine z_goto C 48 (by decide) dX12_lower_225 ?_
    refine z_lv [1, 2, 3, 4, 0] (lv' := [(0, .ref (B0 + 97)), (1, .int v1), (2, .int v2), (3, .int v3), (4, .int x10)]) rfl ?_
    exact hk48 v1 v2 v3 x10 I h
  · have h := zif_f hc h
    refine z_aload_n C rfl 0 rfl dX12_lower_65 ?_
    refine z_getr C zc_12 dX12_lower_66 32 97 119 rfl (by decide) (by decide) q_1201 rfl rfl ?_
    refine z_iload_n C rfl 2 rfl dX12_lower_69 ?_
    refine z_iload C 5 rfl dX12_lower_70 ?_
    refine z_iadd C dX12_lower_72 ?_
    obtain ⟨x11, ex11, h⟩ := zlt_e h
    refine z_eqi C ex11 ?_
    obtain ⟨hb12, h⟩ := zck_e h
    refine z_iaload C dX12_lower_73 rfl rfl (by decide) (zbd_in hb12) ?_
    obtain ⟨x13, ex13, h⟩ := zlt_e h
    refine z_eqi C ex13 ?_
    refine z_istore C (lv' := [(6, .int x13), (0, .ref (B0 + 97)), (1, .int v1), (2, .int v2), (3, .int v3), (4, .int v4), (5, .int v5)]) (by decide) rfl dX12_lower_74 ?_
    refine z_iconst C (v := 0) (by decide) dX12_lower_76 ?_
    refine z_istore C (lv' := [(7, .int (0 : Int32)), (6, .int x13), (0, .ref (B0 + 97)), (1, .int v1), (2, .int v2), (3, .int v3), (4, .int v4), (5, .int v5)]) (by decide) rfl dX12_lower_77 ?_
    refine z_lv [2, 3, 4, 5, 6, 7, 1, 0] (lv' := [(0, .ref (B0 + 97)), (1, .int v1), (2, .int v2), (3, .int v3), (4, .int v4), (5, .int v5), (6, .int x13), (7, .int (0 : Int32))]) rfl ?_
    exact L_X12_lower_79 C L k48 hk48 k57 hk57 v1 v2 v3 v4 v5 x13 (0 : Int32) I h
set_option maxHeartbeats 4000000 in
set_option maxRecDepth 100000 in
theorem L_X12_lower_57 {r : Int32 × zI} (C : zC p l e R s m args below meth c s0 a0 d cy B0 yX12_lower.cls cX12_lower 9 (some .boolean) bc bs bc bs 1 23 []) (L : zL) (k48 : Int32 → Int32 → Int32 → Int32 → zI → Option (Int32 × zI)) (hk48 : ∀ (v1 : Int32) (v2 : Int32) (v3 : Int32) (v4 : Int32) (I : zI), k48 v1 v2 v3 v4 I = some r → zG p l e R s m args below meth c d cy B0 9 bc bs (zQ below s args d cy B0 bc bs (.inl (some (.int r.1))) zSH zKn bc bs r.2 L) 48 [(0, .ref (B0 + 97)), (1, .int v1), (2, .int v2), (3, .int v3), (4, .int v4)] [] zSH zKn bc bs I L) (v1 : Int32) (v2 : Int32) (v3 : Int32) (v4 : Int32) (v5 : Int32) (I : zI) (h : zlp6 (f_X12_lower_57 k48) zF v1 v2 v3 v4 v5 I = some r) : zG p l e R s m args below meth c d cy B0 9 bc bs (zQ below s args d cy B0 bc bs (.inl (some (.int r.1))) zSH zKn bc bs r.2 L) 57 [(0, .ref (B0 + 97)), (1, .int v1), (2, .int v2), (3, .int v3), (4, .int v4), (5, .int v5)] [] zSH zKn bc bs I L :=
 zlp6_e (fun (v1 : Int32) (v2 : Int32) (v3 : Int32) (v4 : Int32) (v5 : Int32) (I : zI) => zG p l e R s m args below meth c d cy B0 9 bc bs (zQ below s args d cy B0 bc bs (.inl (some (.int r.1))) zSH zKn bc bs r.2 L) 57 [(0, .ref (B0 + 97)), (1, .int v1), (2, .int v2), (3, .int v3), (4, .int v4), (5, .int v5)] [] zSH zKn bc bs I L) (fun k9 hk9 v1 v2 v3 v4 v5 I h => l_X12_lower_57 C L k48 hk48 k9 hk9 v1 v2 v3 v4 v5 I h) zF v1 v2 v3 v4 v5 I h
set_option maxHeartbeats 4000000 in
set_option maxRecDepth 100000 in
theorem l_X12_lower_48 {r : Int32 × zI} (C : zC p l e R s m args below meth c s0 a0 d cy B0 yX12_lower.cls cX12_lower 9 (some .boolean) bc bs bc bs 1 23 []) (L : zL) (k48 : Int32 → Int32 → Int32 → Int32 → zI → Option (Int32 × zI)) (hk48 : ∀ (v1 : Int32) (v2 : Int32) (v3 : Int32) (v4 : Int32) (I : zI), k48 v1 v2 v3 v4 I = some r → zG p l e R s m args below meth c d cy B0 9 bc bs (zQ below s args d cy B0 bc bs (.inl (some (.int r.1))) zSH zKn bc bs r.2 L) 48 [(0, .ref (B0 + 97)), (1, .int v1), (2, .int v2), (3, .int v3), (4, .int v4)] [] zSH zKn bc bs I L) (v1 : Int32) (v2 : Int32) (v3 : Int32) (v4 : Int32) (I : zI) (h : f_X12_lower_48 k48 v1 v2 v3 v4 I = some r) : zG p l e R s m args below meth c d cy B0 9 bc bs (zQ below s args d cy B0 bc bs (.inl (some (.int r.1))) zSH zKn bc bs r.2 L) 48 [(0, .ref (B0 + 97)), (1, .int v1), (2, .int v2), (3, .int v3), (4, .int v4)] [] zSH zKn bc bs I L := by
  unfold f_X12_lower_48 at h
  refine z_iload C 4 rfl dX12_lower_48 ?_
  refine z_iconst C (v := 2) (by decide) dX12_lower_50 ?_
  refine z_icmp_ge C 228 (by decide) dX12_lower_51 (fun hc => ?_) (fun hc => ?_)
  · have h := zif_t hc h
    refine z_iload_n C rfl 3 rfl dX12_lower_228 ?_
    obtain ⟨hb9, h⟩ := zck_e h
    obtain rfl := Option.some.inj h
    exact z_iret C dX12_lower_229 .boolean rfl (zbo_n hb9).1 rfl
  · have h := zif_f hc h
    refine z_iconst C (v := 0) (by decide) dX12_lower_54 ?_
    refine z_istore C (lv' := [(5, .int (0 : Int32)), (0, .ref (B0 + 97)), (1, .int v1), (2, .int v2), (3, .int v3), (4, .int v4)]) (by decide) rfl dX12_lower_55 ?_
    refine z_lv [1, 2, 3, 4, 5, 0] (lv' := [(0, .ref (B0 + 97)), (1, .int v1), (2, .int v2), (3, .int v3), (4, .int v4), (5, .int (0 : Int32))]) rfl ?_
    exact L_X12_lower_57 C L k48 hk48 v1 v2 v3 v4 (0 : Int32) I h
set_option maxHeartbeats 4000000 in
set_option maxRecDepth 100000 in
theorem L_X12_lower_48 {r : Int32 × zI} (C : zC p l e R s m args below meth c s0 a0 d cy B0 yX12_lower.cls cX12_lower 9 (some .boolean) bc bs bc bs 1 23 []) (L : zL) (v1 : Int32) (v2 : Int32) (v3 : Int32) (v4 : Int32) (I : zI) (h : zlp5 (f_X12_lower_48) zF v1 v2 v3 v4 I = some r) : zG p l e R s m args below meth c d cy B0 9 bc bs (zQ below s args d cy B0 bc bs (.inl (some (.int r.1))) zSH zKn bc bs r.2 L) 48 [(0, .ref (B0 + 97)), (1, .int v1), (2, .int v2), (3, .int v3), (4, .int v4)] [] zSH zKn bc bs I L :=
 zlp5_e (fun (v1 : Int32) (v2 : Int32) (v3 : Int32) (v4 : Int32) (I : zI) => zG p l e R s m args below meth c d cy B0 9 bc bs (zQ below s args d cy B0 bc bs (.inl (some (.int r.1))) zSH zKn bc bs r.2 L) 48 [(0, .ref (B0 + 97)), (1, .int v1), (2, .int v2), (3, .int v3), (4, .int v4)] [] zSH zKn bc bs I L) (fun k9 hk9 v1 v2 v3 v4 I h => l_X12_lower_48 C L k9 hk9 v1 v2 v3 v4 I h) zF v1 v2 v3 v4 I h
set_option maxHeartbeats 4000000 in
set_option maxRecDepth 100000 in
theorem l_X12_lower_13 {r : Int32 × zI} (C : zC p l e R s m args below meth c s0 a0 d cy B0 yX12_lower.cls cX12_lower 9 (some .boolean) bc bs bc bs 1 23 []) (L : zL) (k13 : Int32 → Int32 → Int32 → zI → Option (Int32 × zI)) (hk13 : ∀ (v1 : Int32) (v2 : Int32) (v3 : Int32) (I : zI), k13 v1 v2 v3 I = some r → zG p l e R s m args below meth c d cy B0 9 bc bs (zQ below s args d cy B0 bc bs (.inl (some (.int r.1))) zSH zKn bc bs r.2 L) 13 [(0, .ref (B0 + 97)), (1, .int v1), (2, .int v2), (3, .int v3)] [] zSH zKn bc bs I L) (v1 : Int32) (v2 : Int32) (v3 : Int32) (I : zI) (h : f_X12_lower_13 k13 v1 v2 v3 I = some r) : zG p l e R s m args below meth c d cy B0 9 bc bs (zQ below s args d cy B0 bc bs (.inl (some (.int r.1))) zSH zKn bc bs r.2 L) 13 [(0, .ref (B0 + 97)), (1, .int v1), (2, .int v2), (3, .int v3)] [] zSH zKn bc bs I L := by
  unfold f_X12_lower_13 at h
  refine z_iload_n C rfl 3 rfl dX12_lower_13 ?_
  refine z_aload_n C rfl 0 rfl dX12_lower_14 ?_
  refine z_getr C zc_12 dX12_lower_15 33 97 120 rfl (by decide) (by decide) q_1202 rfl rfl ?_
  refine z_aload_n C rfl 0 rfl dX12_lower_18 ?_
  refine z_getr C zc_12 dX12_lower_19 23 97 112 rfl (by decide) (by decide) q_1192 rfl rfl ?_
  refine z_iload_n C rfl 1 rfl dX12_lower_22 ?_
  obtain ⟨hb3, h⟩ := zck_e h
  refine z_iaload C dX12_lower_23 rfl rfl (by decide) (zbd_in hb3) ?_
  obtain ⟨x4, ex4, h⟩ := zlt_e h
  refine z_eqi C ex4 ?_
  obtain ⟨hb5, h⟩ := zck_e h
  refine z_iaload C dX12_lower_24 rfl rfl (by decide) (zbd_in hb5) ?_
  refine z_icmp_ge C 43 (by decide) dX12_lower_25 (fun hc => ?_) (fun hc => ?_)
  · have h := zif_t hc h
    refine z_iconst C (v := 0) (by decide) dX12_lower_43 ?_
    refine z_istore_n C (lv' := [(3, .int (0 : Int32)), (0, .ref (B0 + 97)), (1, .int v1), (2, .int v2)]) rfl (by decide) rfl dX12_lower_44 ?_
    refine z_iconst C (v := 0) (by decide) dX12_lower_45 ?_
    refine z_istore C (lv' := [(4, .int (0 : Int32)), (3, .int (0 : Int32)), (0, .ref (B0 + 97)), (1, .int v1), (2, .int v2)]) (by decide) rfl dX12_lower_46 ?_
    refine z_lv [2, 3, 4, 1, 0] (lv' := [(0, .ref (B0 + 97)), (1, .int v1), (2, .int v2), (3, .int (0 : Int32)), (4, .int (0 : Int32))]) rfl ?_
    exact L_X12_lower_48 C L v1 v2 (0 : Int32) (0 : Int32) I h
  · have h := zif_f hc h
    refine z_aload_n C rfl 0 rfl dX12_lower_28 ?_
    refine z_getr C zc_12 dX12_lower_29 55 97 131 rfl (by decide) (by decide) q_1224 rfl rfl ?_
    refine z_iload_n C rfl 3 rfl dX12_lower_32 ?_
    refine z_ldcw C dX12_lower_33 q_1484 ?_
    obtain ⟨hb6, h⟩ := zck_e h
    refine z_iastore C dX12_lower_36 rfl rfl (by decide) (zbd_in hb6) ?_
    obtain ⟨I7, eI7, h⟩ := zlt_e h
    refine z_eqI C eI7 ?_
    obtain ⟨x8, ex8, h⟩ := zlt_e h
    refine z_iinc C (j := 3) (v := x8) (lv' := [(3, .int x8), (0, .ref (B0 + 97)), (1, .int v1), (2, .int v2)]) rfl (by rw [ex8]; rfl) (by decide) rfl dX12_lower_37 ?_
    refine z_goto C 13 (by decide) dX12_lower_40 ?_
    refine z_lv [1, 2, 3, 0] (lv' := [(0, .ref (B0 + 97)), (1, .int v1), (2, .int v2), (3, .int x8)]) rfl ?_
    exact hk13 v1 v2 x8 I7 h
set_option maxHeartbeats 4000000 in
set_option maxRecDepth 100000 in
theorem L_X12_lower_13 {r : Int32 × zI} (C : zC p l e R s m args below meth c s0 a0 d cy B0 yX12_lower.cls cX12_lower 9 (some .boolean) bc bs bc bs 1 23 []) (L : zL) (v1 : Int32) (v2 : Int32) (v3 : Int32) (I : zI) (h : zlp4 (f_X12_lower_13) zF v1 v2 v3 I = some r) : zG p l e R s m args below meth c d cy B0 9 bc bs (zQ below s args d cy B0 bc bs (.inl (some (.int r.1))) zSH zKn bc bs r.2 L) 13 [(0, .ref (B0 + 97)), (1, .int v1), (2, .int v2), (3, .int v3)] [] zSH zKn bc bs I L :=
 zlp4_e (fun (v1 : Int32) (v2 : Int32) (v3 : Int32) (I : zI) => zG p l e R s m args below meth c d cy B0 9 bc bs (zQ below s args d cy B0 bc bs (.inl (some (.int r.1))) zSH zKn bc bs r.2 L) 13 [(0, .ref (B0 + 97)), (1, .int v1), (2, .int v2), (3, .int v3)] [] zSH zKn bc bs I L) (fun k9 hk9 v1 v2 v3 I h => l_X12_lower_13 C L k9 hk9 v1 v2 v3 I h) zF v1 v2 v3 I h
set_option maxHeartbeats 4000000 in
set_option maxRecDepth 100000 in
theorem c_X12_lower {r : Int32 × zI} (hE : zE0 l s0 a0 d cy B0) (a1 : Int32) (I : zI) (L : zL) (h : f_X12_lower a1 I = some r) : zM l s0 d cy B0 yX12_lower cX12_lower 9 (some .boolean) 1 23 [.ref (B0 + 97), .int a1] zSH zKn bc bs I L (.inl (some (.int r.1))) zSH zKn bc bs r.2 L := by
  refine z_meth yy_X12_lower hE (Nat.le_of_ble_eq_true rfl) (fun p e R s m args below meth c C => ?_)
  show zG p l e R s m args below meth c d cy B0 9 bc bs (zQ below s args d cy B0 bc bs (.inl (some (.int r.1))) zSH zKn bc bs r.2 L) 0 [(0, .ref (B0 + 97)), (1, .int a1)] [] zSH zKn bc bs I L
  unfold f_X12_lower at h
  refine z_sipush C (v := 4096) (by decide) dX12_lower_0 ?_
  refine z_aload_n C rfl 0 rfl dX12_lower_3 ?_
  refine z_getr C zc_12 dX12_lower_4 23 97 112 rfl (by decide) (by decide) q_1192 rfl rfl ?_
  refine z_iload_n C rfl 1 rfl dX12_lower_7 ?_
  obtain ⟨hb1, h⟩ := zck_e h
  refine z_iaload C dX12_lower_8 rfl rfl (by decide) (zbd_in hb1) ?_
  refine z_imul C dX12_lower_9 ?_
  obtain ⟨x2, ex2, h⟩ := zlt_e h
  refine z_eqi C ex2 ?_
  refine z_istore_n C (lv' := [(2, .int x2), (0, .ref (B0 + 97)), (1, .int a1)]) rfl (by decide) rfl dX12_lower_10 ?_
  refine z_iconst C (v := 0) (by decide) dX12_lower_11 ?_
  refine z_istore_n C (lv' := [(3, .int (0 : Int32)), (2, .int x2), (0, .ref (B0 + 97)), (1, .int a1)]) rfl (by decide) rfl dX12_lower_12 ?_
  refine z_lv [2, 3, 1, 0] (lv' := [(0, .ref (B0 + 97)), (1, .int a1), (2, .int x2), (3, .int (0 : Int32))]) rfl ?_
  exact L_X12_lower_13 C L a1 x2 (0 : Int32) I h
end Zp05_13_walk
