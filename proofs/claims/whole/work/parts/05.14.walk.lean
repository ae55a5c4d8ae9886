section Zp05_14_walk
variable {p : Program} {l : Launch} {e : Env} {R : Room} {s : State} {m : MethodId} {args : Array Value} {below : List Frame} {meth : Method} {c : Code} {s0 : State} {a0 : Array Value} {d : va_G} {cy : Nat → ClassId} {B0 : Nat} {bc bs : Nat}
theorem q_65 : Cond.selects "DeviceFindModel" ⟨"DeviceFindModel", "lower", "(I)Z"⟩ ⟨"DeviceFindModel", "lower", "(I)Z"⟩ ∈ lw_tbl := List.mem_of_getElem? (i := 65) (by decide +kernel)
theorem q_1204 : (Cond.fieldLink "DeviceFindModel" (271 : Nat) "DeviceFindModel" "nodes" "I") ∈ lw_tbl := List.mem_of_getElem? (i := 1204) (by decide +kernel)
theorem q_1206 : (Cond.fieldLink "DeviceFindModel" (89 : Nat) "DeviceFindModel" "number" "[I") ∈ lw_tbl := List.mem_of_getElem? (i := 1206) (by decide +kernel)
theorem q_1207 : (Cond.fieldLink "DeviceFindModel" (277 : Nat) "DeviceFindModel" "nets" "I") ∈ lw_tbl := List.mem_of_getElem? (i := 1207) (by decide +kernel)
theorem q_1479 : (Cond.code ({ cls := "DeviceFindModel", name := "findNets", desc := "()V" } : Jvm.MethodName) prog_14_method_37_code (4 : Nat) (Option.none : Option Jvm.ClassFile.FieldType)) ∈ lw_tbl := List.mem_of_getElem? (i := 1479) (by decide +kernel)
theorem q_1480 : (Cond.methodLink "DeviceFindModel" (274 : Nat) ({ cls := "DeviceFindModel", name := "lower", desc := "(I)Z" } : Jvm.MethodName)) ∈ lw_tbl := List.mem_of_getElem? (i := 1480) (by decide +kernel)
theorem q_1482 : (Cond.instanceMethod ({ cls := "DeviceFindModel", name := "lower", desc := "(I)Z" } : Jvm.MethodName)) ∈ lw_tbl := List.mem_of_getElem? (i := 1482) (by decide +kernel)
theorem yy_X12_findNets : zY yX12_findNets cX12_findNets 4 none 0 := ⟨q_1479, q_88, by decide +kernel, by decide +kernel, by decide +kernel⟩
def f_X12_findNets_111 (k76 : Int32 → zI → Option zI) (k84 : Int32 → Int32 → zI → Option zI) (v2 : Int32) (w0 : Int32) (I : zI) : Option zI :=
  zlt (v2 + 1) (fun x28 => k84 w0 x28 I)
def f_X12_findNets_106 (k76 : Int32 → zI → Option zI) (k84 : Int32 → Int32 → zI → Option zI) (v2 : Int32) (I : zI) : Option zI :=
  f_X12_findNets_111 k76 k84 v2 (1 : Int32) I
def f_X12_findNets_84 (k76 : Int32 → zI → Option zI) (k84 : Int32 → Int32 → zI → Option zI) (v1 : Int32) (v2 : Int32) (I : zI) : Option zI :=
  if (I 97 14) ≤ v2 then (k76 v1 I) else (zb2 (f_X12_lower v2 I) (fun x25 I26 => if v1 = 0 then (if x25 = 0 then (f_X12_findNets_111 k76 k84 v2 (0 : Int32) I26) else (f_X12_findNets_106 k76 k84 v2 I26)) else (f_X12_findNets_106 k76 k84 v2 I26)))
def f_X12_findNets_186 (k128 : Int32 → zI → Option zI) (v2 : Int32) (I : zI) : Option zI :=
  zlt (v2 + 1) (fun x27 => k128 x27 I)
def f_X12_findNets_128 (k128 : Int32 → zI → Option zI) (v2 : Int32) (I : zI) : Option zI :=
  if (I 97 35) ≤ v2 then (some I) else (zck (zbd v2 32768) (if (I 122 v2.toNatClampNeg) = v2 then (zck (zbd v2 32768) (zlt (zu I 123 v2.toNatClampNeg (I 97 38)) (fun I21 => zlt ((I21 97 38) + (1 : Int32)) (fun x22 => zlt (zu I21 97 38 x22) (fun I23 => f_X12_findNets_186 k128 v2 I23))))) else (zck (zbd v2 32768) (zlt (I 122 v2.toNatClampNeg) (fun x16 => zck (zbd x16 32768) (zck (zbd v2 32768) (zlt (zu I 123 v2.toNatClampNeg (I 123 x16.toNatClampNeg)) (fun I19 => f_X12_findNets_186 k128 v2 I19))))))))
def f_X12_findNets_76 (k76 : Int32 → zI → Option zI) (v1 : Int32) (I : zI) : Option zI :=
  if v1 = 0 then (zlt (zu I 97 38 (0 : Int32)) (fun I13 => zlp2 (f_X12_findNets_128) zF (0 : Int32) I13)) else (zlp3 (f_X12_findNets_84 k76) zF (0 : Int32) (0 : Int32) I)
def f_X12_findNets_53 (k53 : Int32 → zI → Option zI) (v1 : Int32) (I : zI) : Option zI :=
  if (I 97 35) ≤ v1 then (zlp2 (f_X12_findNets_76) zF (1 : Int32) I) else (zck (zbd v1 32768) (zlt (zu I 122 v1.toNatClampNeg v1) (fun I11 => zlt (v1 + 1) (fun x12 => k53 x12 I11))))
def f_X12_findNets_7 (k7 : Int32 → zI → Option zI) (v1 : Int32) (I : zI) : Option zI :=
  if (I 97 13) ≤ v1 then (zlp2 (f_X12_findNets_53) zF (0 : Int32) I) else (zck (zbd v1 8) (zlt (zu I 121 v1.toNatClampNeg (I 97 35)) (fun I3 => zck (zbd v1 16) (zlt (I3 109 v1.toNatClampNeg) (fun x5 => zck (zbd x5 24) (zlt ((I3 97 35) + (I3 120 x5.toNatClampNeg)) (fun x7 => zlt (zu I3 97 35 x7) (fun I8 => zlt (v1 + 1) (fun x9 => k7 x9 I8)))))))))
def f_X12_findNets (I : zI) : Option zI :=
  zlt (zu I 97 35 (0 : Int32)) (fun I1 => zlp2 (f_X12_findNets_7) zF (0 : Int32) I1)
set_option maxHeartbeats 4000000 in
set_option maxRecDepth 100000 in
theorem l_X12_findNets_111 {r : zI} (C : zC p l e R s m args below meth c s0 a0 d cy B0 yX12_findNets.cls cX12_findNets 4 none bc bs bc bs 2 51 []) (L : zL) (k76 : Int32 → zI → Option zI) (hk76 : ∀ (v1 : Int32) (I : zI), k76 v1 I = some r → zG p l e R s m args below meth c d cy B0 4 bc bs (zQ below s args d cy B0 bc bs (.inl none) zSH zKn bc bs r L) 76 [(0, .ref (B0 + 97)), (1, .int v1)] [] zSH zKn bc bs I L) (k84 : Int32 → Int32 → zI → Option zI) (hk84 : ∀ (v1 : Int32) (v2 : Int32) (I : zI), k84 v1 v2 I = some r → zG p l e R s m args below meth c d cy B0 4 bc bs (zQ below s args d cy B0 bc bs (.inl none) zSH zKn bc bs r L) 84 [(0, .ref (B0 + 97)), (1, .int v1), (2, .int v2)] [] zSH zKn bc bs I L) (v2 : Int32) (w0 : Int32) (I : zI) (h : f_X12_findNets_111 k76 k84 v2 w0 I = some r) : zG p l e R s m args below meth c d cy B0 4 bc bs (zQ below s args d cy B0 bc bs (.inl none) zSH zKn bc bs r L) 111 [(0, .ref (B0 + 97)), (2, .int v2)] [.int w0] zSH zKn bc bs I L := by
  unfold f_X12_findNets_111 at h
  refine z_istore_n C (lv' := [(1, .int w0), (0, .ref (B0 + 97)), (2, .int v2)]) rfl (by decide) rfl dX12_findNets_111 ?_
  obtain ⟨x28, ex28, h⟩ := zlt_e h
  refine z_iinc C (j := 2) (v := x28) (lv' := [(2, .int x28), (1, .int w0), (0, .ref (B0 + 97))]) rfl (by rw [ex28]; rfl) (by decide) rfl dX12_findNets_112 ?_
  refine z_goto C 84 (by decide) dX12_findNets_115 ?_
  refine z_lv [2, 1, 0] (lv' := [(0, .ref (B0 + 97)), (1, .int w0), (2, .int x28)]) rfl ?_
  exact hk84 w0 x28 I h
set_option maxHeartbeats 4000000 in
set_option maxRecDepth 100000 in
theorem l_X12_findNets_106 {r : zI} (C : zC p l e R s m args below meth c s0 a0 d cy B0 yX12_findNets.cls cX12_findNets 4 none bc bs bc bs 2 51 []) (L : zL) (k76 : Int32 → zI → Option zI) (hk76 : ∀ (v1 : Int32) (I : zI), k76 v1 I = some r → zG p l e R s m args below meth c d cy B0 4 bc bs (zQ below s args d cy B0 bc bs (.inl none) zSH zKn bc bs r L) 76 [(0, .ref (B0 + 97)), (1, .int v1)] [] zSH zKn bc bs I L) (k84 : Int32 → Int32 → zI → Option zI) (hk84 : ∀ (v1 : Int32) (v2 : Int32) (I : zI), k84 v1 v2 I = some r → zG p l e R s m args below meth c d cy B0 4 bc bs (zQ below s args d cy B0 bc bs (.inl none) zSH zKn bc bs r L) 84 [(0, .ref (B0 + 97)), (1, .int v1), (2, .int v2)] [] zSH zKn bc bs I L) (v2 : Int32) (I : zI) (h : f_X12_findNets_106 k76 k84 v2 I = some r) : zG p l e R s m args below meth c d cy B0 4 bc bs (zQ below s args d cy B0 bc bs (.inl none) zSH zKn bc bs r L) 106 [(0, .ref (B0 + 97)), (2, .int v2)] [] zSH zKn bc bs I L := by
  unfold f_X12_findNets_106 at h
  refine z_iconst C (v := 1) (by decide) dX12_findNets_106 ?_
  refine z_goto C 111 (by decide) dX12_findNets_107 ?_
  exact l_X12_findNets_111 C L k76 hk76 k84 hk84 v2 (1 : Int32) I h
set_option maxHeartbeats 4000000 in
set_option maxRecDepth 100000 in
theorem l_X12_findNets_84 {r : zI} (C : zC p l e R s m args below meth c s0 a0 d cy B0 yX12_findNets.cls cX12_findNets 4 none bc bs bc bs 2 51 []) (L : zL) (k76 : Int32 → zI → Option zI) (hk76 : ∀ (v1 : Int32) (I : zI), k76 v1 I = some r → zG p l e R s m args below meth c d cy B0 4 bc bs (zQ below s args d cy B0 bc bs (.inl none) zSH zKn bc bs r L) 76 [(0, .ref (B0 + 97)), (1, .int v1)] [] zSH zKn bc bs I L) (k84 : Int32 → Int32 → zI → Option zI) (hk84 : ∀ (v1 : Int32) (v2 : Int32) (I : zI), k84 v1 v2 I = some r → zG p l e R s m args below meth c d cy B0 4 bc bs (zQ below s args d cy B0 bc bs (.inl none) zSH zKn bc bs r L) 84 [(0, .ref (B0 + 97)), (1, .int v1), (2, .int v2)] [] zSH zKn bc bs I L) (v1 : Int32) (v2 : Int32) (I : zI) (h : f_X12_findNets_84 k76 k84 v1 v2 I = some r) : zG p l e R s m args below meth c d cy B0 4 bc bs (zQ below s args d cy B0 bc bs (.inl none) zSH zKn bc bs r L) 84 [(0, .ref (B0 + 97)), (1, .int v1), (2, .int v2)] [] zSH zKn bc bs I L := by
  unfold f_X12_findNets_84 at h
  refine z_iload_n C rfl 2 rfl dX12_findNets_84 ?_
  refine z_aload_n C rfl 0 rfl dX12_findNets_85 ?_
  refine z_geti C zc_12 dX12_findNets_86 14 97 rfl (by decide) (by decide) q_1183 rfl ?_
  refine z_icmp_ge C 118 (by decide) dX12_findNets_89 (fun hc => ?_) (fun hc => ?_)
  · have h := zif_t hc h
    refine z_goto C 76 (by decide) dX12_findNets_118 ?_
    refine z_lv [0, 1] (lv' := [(0, .ref (B0 + 97)), (1, .int v1)]) rfl ?_
    exact hk76 v1 I h
  · have h := zif_f hc h
    refine z_aload_n C rfl 0 rfl dX12_findNets_92 ?_
    refine z_iload_n C rfl 2 rfl dX12_findNets_93 ?_
    obtain ⟨x25, I26, hg24, h⟩ := zb2_e h
    refine z_callV C zc_12 rfl (by decide) dX12_findNets_94 yy_X12_lower (c_X12_lower C.2.2.2.2.1  v2 I L hg24) q_1480 q_1482 q_65 (by decide) (by decide) rfl rfl (Nat.le_of_ble_eq_true rfl) ⟨Nat.le_refl _, Nat.le_refl _, Nat.le_refl _, Nat.le_refl _⟩ ?_
    refine z_istore_n C (lv' := [(3, .int x25), (0, .ref (B0 + 97)), (1, .int v1), (2, .int v2)]) rfl (by decide) rfl dX12_findNets_97 ?_
    refine z_iload_n C rfl 2 rfl dX12_findNets_98 ?_
    refine z_if_ne C 106 (by decide) dX12_findNets_99 (fun hc => ?_) (fun hc => ?_)
    · have h := zif_f hc h
      refine z_lv [1, 3] (lv' := [(0, .ref (B0 + 97)), (2, .int v2)]) rfl ?_
      exact l_X12_findNets_106 C L k76 hk76 k84 hk84 v2 I26 h
    · have h := zif_t hc h
      refine z_iload_n C rfl 0 rfl dX12_findNets_102 ?_
      refine z_if_eq C 110 (by decide) dX12_findNets_103 (fun hc => ?_) (fun hc => ?_)
      · have h := zif_t hc h
        refine z_iconst C (v := 0) (by decide) dX12_findNets_110 ?_
        refine z_lv [1, 3] (lv' := [(0, .ref (B0 + 97)), (2, .int v2)]) rfl ?_
        exact l_X12_findNets_111 C L k76 hk76 k84 hk84 v2 (0 : Int32) I26 h
      · have h := zif_f hc h
        refine z_lv [1, 3] (lv' := [(0, .ref (B0 + 97)), (2, .int v2)]) rfl ?_
        exact l_X12_findNets_106 C L k76 hk76 k84 hk84 v2 I26 h
set_option maxHeartbeats 4000000 in
set_option maxRecDepth 100000 in
theorem L_X12_findNets_84 {r : zI} (C : zC p l e R s m args below meth c s0 a0 d cy B0 yX12_findNets.cls cX12_findNets 4 none bc bs bc bs 2 51 []) (L : zL) (k76 : Int32 → zI → Option zI) (hk76 : ∀ (v1 : Int32) (I : zI), k76 v1 I = some r → zG p l e R s m args below meth c d cy B0 4 bc bs (zQ below s args d cy B0 bc bs (.inl none) zSH zKn bc bs r L) 76 [(0, .ref (B0 + 97)), (1, .int v1)] [] zSH zKn bc bs I L) (v1 : Int32) (v2 : Int32) (I : zI) (h : zlp3 (f_X12_findNets_84 k76) zF v1 v2 I = some r) : zG p l e R s m args below meth c d cy B0 4 bc bs (zQ below s args d cy B0 bc bs (.inl none) zSH zKn bc bs r L) 84 [(0, .ref (B0 + 97)), (1, .int v1), (2, .int v2)] [] zSH zKn bc bs I L :=
 zlp3_e (fun (v1 : Int32) (v2 : Int32) (I : zI) => zG p l e R s m args below meth c d cy B0 4 bc bs (zQ below s args d cy B0 bc bs (.inl none) zSH zKn bc bs r L) 84 [(0, .ref (B0 + 97)), (1, .int v1), (2, .int v2)] [] zSH zKn bc bs I L) (fun k9 hk9 v1 v2 I h => l_X12_findNets_84 C L k76 hk76 k9 hk9 v1 v2 I h) zF v1 v2 I h
set_option maxHeartbeats 4000000 in
set_option maxRecDepth 100000 in
theorem l_X12_findNets_186 {r : zI} (C : zC p l e R s m args below meth c s0 a0 d cy B0 yX12_findNets.cls cX12_findNets 4 none bc bs bc bs 2 51 []) (L : zL) (k128 : Int32 → zI → Option zI) (hk128 : ∀ (v2 : Int32) (I : zI), k128 v2 I = some r → zG p l e R s m args below meth c d cy B0 4 bc bs (zQ below s args d cy B0 bc bs (.inl none) zSH zKn bc bs r L) 128 [(0, .ref (B0 + 97)), (2, .int v2)] [] zSH zKn bc bs I L) (v2 : Int32) (I : zI) (h : f_X12_findNets_186 k128 v2 I = some r) : zG p l e R s m args below meth c d cy B0 4 bc bs (zQ below s args d cy B0 bc bs (.inl none) zSH zKn bc bs r L) 186 [(0, .ref (B0 + 97)), (2, .int v2)] [] zSH zKn bc bs I L := by
  unfold f_X12_findNets_186 at h
  obtain ⟨x27, ex27, h⟩ := zlt_e h
  refine z_iinc C (j := 1) (v := x27) (lv' := [(2, .int x27), (0, .ref (B0 + 97))]) rfl (by rw [ex27]; rfl) (by decide) rfl dX12_findNets_186 ?_
  refine z_goto C 128 (by decide) dX12_findNets_189 ?_
  refine z_lv [1, 0] (lv' := [(0, .ref (B0 + 97)), (2, .int x27)]) rfl ?_
  exact hk128 x27 I h
set_option maxHeartbeats 4000000 in
set_option maxRecDepth 100000 in
theorem l_X12_findNets_128 {r : zI} (C : zC p l e R s m args below meth c s0 a0 d cy B0 yX12_findNets.cls cX12_findNets 4 none bc bs bc bs 2 51 []) (L : zL) (k128 : Int32 → zI → Option zI) (hk128 : ∀ (v2 : Int32) (I : zI), k128 v2 I = some r → zG p l e R s m args below meth c d cy B0 4 bc bs (zQ below s args d cy B0 bc bs (.inl none) zSH zKn bc bs r L) 128 [(0, .ref (B0 + 97)), (2, .int v2)] [] zSH zKn bc bs I L) (v2 : Int32) (I : zI) (h : f_X12_findNets_128 k128 v2 I = some r) : zG p l e R s m args below meth c d cy B0 4 bc bs (zQ below s args d cy B0 bc bs (.inl none) zSH zKn bc bs r L) 128 [(0, .ref (B0 + 97)), (2, .int v2)] [] zSH zKn bc bs I L := by
  unfold f_X12_findNets_128 at h
  refine z_iload_n C rfl 1 rfl dX12_findNets_128 ?_
  refine z_aload_n C rfl 0 rfl dX12_findNets_129 ?_
  refine z_geti C zc_12 dX12_findNets_130 35 97 rfl (by decide) (by decide) q_1204 rfl ?_
  refine z_icmp_ge C 192 (by decide) dX12_findNets_133 (fun hc => ?_) (fun hc => ?_)
  · have h := zif_t hc h
    obtain rfl := Option.some.inj h
    exact z_vret C dX12_findNets_192 rfl rfl
  · have h := zif_f hc h
    refine z_aload_n C rfl 0 rfl dX12_findNets_136 ?_
    refine z_getr C zc_12 dX12_findNets_137 36 97 122 rfl (by decide) (by decide) q_1205 rfl rfl ?_
    refine z_iload_n C rfl 1 rfl dX12_findNets_140 ?_
    obtain ⟨hb14, h⟩ := zck_e h
    refine z_iaload C dX12_findNets_141 rfl rfl (by decide) (zbd_in hb14) ?_
    refine z_iload_n C rfl 1 rfl dX12_findNets_142 ?_
    refine z_icmp_ne C 169 (by decide) dX12_findNets_143 (fun hc => ?_) (fun hc => ?_)
    · have h := zif_f hc h
      refine z_aload_n C rfl 0 rfl dX12_findNets_169 ?_
      refine z_getr C zc_12 dX12_findNets_170 37 97 123 rfl (by decide) (by decide) q_1206 rfl rfl ?_
      refine z_iload_n C rfl 1 rfl dX12_findNets_173 ?_
      refine z_aload_n C rfl 0 rfl dX12_findNets_174 ?_
      refine z_getr C zc_12 dX12_findNets_175 37 97 123 rfl (by decide) (by decide) q_1206 rfl rfl ?_
      refine z_aload_n C rfl 0 rfl dX12_findNets_178 ?_
      refine z_getr C zc_12 dX12_findNets_179 36 97 122 rfl (by decide) (by decide) q_1205 rfl rfl ?_
      refine z_iload_n C rfl 1 rfl dX12_findNets_182 ?_
      obtain ⟨hb15, h⟩ := zck_e h
      refine z_iaload C dX12_findNets_183 rfl rfl (by decide) (zbd_in hb15) ?_
      obtain ⟨x16, ex16, h⟩ := zlt_e h
      refine z_eqi C ex16 ?_
      obtain ⟨hb17, h⟩ := zck_e h
      refine z_iaload C dX12_findNets_184 rfl rfl (by decide) (zbd_in hb17) ?_
      obtain ⟨hb18, h⟩ := zck_e h
      refine z_iastore C dX12_findNets_185 rfl rfl (by decide) (zbd_in hb18) ?_
      obtain ⟨I19, eI19, h⟩ := zlt_e h
      refine z_eqI C eI19 ?_
      exact l_X12_findNets_186 C L k128 hk128 v2 I19 h
    · have h := zif_t hc h
      refine z_aload_n C rfl 0 rfl dX12_findNets_146 ?_
      refine z_getr C zc_12 dX12_findNets_147 37 97 123 rfl (by decide) (by decide) q_1206 rfl rfl ?_
      refine z_iload_n C rfl 1 rfl dX12_findNets_150 ?_
      refine z_aload_n C rfl 0 rfl dX12_findNets_151 ?_
      refine z_geti C zc_12 dX12_findNets_152 38 97 rfl (by decide) (by decide) q_1207 rfl ?_
      obtain ⟨hb20, h⟩ := zck_e h
      refine z_iastore C dX12_findNets_155 rfl rfl (by decide) (zbd_in hb20) ?_
      obtain ⟨I21, eI21, h⟩ := zlt_e h
      refine z_eqI C eI21 ?_
      refine z_aload_n C rfl 0 rfl dX12_findNets_156 ?_
      refine z_dup C rfl dX12_findNets_157 ?_
      refine z_geti C zc_12 dX12_findNets_158 38 97 rfl (by decide) (by decide) q_1207 rfl ?_
      refine z_iconst C (v := 1) (by decide) dX12_findNets_161 ?_
      refine z_iadd C dX12_findNets_162 ?_
      obtain ⟨x22, ex22, h⟩ := zlt_e h
      refine z_eqi C ex22 ?_
      refine z_puti C zc_12 dX12_findNets_163 38 97 rfl (by decide) (by decide) rfl q_1207 rfl rfl rfl ?_
      obtain ⟨I23, eI23, h⟩ := zlt_e h
      refine z_eqI C eI23 ?_
      refine z_goto C 186 (by decide) dX12_findNets_166 ?_
      exact l_X12_findNets_186 C L k128 hk128 v2 I23 h
set_option maxHeartbeats 4000000 in
set_option maxRecDepth 100000 in
theorem L_X12_findNets_128 {r : zI} (C : zC p l e R s m args below meth c s0 a0 d cy B0 yX12_findNets.cls cX12_findNets 4 none bc bs bc bs 2 51 []) (L : zL) (v2 : Int32) (I : zI) (h : zlp2 (f_X12_findNets_128) zF v2 I = some r) : zG p l e R s m args below meth c d cy B0 4 bc bs (zQ below s args d cy B0 bc bs (.inl none) zSH zKn bc bs r L) 128 [(0, .ref (B0 + 97)), (2, .int v2)] [] zSH zKn bc bs I L :=
 zlp2_e (fun (v2 : Int32) (I : zI) => zG p l e R s m args below meth c d cy B0 4 bc bs (zQ below s args d cy B0 bc bs (.inl none) zSH zKn bc bs r L) 128 [(0, .ref (B0 + 97)), (2, .int v2)] [] zSH zKn bc bs I L) (fun k9 hk9 v2 I h => l_X12_findNets_128 C L k9 hk9 v2 I h) zF v2 I h
set_option maxHeartbeats 4000000 in
set_option maxRecDepth 100000 in
theorem l_X12_findNets_76 {r : zI} (C : zC p l e R s m args below meth c s0 a0 d cy B0 yX12_findNets.cls cX12_findNets 4 none bc bs bc bs 2 51 []) (L : zL) (k76 : Int32 → zI → Option zI) (hk76 : ∀ (v1 : Int32) (I : zI), k76 v1 I = some r → zG p l e R s m args below meth c d cy B0 4 bc bs (zQ below s args d cy B0 bc bs (.inl none) zSH zKn bc bs r L) 76 [(0, .ref (B0 + 97)), (1, .int v1)] [] zSH zKn bc bs I L) (v1 : Int32) (I : zI) (h : f_X12_findNets_76 k76 v1 I = some r) : zG p l e R s m args below meth c d cy B0 4 bc bs (zQ below s args d cy B0 bc bs (.inl none) zSH zKn bc bs r L) 76 [(0, .ref (B0 + 97)), (1, .int v1)] [] zSH zKn bc bs I L := by
  unfold f_X12_findNets_76 at h
  refine z_iload_n C rfl 1 rfl dX12_findNets_76 ?_
  refine z_if_eq C 121 (by decide) dX12_findNets_77 (fun hc => ?_) (fun hc => ?_)
  · have h := zif_t hc h
    refine z_aload_n C rfl 0 rfl dX12_findNets_121 ?_
    refine z_iconst C (v := 0) (by decide) dX12_findNets_122 ?_
    refine z_puti C zc_12 dX12_findNets_123 38 97 rfl (by decide) (by decide) rfl q_1207 rfl rfl rfl ?_
    obtain ⟨I13, eI13, h⟩ := zlt_e h
    refine z_eqI C eI13 ?_
    refine z_iconst C (v := 0) (by decide) dX12_findNets_126 ?_
    refine z_istore_n C (lv' := [(2, .int (0 : Int32)), (0, .ref (B0 + 97)), (1, .int v1)]) rfl (by decide) rfl dX12_findNets_127 ?_
    refine z_lv [1, 0] (lv' := [(0, .ref (B0 + 97)), (2, .int (0 : Int32))]) rfl ?_
    exact L_X12_findNets_128 C L (0 : Int32) I13 h
  · have h := zif_f hc h
    refine z_iconst C (v := 0) (by decide) dX12_findNets_80 ?_
    refine z_istore_n C (lv' := [(1, .int (0 : Int32)), (0, .ref (B0 + 97))]) rfl (by decide) rfl dX12_findNets_81 ?_
    refine z_iconst C (v := 0) (by decide) dX12_findNets_82 ?_
    refine z_istore_n C (lv' := [(2, .int (0 : Int32)), (1, .int (0 : Int32)), (0, .ref (B0 + 97))]) rfl (by decide) rfl dX12_findNets_83 ?_
    refine z_lv [2, 1, 0] (lv' := [(0, .ref (B0 + 97)), (1, .int (0 : Int32)), (2, .int (0 : Int32))]) rfl ?_
    exact L_X12_findNets_84 C L k76 hk76 (0 : Int32) (0 : Int32) I h
set_option maxHeartbeats 4000000 in
set_option maxRecDepth 100000 in
theorem L_X12_findNets_76 {r : zI} (C : zC p l e R s m args below meth c s0 a0 d cy B0 yX12_findNets.cls cX12_findNets 4 none bc bs bc bs 2 51 []) (L : zL) (v1 : Int32) (I : zI) (h : zlp2 (f_X12_findNets_76) zF v1 I = some r) : zG p l e R s m args below meth c d cy B0 4 bc bs (zQ below s args d cy B0 bc bs (.inl none) zSH zKn bc bs r L) 76 [(0, .ref (B0 + 97)), (1, .int v1)] [] zSH zKn bc bs I L :=
 zlp2_e (fun (v1 : Int32) (I : zI) => zG p l e R s m args below meth c d cy B0 4 bc bs (zQ below s args d cy B0 bc bs (.inl none) zSH zKn bc bs r L) 76 [(0, .ref (B0 + 97)), (1, .int v1)] [] zSH zKn bc bs I L) (fun k9 hk9 v1 I h => l_X12_findNets_76 C L k9 hk9 v1 I h) zF v1 I h
set_option maxHeartbeats 4000000 in
set_option maxRecDepth 100000 in
theorem l_X12_findNets_53 {r : zI} (C : zC p l e R s m args below meth c s0 a0 d cy B0 yX12_findNets.cls cX12_findNets 4 none bc bs bc bs 2 51 []) (L : zL) (k53 : Int32 → zI → Option zI) (hk53 : ∀ (v1 : Int32) (I : zI), k53 v1 I = some r → zG p l e R s m args below meth c d cy B0 4 bc bs (zQ below s args d cy B0 bc bs (.inl none) zSH zKn bc bs r L) 53 [(0, .ref (B0 + 97)), (1, .int v1)] [] zSH zKn bc bs I L) (v1 : Int32) (I : zI) (h : f_X12_findNets_53 k53 v1 I = some r) : zG p l e R s m args below meth c d cy B0 4 bc bs (zQ below s args d cy B0 bc bs (.inl none) zSH zKn bc bs r L) 53 [(0, .ref (B0 + 97)), (1, .int v1)] [] zSH zKn bc bs I L := by
  unfold f_X12_findNets_53 at h
  refine z_iload_n C rfl 1 rfl dX12_findNets_53 ?_
  refine z_aload_n C rfl 0 rfl dX12_findNets_54 ?_
  refine z_geti C zc_12 dX12_findNets_55 35 97 rfl (by decide) (by decide) q_1204 rfl ?_
  refine z_icmp_ge C 74 (by decide) dX12_findNets_58 (fun hc => ?_) (fun hc => ?_)
  · have h := zif_t hc h
    refine z_iconst C (v := 1) (by decide) dX12_findNets_74 ?_
    refine z_istore_n C (lv' := [(1, .int (1 : Int32)), (0, .ref (B0 + 97))]) rfl (by decide) rfl dX12_findNets_75 ?_
    refine z_lv [1, 0] (lv' := [(0, .ref (B0 + 97)), (1, .int (1 : Int32))]) rfl ?_
    exact L_X12_findNets_76 C L (1 : Int32) I h
  · have h := zif_f hc h
    refine z_aload_n C rfl 0 rfl dX12_findNets_61 ?_
    refine z_getr C zc_12 dX12_findNets_62 36 97 122 rfl (by decide) (by decide) q_1205 rfl rfl ?_
    refine z_iload_n C rfl 1 rfl dX12_findNets_65 ?_
    refine z_iload_n C rfl 1 rfl dX12_findNets_66 ?_
    obtain ⟨hb10, h⟩ := zck_e h
    refine z_iastore C dX12_findNets_67 rfl rfl (by decide) (zbd_in hb10) ?_
    obtain ⟨I11, eI11, h⟩ := zlt_e h
    refine z_eqI C eI11 ?_
    obtain ⟨x12, ex12, h⟩ := zlt_e h
    refine z_iinc C (j := 1) (v := x12) (lv' := [(1, .int x12), (0, .ref (B0 + 97))]) rfl (by rw [ex12]; rfl) (by decide) rfl dX12_findNets_68 ?_
    refine z_goto C 53 (by decide) dX12_findNets_71 ?_
    refine z_lv [1, 0] (lv' := [(0, .ref (B0 + 97)), (1, .int x12)]) rfl ?_
    exact hk53 x12 I11 h
set_option maxHeartbeats 4000000 in
set_option maxRecDepth 100000 in
theorem L_X12_findNets_53 {r : zI} (C : zC p l e R s m args below meth c s0 a0 d cy B0 yX12_findNets.cls cX12_findNets 4 none bc bs bc bs 2 51 []) (L : zL) (v1 : Int32) (I : zI) (h : zlp2 (f_X12_findNets_53) zF v1 I = some r) : zG p l e R s m args below meth c d cy B0 4 bc bs (zQ below s args d cy B0 bc bs (.inl none) zSH zKn bc bs r L) 53 [(0, .ref (B0 + 97)), (1, .int v1)] [] zSH zKn bc bs I L :=
 zlp2_e (fun (v1 : Int32) (I : zI) => zG p l e R s m args below meth c d cy B0 4 bc bs (zQ below s args d cy B0 bc bs (.inl none) zSH zKn bc bs r L) 53 [(0, .ref (B0 + 97)), (1, .int v1)] [] zSH zKn bc bs I L) (fun k9 hk9 v1 I h => l_X12_findNets_53 C L k9 hk9 v1 I h) zF v1 I h
set_option maxHeartbeats 4000000 in
set_option maxRecDepth 100000 in
theorem l_X12_findNets_7 {r : zI} (C : zC p l e R s m args below meth c s0 a0 d cy B0 yX12_findNets.cls cX12_findNets 4 none bc bs bc bs 2 51 []) (L : zL) (k7 : Int32 → zI → Option zI) (hk7 : ∀ (v1 : Int32) (I : zI), k7 v1 I = some r → zG p l e R s m args below meth c d cy B0 4 bc bs (zQ below s args d cy B0 bc bs (.inl none) zSH zKn bc bs r L) 7 [(0, .ref (B0 + 97)), (1, .int v1)] [] zSH zKn bc bs I L) (v1 : Int32) (I : zI) (h : f_X12_findNets_7 k7 v1 I = some r) : zG p l e R s m args below meth c d cy B0 4 bc bs (zQ below s args d cy B0 bc bs (.inl none) zSH zKn bc bs r L) 7 [(0, .ref (B0 + 97)), (1, .int v1)] [] zSH zKn bc bs I L := by
  unfold f_X12_findNets_7 at h
  refine z_iload_n C rfl 1 rfl dX12_findNets_7 ?_
  refine z_aload_n C rfl 0 rfl dX12_findNets_8 ?_
  refine z_geti C zc_12 dX12_findNets_9 13 97 rfl (by decide) (by decide) q_1182 rfl ?_
  refine z_icmp_ge C 51 (by decide) dX12_findNets_12 (fun hc => ?_) (fun hc => ?_)
  · have h := zif_t hc h
    refine z_iconst C (v := 0) (by decide) dX12_findNets_51 ?_
    refine z_istore_n C (lv' := [(1, .int (0 : Int32)), (0, .ref (B0 + 97))]) rfl (by decide) rfl dX12_findNets_52 ?_
    refine z_lv [1, 0] (lv' := [(0, .ref (B0 + 97)), (1, .int (0 : Int32))]) rfl ?_
    exact L_X12_findNets_53 C L (0 : Int32) I h
  · have h := zif_f hc h
    refine z_aload_n C rfl 0 rfl dX12_findNets_15 ?_
    refine z_getr C zc_12 dX12_findNets_16 34 97 121 rfl (by decide) (by decide) q_1203 rfl rfl ?_
    refine z_iload_n C rfl 1 rfl dX12_findNets_19 ?_
    refine z_aload_n C rfl 0 rfl dX12_findNets_20 ?_
    refine z_geti C zc_12 dX12_findNets_21 35 97 rfl (by decide) (by decide) q_1204 rfl ?_
    obtain ⟨hb2, h⟩ := zck_e h
    refine z_iastore C dX12_findNets_24 rfl rfl (by decide) (zbd_in hb2) ?_
    obtain ⟨I3, eI3, h⟩ := zlt_e h
    refine z_eqI C eI3 ?_
    refine z_aload_n C rfl 0 rfl dX12_findNets_25 ?_
    refine z_dup C rfl dX12_findNets_26 ?_
    refine z_geti C zc_12 dX12_findNets_27 35 97 rfl (by decide) (by decide) q_1204 rfl ?_
    refine z_aload_n C rfl 0 rfl dX12_findNets_30 ?_
    refine z_getr C zc_12 dX12_findNets_31 33 97 120 rfl (by decide) (by decide) q_1202 rfl rfl ?_
    refine z_aload_n C rfl 0 rfl dX12_findNets_34 ?_
    refine z_getr C zc_12 dX12_findNets_35 20 97 109 rfl (by decide) (by decide) q_1189 rfl rfl ?_
    refine z_iload_n C rfl 1 rfl dX12_findNets_38 ?_
    obtain ⟨hb4, h⟩ := zck_e h
    refine z_iaload C dX12_findNets_39 rfl rfl (by decide) (zbd_in hb4) ?_
    obtain ⟨x5, ex5, h⟩ := zlt_e h
    refine z_eqi C ex5 ?_
    obtain ⟨hb6, h⟩ := zck_e h
    refine z_iaload C dX12_findNets_40 rfl rfl (by decide) (zbd_in hb6) ?_
    refine z_iadd C dX12_findNets_41 ?_
    obtain ⟨x7, ex7, h⟩ := zlt_e h
    refine z_eqi C ex7 ?_
    refine z_puti C zc_12 dX12_findNets_42 35 97 rfl (by decide) (by decide) rfl q_1204 rfl rfl rfl ?_
    obtain ⟨I8, eI8, h⟩ := zlt_e h
    refine z_eqI C eI8 ?_
    obtain ⟨x9, ex9, h⟩ := zlt_e h
    refine z_iinc C (j := 1) (v := x9) (lv' := [(1, .int x9), (0, .ref (B0 + 97))]) rfl (by rw [ex9]; rfl) (by decide) rfl dX12_findNets_45 ?_
    refine z_goto C 7 (by decide) dX12_findNets_48 ?_
    refine z_lv [1, 0] (lv' := [(0, .ref (B0 + 97)), (1, .int x9)]) rfl ?_
    exact hk7 x9 I8 h
set_option maxHeartbeats 4000000 in
set_option maxRecDepth 100000 in
theorem L_X12_findNets_7 {r : zI} (C : zC p l e R s m args below meth c s0 a0 d cy B0 yX12_findNets.cls cX12_findNets 4 none bc bs bc bs 2 51 []) (L : zL) (v1 : Int32) (I : zI) (h : zlp2 (f_X12_findNets_7) zF v1 I = some r) : zG p l e R s m args below meth c d cy B0 4 bc bs (zQ below s args d cy B0 bc bs (.inl none) zSH zKn bc bs r L) 7 [(0, .ref (B0 + 97)), (1, .int v1)] [] zSH zKn bc bs I L :=
 zlp2_e (fun (v1 : Int32) (I : zI) => zG p l e R s m args below meth c d cy B0 4 bc bs (zQ below s args d cy B0 bc bs (.inl none) zSH zKn bc bs r L) 7 [(0, .ref (B0 + 97)), (1, .int v1)] [] zSH zKn bc bs I L) (fun k9 hk9 v1 I h => l_X12_findNets_7 C L k9 hk9 v1 I h) zF v1 I h
set_option maxHeartbeats 4000000 in
set_option maxRecDepth 100000 in
theorem c_X12_findNets {r : zI} (hE : zE0 l s0 a0 d cy B0) (I : zI) (L : zL) (h : f_X12_findNets I = some r) : zM l s0 d cy B0 yX12_findNets cX12_findNets 4 none 2 51 [.ref (B0 + 97)] zSH zKn bc bs I L (.inl none) zSH zKn bc bs r L := by
  refine z_meth yy_X12_findNets hE (Nat.le_of_ble_eq_true rfl) (fun p e R s m args below meth c C => ?_)
  show zG p l e R s m args below meth c d cy B0 4 bc bs (zQ below s args d cy B0 bc bs (.inl none) zSH zKn bc bs r L) 0 [(0, .ref (B0 + 97))] [] zSH zKn bc bs I L
  unfold f_X12_findNets at h
  refine z_aload_n C rfl 0 rfl dX12_findNets_0 ?_
  refine z_iconst C (v := 0) (by decide) dX12_findNets_1 ?_
  refine z_puti C zc_12 dX12_findNets_2 35 97 rfl (by decide) (by decide) rfl q_1204 rfl rfl rfl ?_
  obtain ⟨I1, eI1, h⟩ := zlt_e h
  refine z_eqI C eI1 ?_
  refine z_iconst C (v := 0) (by decide) dX12_findNets_5 ?_
  refine z_istore_n C (lv' := [(1, .int (0 : Int32)), (0, .ref (B0 + 97))]) rfl (by decide) rfl dX12_findNets_6 ?_
  refine z_lv [1, 0] (lv' := [(0, .ref (B0 + 97)), (1, .int (0 : Int32))]) rfl ?_
  exact L_X12_findNets_7 C L (0 : Int32) I1 h
theorem q_1225 : (Cond.fieldLink "DeviceFindModel" (116 : Nat) "DeviceFindModel" "touched" "[Z") ∈ lw_tbl := List.mem_of_getElem? (i := 1225) (by decide +kernel)
theorem q_1496 : (Cond.code ({ cls := "DeviceFindModel", name := "touch", desc := "(III)V" } : Jvm.MethodName) prog_14_method_38_code (8 : Nat) (Option.none : Option Jvm.ClassFile.FieldType)) ∈ lw_tbl := List.mem_of_getElem? (i := 1496) (by decide +kernel)
theorem yy_X12_touch : zY yX12_touch cX12_touch 8 none 3 := ⟨q_1496, q_88, by decide +kernel, by decide +kernel, by decide +kernel⟩
def f_X12_touch_160 (k48 : Int32 → Int32 → Int32 → Int32 → zI → Option zI) (k109 : Int32 → Int32 → Int32 → Int32 → Int32 → zI → Option zI) (v2 : Int32) (v3 : Int32) (v4 : Int32) (v5 : Int32) (v6 : Int32) (I : zI) : Option zI :=
  zlt (v6 + 1) (fun x26 => k109 v2 v3 v4 v5 x26 I)
def f_X12_touch_166 (k48 : Int32 → Int32 → Int32 → Int32 → zI → Option zI) (v2 : Int32) (v3 : Int32) (v4 : Int32) (v5 : Int32) (I : zI) : Option zI :=
  zlt (v5 + 1) (fun x17 => k48 v2 v3 v4 x17 I)
def f_X12_touch_109 (k48 : Int32 → Int32 → Int32 → Int32 → zI → Option zI) (k109 : Int32 → Int32 → Int32 → Int32 → Int32 → zI → Option zI) (v2 : Int32) (v3 : Int32) (v4 : Int32) (v5 : Int32) (v6 : Int32) (I : zI) : Option zI :=
  if (4 : Int32) ≤ v6 then (f_X12_touch_166 k48 v2 v3 v4 v5 I) else (zb1 (f_X12_beside v5 v6) (fun x19 => if x19 = (-1 : Int32) then (f_X12_touch_160 k48 k109 v2 v3 v4 v5 v6 I) else (zlt (v4 + x19) (fun x20 => zck (zbd x20 98304) (if (I 119 x20.toNatClampNeg) = (-1 : Int32) then (f_X12_touch_160 k48 k109 v2 v3 v4 v5 v6 I) else (zlt (v4 + x19) (fun x22 => zck (zbd x22 98304) (zck (zbd (I 119 x22.toNatClampNeg) 4096) (zlt (zu I 132 (I 119 x22.toNatClampNeg).toNatClampNeg (vp_nar .boolean (1 : Int32))) (fun I25 => f_X12_touch_160 k48 k109 v2 v3 v4 v5 v6 I25))))))))))
def f_X12_touch_106 (k48 : Int32 → Int32 → Int32 → Int32 → zI → Option zI) (v2 : Int32) (v3 : Int32) (v4 : Int32) (v5 : Int32) (I : zI) : Option zI :=
  zlp6 (f_X12_touch_109 k48) zF v2 v3 v4 v5 (0 : Int32) I
def f_X12_touch_48 (k48 : Int32 → Int32 → Int32 → Int32 → zI → Option zI) (v2 : Int32) (v3 : Int32) (v4 : Int32) (v5 : Int32) (I : zI) : Option zI :=
  if (4096 : Int32) ≤ v5 then (some I) else (zlt (((4096 : Int32) * v2) + v5) (fun x9 => zck (zbd x9 98304) (if (I 119 x9.toNatClampNeg) = v3 then (zlt (v4 + v5) (fun x11 => zck (zbd x11 98304) (if (I 119 x11.toNatClampNeg) = (-1 : Int32) then (f_X12_touch_106 k48 v2 v3 v4 v5 I) else (zlt (v4 + v5) (fun x13 => zck (zbd x13 98304) (zck (zbd (I 119 x13.toNatClampNeg) 4096) (zlt (zu I 132 (I 119 x13.toNatClampNeg).toNatClampNeg (vp_nar .boolean (1 : Int32))) (fun I16 => f_X12_touch_106 k48 v2 v3 v4 v5 I16)))))))) else (f_X12_touch_166 k48 v2 v3 v4 v5 I))))
def f_X12_touch_15 (k15 : Int32 → Int32 → Int32 → Int32 → Int32 → zI → Option zI) (v1 : Int32) (v2 : Int32) (v3 : Int32) (v4 : Int32) (v5 : Int32) (I : zI) : Option zI :=
  zck (zbd v1 16) (zlt (I 109 v1.toNatClampNeg) (fun x4 => zck (zbd x4 24) (if (I 120 x4.toNatClampNeg) ≤ v5 then (zlp5 (f_X12_touch_48) zF v2 v3 v4 (0 : Int32) I) else (zck (zbd v5 4096) (zlt (zu I 132 v5.toNatClampNeg (vp_nar .boolean (0 : Int32))) (fun I7 => zlt (v5 + 1) (fun x8 => k15 v1 v2 v3 v4 x8 I7)))))))
def f_X12_touch (a1 : Int32) (a2 : Int32) (a3 : Int32) (I : zI) : Option zI :=
  zck (zbd a1 16) (zlt ((4096 : Int32) * (I 109 a1.toNatClampNeg)) (fun x2 => zlp6 (f_X12_touch_15) zF a1 a2 a3 x2 (0 : Int32) I))
set_option maxHeartbeats 4000000 in
set_option maxRecDepth 100000 in
theorem l_X12_touch_160 {r : zI} (C : zC p l e R s m args below meth c s0 a0 d cy B0 yX12_touch.cls cX12_touch 8 none bc bs bc bs 2 46 []) (L : zL) (k48 : Int32 → Int32 → Int32 → Int32 → zI → Option zI) (hk48 : ∀ (v2 : Int32) (v3 : Int32) (v4 : Int32) (v5 : Int32) (I : zI), k48 v2 v3 v4 v5 I = some r → zG p l e R s m args below meth c d cy B0 8 bc bs (zQ below s args d cy B0 bc bs (.inl none) zSH zKn bc bs r L) 48 [(0, .ref (B0 + 97)), (2, .int v2), (3, .int v3), (4, .int v4), (5, .int v5)] [] zSH zKn bc bs I L) (k109 : Int32 → Int32 → Int32 → Int32 → Int32 → zI → Option zI) (hk109 : ∀ (v2 : Int32) (v3 : Int32) (v4 : Int32) (v5 : Int32) (v6 : Int32) (I : zI), k109 v2 v3 v4 v5 v6 I = some r → zG p l e R s m args below meth c d cy B0 8 bc bs (zQ below s args d cy B0 bc bs (.inl none) zSH zKn bc bs r L) 109 [(0, .ref (B0 + 97)), (2, .int v2), (3, .int v3), (4, .int v4), (5, .int v5), (6, .int v6)] [] zSH zKn bc bs I L) (v2 : Int32) (v3 : Int32) (v4 : Int32) (v5 : Int32) (v6 : Int32) (I : zI) (h : f_X12_touch_160 k48 k109 v2 v3 v4 v5 v6 I = some r) : zG p l e R s m args below meth c d cy B0 8 bc bs (zQ below s args d cy B0 bc bs (.inl none) zSH zKn bc bs r L) 160 [(0, .ref (B0 + 97)), (2, .int v2), (3, .int v3), (4, .int v4), (5, .int v5), (6, .int v6)] [] zSH zKn bc bs I L := by
  unfold f_X12_touch_160 at h
  obtain ⟨x26, ex26, h⟩ := zlt_e h
  refine z_iinc C (j := 5) (v := x26) (lv' := [(6, .int x26), (0, .ref (B0 + 97)), (2, .int v2), (3, .int v3), (4, .int v4), (5, .int v5)]) rfl (by rw [ex26]; rfl) (by decide) rfl dX12_touch_160 ?_
  refine z_goto C 109 (by decide) dX12_touch_163 ?_
  refine z_lv [1, 2, 3, 4, 5, 0] (lv' := [(0, .ref (B0 + 97)), (2, .int v2), (3, .int v3), (4, .int v4), (5, .int v5), (6, .int x26)]) rfl ?_
  exact hk109 v2 v3 v4 v5 x26 I h
set_option maxHeartbeats 4000000 in
set_option maxRecDepth 100000 in
theorem l_X12_touch_166 {r : zI} (C : zC p l e R s m args below meth c s0 a0 d cy B0 yX12_touch.cls cX12_touch 8 none bc bs bc bs 2 46 []) (L : zL) (k48 : Int32 → Int32 → Int32 → Int32 → zI → Option zI) (hk48 : ∀ (v2 : Int32) (v3 : Int32) (v4 : Int32) (v5 : Int32) (I : zI), k48 v2 v3 v4 v5 I = some r → zG p l e R s m args below meth c d cy B0 8 bc bs (zQ below s args d cy B0 bc bs (.inl none) zSH zKn bc bs r L) 48 [(0, .ref (B0 + 97)), (2, .int v2), (3, .int v3), (4, .int v4), (5, .int v5)] [] zSH zKn bc bs I L) (v2 : Int32) (v3 : Int32) (v4 : Int32) (v5 : Int32) (I : zI) (h : f_X12_touch_166 k48 v2 v3 v4 v5 I = some r) : zG p l e R s m args below meth c d cy B0 8 bc bs (zQ below s args d cy B0 bc bs (.inl none) zSH zKn bc bs r L) 166 [(0, .ref (B0 + 97)), (2, .int v2), (3, .int v3), (4, .int v4), (5, .int v5)] [] zSH zKn bc bs I L := by
  unfold f_X12_touch_166 at h
  obtain ⟨x17, ex17, h⟩ := zlt_e h
  refine z_iinc C (j := 4) (v := x17) (lv' := [(5, .int x17), (0, .ref (B0 + 97)), (2, .int v2), (3, .int v3), (4, .int v4)]) rfl (by rw [ex17]; rfl) (by decide) rfl dX12_touch_166 ?_
  refine z_goto C 48 (by decide) dX12_touch_169 ?_
  refine z_lv [1, 2, 3, 4, 0] (lv' := [(0, .ref (B0 + 97)), (2, .int v2), (3, .int v3), (4, .int v4), (5, .int x17)]) rfl ?_
  exact hk48 v2 v3 v4 x17 I h
set_option maxHeartbeats 4000000 in
set_option maxRecDepth 100000 in
theorem l_X12_touch_109 {r : zI} (C : zC p l e R s m args below meth c s0 a0 d cy B0 yX12_touch.cls cX12_touch 8 none bc bs bc bs 2 46 []) (L : zL) (k48 : Int32 → Int32 → Int32 → Int32 → zI → Option zI) (hk48 : ∀ (v2 : Int32) (v3 : Int32) (v4 : Int32) (v5 : Int32) (I : zI), k48 v2 v3 v4 v5 I = some r → zG p l e R s m args below meth c d cy B0 8 bc bs (zQ below s args d cy B0 bc bs (.inl none) zSH zKn bc bs r L) 48 [(0, .ref (B0 + 97)), (2, .int v2), (3, .int v3), (4, .int v4), (5, .int v5)] [] zSH zKn bc bs I L) (k109 : Int32 → Int32 → Int32 → Int32 → Int32 → zI → Option zI) (hk109 : ∀ (v2 : Int32) (v3 : Int32) (v4 : Int32) (v5 : Int32) (v6 : Int32) (I : zI), k109 v2 v3 v4 v5 v6 I = some r → zG p l e R s m args below meth c d cy B0 8 bc bs (zQ below s args d cy B0 bc bs (.inl none) zSH zKn bc bs r L) 109 [(0, .ref (B0 + 97)), (2, .int v2), (3, .int v3), (4, .int v4), (5, .int v5), (6, .int v6)] [] zSH zKn bc bs I L) (v2 : Int32) (v3 : Int32) (v4 : Int32) (v5 : Int32) (v6 : Int32) (I : zI) (h : f_X12_touch_109 k48 k109 v2 v3 v4 v5 v6 I = some r) : zG p l e R s m args below meth c d cy B0 8 bc bs (zQ below s args d cy B0 bc bs (.inl none) zSH zKn bc bs r L) 109 [(0, .ref (B0 + 97)), (2, .int v2), (3, .int v3), (4, .int v4), (5, .int v5), (6, .int v6)] [] zSH zKn bc bs I L := by
  unfold f_X12_touch_109 at h
  refine z_iload C 5 rfl dX12_touch_109 ?_
  refine z_iconst C (v := 4) (by decide) dX12_touch_111 ?_
  refine z_icmp_ge C 166 (by decide) dX12_touch_112 (fun hc => ?_) (fun hc => ?_)
  · have h := zif_t hc h
    refine z_lv [0, 1, 2, 3, 4] (lv' := [(0, .ref (B0 + 97)), (2, .int v2), (3, .int v3), (4, .int v4), (5, .int v5)]) rfl ?_
    exact l_X12_touch_166 C L k48 hk48 v2 v3 v4 v5 I h
  · have h := zif_f hc h
    refine z_iload C 4 rfl dX12_touch_115 ?_
    refine z_iload C 5 rfl dX12_touch_117 ?_
    obtain ⟨x19, hg18, h⟩ := zb1_e h
    refine z_callS C dX12_touch_119 yy_X12_beside (c_X12_beside C.2.2.2.2.1  v5 v6 I L hg18) q_1473 q_1474 (by decide) (by decide) rfl rfl (Nat.le_of_ble_eq_true rfl) ⟨Nat.le_refl _, Nat.le_refl _, Nat.le_refl _, Nat.le_refl _⟩ ?_
    refine z_istore C (lv' := [(7, .int x19), (0, .ref (B0 + 97)), (2, .int v2), (3, .int v3), (4, .int v4), (5, .int v5), (6, .int v6)]) (by decide) rfl dX12_touch_122 ?_
    refine z_iload C 0 rfl dX12_touch_124 ?_
    refine z_iconst C (v := -1) (by decide) dX12_touch_126 ?_
    refine z_icmp_eq C 160 (by decide) dX12_touch_127 (fun hc => ?_) (fun hc => ?_)
    · have h := zif_t hc h
      refine z_lv [1, 2, 3, 4, 5, 6] (lv' := [(0, .ref (B0 + 97)), (2, .int v2), (3, .int v3), (4, .int v4), (5, .int v5), (6, .int v6)]) rfl ?_
      exact l_X12_touch_160 C L k48 hk48 k109 hk109 v2 v3 v4 v5 v6 I h
    · have h := zif_f hc h
      refine z_aload_n C rfl 1 rfl dX12_touch_130 ?_
      refine z_getr C zc_12 dX12_touch_131 32 97 119 rfl (by decide) (by decide) q_1201 rfl rfl ?_
      refine z_iload C 4 rfl dX12_touch_134 ?_
      refine z_iload C 0 rfl dX12_touch_136 ?_
      refine z_iadd C dX12_touch_138 ?_
      obtain ⟨x20, ex20, h⟩ := zlt_e h
      refine z_eqi C ex20 ?_
      obtain ⟨hb21, h⟩ := zck_e h
      refine z_iaload C dX12_touch_139 rfl rfl (by decide) (zbd_in hb21) ?_
      refine z_iconst C (v := -1) (by decide) dX12_touch_140 ?_
      refine z_icmp_eq C 160 (by decide) dX12_touch_141 (fun hc => ?_) (fun hc => ?_)
      · have h := zif_t hc h
        refine z_lv [1, 2, 3, 4, 5, 6] (lv' := [(0, .ref (B0 + 97)), (2, .int v2), (3, .int v3), (4, .int v4), (5, .int v5), (6, .int v6)]) rfl ?_
        exact l_X12_touch_160 C L k48 hk48 k109 hk109 v2 v3 v4 v5 v6 I h
      · have h := zif_f hc h
        refine z_aload_n C rfl 1 rfl dX12_touch_144 ?_
        refine z_getr C zc_12 dX12_touch_145 56 97 132 rfl (by decide) (by decide) q_1225 rfl rfl ?_
        refine z_aload_n C rfl 1 rfl dX12_touch_148 ?_
        refine z_getr C zc_12 dX12_touch_149 32 97 119 rfl (by decide) (by decide) q_1201 rfl rfl ?_
        refine z_iload C 4 rfl dX12_touch_152 ?_
        refine z_iload C 0 rfl dX12_touch_154 ?_
        refine z_iadd C dX12_touch_156 ?_
        obtain ⟨x22, ex22, h⟩ := zlt_e h
        refine z_eqi C ex22 ?_
        obtain ⟨hb23, h⟩ := zck_e h
        refine z_iaload C dX12_touch_157 rfl rfl (by decide) (zbd_in hb23) ?_
        refine z_iconst C (v := 1) (by decide) dX12_touch_158 ?_
        obtain ⟨hb24, h⟩ := zck_e h
        refine z_zastore C dX12_touch_159 rfl rfl (by decide) (zbd_in hb24) ?_
        obtain ⟨I25, eI25, h⟩ := zlt_e h
        refine z_eqI C eI25 ?_
        refine z_lv [1, 2, 3, 4, 5, 6] (lv' := [(0, .ref (B0 + 97)), (2, .int v2), (3, .int v3), (4, .int v4), (5, .int v5), (6, .int v6)]) rfl ?_
        exact l_X12_touch_160 C L k48 hk48 k109 hk109 v2 v3 v4 v5 v6 I25 h
set_option maxHeartbeats 4000000 in
set_option maxRecDepth 100000 in
theorem L_X12_touch_109 {r : zI} (C : zC p l e R s m args below meth c s0 a0 d cy B0 yX12_touch.cls cX12_touch 8 none bc bs bc bs 2 46 []) (L : zL) (k48 : Int32 → Int32 → Int32 → Int32 → zI → Option zI) (hk48 : ∀ (v2 : Int32) (v3 : Int32) (v4 : Int32) (v5 : Int32) (I : zI), k48 v2 v3 v4 v5 I = some r → zG p l e R s m args below meth c d cy B0 8 bc bs (zQ below s args d cy B0 bc bs (.inl none) zSH zKn bc bs r L) 48 [(0, .ref (B0 + 97)), (2, .int v2), (3, .int v3), (4, .int v4), (5, .int v5)] [] zSH zKn bc bs I L) (v2 : Int32) (v3 : Int32) (v4 : Int32) (v5 : Int32) (v6 : Int32) (I : zI) (h : zlp6 (f_X12_touch_109 k48) zF v2 v3 v4 v5 v6 I = some r) : zG p l e R s m args below meth c d cy B0 8 bc bs (zQ below s args d cy B0 bc bs (.inl none) zSH zKn bc bs r L) 109 [(0, .ref (B0 + 97)), (2, .int v2), (3, .int v3), (4, .int v4), (5, .int v5), (6, .int v6)] [] zSH zKn bc bs I L :=
 zlp6_e (fun (v2 : Int32) (v3 : Int32) (v4 : Int32) (v5 : Int32) (v6 : Int32) (I : zI) => zG p l e R s m args below meth c d cy B0 8 bc bs (zQ below s args d cy B0 bc bs (.inl none) zSH zKn bc bs r L) 109 [(0, .ref (B0 + 97)), (2, .int v2), (3, .int v3), (4, .int v4), (5, .int v5), (6, .int v6)] [] zSH zKn bc bs I L) (fun k9 hk9 v2 v3 v4 v5 v6 I h => l_X12_touch_109 C L k48 hk48 k9 hk9 v2 v3 v4 v5 v6 I h) zF v2 v3 v4 v5 v6 I h
set_option maxHeartbeats 4000000 in
set_option maxRecDepth 100000 in
theorem l_X12_touch_106 {r : zI} (C : zC p l e R s m args below meth c s0 a0 d cy B0 yX12_touch.cls cX12_touch 8 none bc bs bc bs 2 46 []) (L : zL) (k48 : Int32 → Int32 → Int32 → Int32 → zI → Option zI) (hk48 : ∀ (v2 : Int32) (v3 : Int32) (v4 : Int32) (v5 : Int32) (I : zI), k48 v2 v3 v4 v5 I = some r → zG p l e R s m args below meth c d cy B0 8 bc bs (zQ below s args d cy B0 bc bs (.inl none) zSH zKn bc bs r L) 48 [(0, .ref (B0 + 97)), (2, .int v2), (3, .int v3), (4, .int v4), (5, .int v5)] [] zSH zKn bc bs I L) (v2 : Int32) (v3 : Int32) (v4 : Int32) (v5 : Int32) (I : zI) (h : f_X12_touch_106 k48 v2 v3 v4 v5 I = some r) : zG p l e R s m args below meth c d cy B0 8 bc bs (zQ below s args d cy B0 bc bs (.inl none) zSH zKn bc bs r L) 106 [(0, .ref (B0 + 97)), (2, .int v2), (3, .int v3), (4, .int v4), (5, .int v5)] [] zSH zKn bc bs I L := by
  unfold f_X12_touch_106 at h
  refine z_iconst C (v := 0) (by decide) dX12_touch_106 ?_
  refine z_istore C (lv' := [(6, .int (0 : Int32)), (0, .ref (B0 + 97)), (2, .int v2), (3, .int v3), (4, .int v4), (5, .int v5)]) (by decide) rfl dX12_touch_107 ?_
  refine z_lv [1, 2, 3, 4, 5, 0] (lv' := [(0, .ref (B0 + 97)), (2, .int v2), (3, .int v3), (4, .int v4), (5, .int v5), (6, .int (0 : Int32))]) rfl ?_
  exact L_X12_touch_109 C L k48 hk48 v2 v3 v4 v5 (0 : Int32) I h
set_option maxHeartbeats 4000000 in
set_option maxRecDepth 100000 in
theorem l_X12_touch_48 {r : zI} (C : zC p l e R s m args below meth c s0 a0 d cy B0 yX12_touch.cls cX12_touch 8 none bc bs bc bs 2 46 []) (L : zL) (k48 : Int32 → Int32 → Int32 → Int32 → zI → Option zI) (hk48 : ∀ (v2 : Int32) (v3 : Int32) (v4 : Int32) (v5 : Int32) (I : zI), k48 v2 v3 v4 v5 I = some r → zG p l e R s m args below meth c d cy B0 8 bc bs (zQ below s args d cy B0 bc bs (.inl none) zSH zKn bc bs r L) 48 [(0, .ref (B0 + 97)), (2, .int v2), (3, .int v3), (4, .int v4), (5, .int v5)] [] zSH zKn bc bs I L) (v2 : Int32) (v3 : Int32) (v4 : Int32) (v5 : Int32) (I : zI) (h : f_X12_touch_48 k48 v2 v3 v4 v5 I = some r) : zG p l e R s m args below meth c d cy B0 8 bc bs (zQ below s args d cy B0 bc bs (.inl none) zSH zKn bc bs r L) 48 [(0, .ref (B0 + 97)), (2, .int v2), (3, .int v3), (4, .int v4), (5, .int v5)] [] zSH zKn bc bs I L := by
  unfold f_X12_touch_48 at h
  refine z_iload C 4 rfl dX12_touch_48 ?_
  refine z_sipush C (v := 4096) (by decide) dX12_touch_50 ?_
  refine z_icmp_ge C 172 (by decide) dX12_touch_53 (fun hc => ?_) (fun hc => ?_)
  · have h := zif_t hc h
    obtain rfl := Option.some.inj h
    exact z_vret C dX12_touch_172 rfl rfl
  · have h := zif_f hc h
    refine z_aload_n C rfl 0 rfl dX12_touch_56 ?_
    refine z_getr C zc_12 dX12_touch_57 32 97 119 rfl (by decide) (by decide) q_1201 rfl rfl ?_
    refine z_sipush C (v := 4096) (by decide) dX12_touch_60 ?_
    refine z_iload_n C rfl 1 rfl dX12_touch_63 ?_
    refine z_imul C dX12_touch_64 ?_
    refine z_iload C 4 rfl dX12_touch_65 ?_
    refine z_iadd C dX12_touch_67 ?_
    obtain ⟨x9, ex9, h⟩ := zlt_e h
    refine z_eqi C ex9 ?_
    obtain ⟨hb10, h⟩ := zck_e h
    refine z_iaload C dX12_touch_68 rfl rfl (by decide) (zbd_in hb10) ?_
    refine z_iload_n C rfl 2 rfl dX12_touch_69 ?_
    refine z_icmp_eq C 76 (by decide) dX12_touch_70 (fun hc => ?_) (fun hc => ?_)
    · have h := zif_t hc h
      refine z_aload_n C rfl 0 rfl dX12_touch_76 ?_
      refine z_getr C zc_12 dX12_touch_77 32 97 119 rfl (by decide) (by decide) q_1201 rfl rfl ?_
      refine z_iload C 3 rfl dX12_touch_80 ?_
      refine z_iload C 4 rfl dX12_touch_82 ?_
      refine z_iadd C dX12_touch_84 ?_
      obtain ⟨x11, ex11, h⟩ := zlt_e h
      refine z_eqi C ex11 ?_
      obtain ⟨hb12, h⟩ := zck_e h
      refine z_iaload C dX12_touch_85 rfl rfl (by decide) (zbd_in hb12) ?_
      refine z_iconst C (v := -1) (by decide) dX12_touch_86 ?_
      refine z_icmp_eq C 106 (by decide) dX12_touch_87 (fun hc => ?_) (fun hc => ?_)
      · have h := zif_t hc h
        exact l_X12_touch_106 C L k48 hk48 v2 v3 v4 v5 I h
      · have h := zif_f hc h
        refine z_aload_n C rfl 0 rfl dX12_touch_90 ?_
        refine z_getr C zc_12 dX12_touch_91 56 97 132 rfl (by decide) (by decide) q_1225 rfl rfl ?_
        refine z_aload_n C rfl 0 rfl dX12_touch_94 ?_
        refine z_getr C zc_12 dX12_touch_95 32 97 119 rfl (by decide) (by decide) q_1201 rfl rfl ?_
        refine z_iload C 3 rfl dX12_touch_98 ?_
        refine z_iload C 4 rfl dX12_touch_100 ?_
        refine z_iadd C dX12_touch_102 ?_
        obtain ⟨x13, ex13, h⟩ := zlt_e h
        refine z_eqi C ex13 ?_
        obtain ⟨hb14, h⟩ := zck_e h
        refine z_iaload C dX12_touch_103 rfl rfl (by decide) (zbd_in hb14) ?_
        refine z_iconst C (v := 1) (by decide) dX12_touch_104 ?_
        obtain ⟨hb15, h⟩ := zck_e h
        refine z_zastore C dX12_touch_105 rfl rfl (by decide) (zbd_in hb15) ?_
        obtain ⟨I16, eI16, h⟩ := zlt_e h
        refine z_eqI C eI16 ?_
        exact l_X12_touch_106 C L k48 hk48 v2 v3 v4 v5 I16 h
    · have h := zif_f hc h
      refine z_goto C 166 (by decide) dX12_touch_73 ?_
      exact l_X12_touch_166 C L k48 hk48 v2 v3 v4 v5 I h
set_option maxHeartbeats 4000000 in
set_option maxRecDepth 100000 in
theorem L_X12_touch_48 {r : zI} (C : zC p l e R s m args below meth c s0 a0 d cy B0 yX12_touch.cls cX12_touch 8 none bc bs bc bs 2 46 []) (L : zL) (v2 : Int32) (v3 : Int32) (v4 : Int32) (v5 : Int32) (I : zI) (h : zlp5 (f_X12_touch_48) zF v2 v3 v4 v5 I = some r) : zG p l e R s m args below meth c d cy B0 8 bc bs (zQ below s args d cy B0 bc bs (.inl none) zSH zKn bc bs r L) 48 [(0, .ref (B0 + 97)), (2, .int v2), (3, .int v3), (4, .int v4), (5, .int v5)] [] zSH zKn bc bs I L :=
 zlp5_e (fun (v2 : Int32) (v3 : Int32) (v4 : Int32) (v5 : Int32) (I : zI) => zG p l e R s m args below meth c d cy B0 8 bc bs (zQ below s args d cy B0 bc bs (.inl none) zSH zKn bc bs r L) 48 [(0, .ref (B0 + 97)), (2, .int v2), (3, .int v3), (4, .int v4), (5, .int v5)] [] zSH zKn bc bs I L) (fun k9 hk9 v2 v3 v4 v5 I h => l_X12_touch_48 C L k9 hk9 v2 v3 v4 v5 I h) zF v2 v3 v4 v5 I h
set_option maxHeartbeats 4000000 in
set_option maxRecDepth 100000 in
theorem l_X12_touch_15 {r : zI} (C : zC p l e R s m args below meth c s0 a0 d cy B0 yX12_touch.cls cX12_touch 8 none bc bs bc bs 2 46 []) (L : zL) (k15 : Int32 → Int32 → Int32 → Int32 → Int32 → zI → Option zI) (hk15 : ∀ (v1 : Int32) (v2 : Int32) (v3 : Int32) (v4 : Int32) (v5 : Int32) (I : zI), k15 v1 v2 v3 v4 v5 I = some r → zG p l e R s m args below meth c d cy B0 8 bc bs (zQ below s args d cy B0 bc bs (.inl none) zSH zKn bc bs r L) 15 [(0, .ref (B0 + 97)), (1, .int v1), (2, .int v2), (3, .int v3), (4, .int v4), (5, .int v5)] [] zSH zKn bc bs I L) (v1 : Int32) (v2 : Int32) (v3 : Int32) (v4 : Int32) (v5 : Int32) (I : zI) (h : f_X12_touch_15 k15 v1 v2 v3 v4 v5 I = some r) : zG p l e R s m args below meth c d cy B0 8 bc bs (zQ below s args d cy B0 bc bs (.inl none) zSH zKn bc bs r L) 15 [(0, .ref (B0 + 97)), (1, .int v1), (2, .int v2), (3, .int v3), (4, .int v4), (5, .int v5)] [] zSH zKn bc bs I L := by
  unfold f_X12_touch_15 at h
  refine z_iload C 5 rfl dX12_touch_15 ?_
  refine z_aload_n C rfl 0 rfl dX12_touch_17 ?_
  refine z_getr C zc_12 dX12_touch_18 33 97 120 rfl (by decide) (by decide) q_1202 rfl rfl ?_
  refine z_aload_n C rfl 0 rfl dX12_touch_21 ?_
  refine z_getr C zc_12 dX12_touch_22 20 97 109 rfl (by decide) (by decide) q_1189 rfl rfl ?_
  refine z_iload_n C rfl 1 rfl dX12_touch_25 ?_
  obtain ⟨hb3, h⟩ := zck_e h
  refine z_iaload C dX12_touch_26 rfl rfl (by decide) (zbd_in hb3) ?_
  obtain ⟨x4, ex4, h⟩ := zlt_e h
  refine z_eqi C ex4 ?_
  obtain ⟨hb5, h⟩ := zck_e h
  refine z_iaload C dX12_touch_27 rfl rfl (by decide) (zbd_in hb5) ?_
  refine z_icmp_ge C 45 (by decide) dX12_touch_28 (fun hc => ?_) (fun hc => ?_)
  · have h := zif_t hc h
    refine z_iconst C (v := 0) (by decide) dX12_touch_45 ?_
    refine z_istore C (lv' := [(5, .int (0 : Int32)), (0, .ref (B0 + 97)), (1, .int v1), (2, .int v2), (3, .int v3), (4, .int v4)]) (by decide) rfl dX12_touch_46 ?_
    refine z_lv [1, 3, 4, 5, 0] (lv' := [(0, .ref (B0 + 97)), (2, .int v2), (3, .int v3), (4, .int v4), (5, .int (0 : Int32))]) rfl ?_
    exact L_X12_touch_48 C L v2 v3 v4 (0 : Int32) I h
  · have h := zif_f hc h
    refine z_aload_n C rfl 0 rfl dX12_touch_31 ?_
    refine z_getr C zc_12 dX12_touch_32 56 97 132 rfl (by decide) (by decide) q_1225 rfl rfl ?_
    refine z_iload C 5 rfl dX12_touch_35 ?_
    refine z_iconst C (v := 0) (by decide) dX12_touch_37 ?_
    obtain ⟨hb6, h⟩ := zck_e h
    refine z_zastore C dX12_touch_38 rfl rfl (by decide) (zbd_in hb6) ?_
    obtain ⟨I7, eI7, h⟩ := zlt_e h
    refine z_eqI C eI7 ?_
    obtain ⟨x8, ex8, h⟩ := zlt_e h
    refine z_iinc C (j := 5) (v := x8) (lv' := [(5, .int x8), (0, .ref (B0 + 97)), (1, .int v1), (2, .int v2), (3, .int v3), (4, .int v4)]) rfl (by rw [ex8]; rfl) (by decide) rfl dX12_touch_39 ?_
    refine z_goto C 15 (by decide) dX12_touch_42 ?_
    refine z_lv [1, 2, 3, 4, 5, 0] (lv' := [(0, .ref (B0 + 97)), (1, .int v1), (2, .int v2), (3, .int v3), (4, .int v4), (5, .int x8)]) rfl ?_
    exact hk15 v1 v2 v3 v4 x8 I7 h
set_option maxHeartbeats 4000000 in
set_option maxRecDepth 100000 in
theorem L_X12_touch_15 {r : zI} (C : zC p l e R s m args below meth c s0 a0 d cy B0 yX12_touch.cls cX12_touch 8 none bc bs bc bs 2 46 []) (L : zL) (v1 : Int32) (v2 : Int32) (v3 : Int32) (v4 : Int32) (v5 : Int32) (I : zI) (h : zlp6 (f_X12_touch_15) zF v1 v2 v3 v4 v5 I = some r) : zG p l e R s m args below meth c d cy B0 8 bc bs (zQ below s args d cy B0 bc bs (.inl none) zSH zKn bc bs r L) 15 [(0, .ref (B0 + 97)), (1, .int v1), (2, .int v2), (3, .int v3), (4, .int v4), (5, .int v5)] [] zSH zKn bc bs I L :=
 zlp6_e (fun (v1 : Int32) (v2 : Int32) (v3 : Int32) (v4 : Int32) (v5 : Int32) (I : zI) => zG p l e R s m args below meth c d cy B0 8 bc bs (zQ below s args d cy B0 bc bs (.inl none) zSH zKn bc bs r L) 15 [(0, .ref (B0 + 97)), (1, .int v1), (2, .int v2), (3, .int v3), (4, .int v4), (5, .int v5)] [] zSH zKn bc bs I L) (fun k9 hk9 v1 v2 v3 v4 v5 I h => l_X12_touch_15 C L k9 hk9 v1 v2 v3 v4 v5 I h) zF v1 v2 v3 v4 v5 I h
set_option maxHeartbeats 4000000 in
set_option maxRecDepth 100000 in
theorem c_X12_touch {r : zI} (hE : zE0 l s0 a0 d cy B0) (a1 : Int32) (a2 : Int32) (a3 : Int32) (I : zI) (L : zL) (h : f_X12_touch a1 a2 a3 I = some r) : zM l s0 d cy B0 yX12_touch cX12_touch 8 none 2 46 [.ref (B0 + 97), .int a1, .int a2, .int a3] zSH zKn bc bs I L (.inl none) zSH zKn bc bs r L := by
  refine z_meth yy_X12_touch hE (Nat.le_of_ble_eq_true rfl) (fun p e R s m args below meth c C => ?_)
  show zG p l e R s m args below meth c d cy B0 8 bc bs (zQ below s args d cy B0 bc bs (.inl none) zSH zKn bc bs r L) 0 [(0, .ref (B0 + 97)), (1, .int a1), (2, .int a2), (3, .int a3)] [] zSH zKn bc bs I L
  unfold f_X12_touch at h
  refine z_sipush C (v := 4096) (by decide) dX12_touch_0 ?_
  refine z_aload_n C rfl 0 rfl dX12_touch_3 ?_
  refine z_getr C zc_12 dX12_touch_4 20 97 109 rfl (by decide) (by decide) q_1189 rfl rfl ?_
  refine z_iload_n C rfl 1 rfl dX12_touch_7 ?_
  obtain ⟨hb1, h⟩ := zck_e h
  refine z_iaload C dX12_touch_8 rfl rfl (by decide) (zbd_in hb1) ?_
  refine z_imul C dX12_touch_9 ?_
  obtain ⟨x2, ex2, h⟩ := zlt_e h
  refine z_eqi C ex2 ?_
  refine z_istore C (lv' := [(4, .int x2), (0, .ref (B0 + 97)), (1, .int a1), (2, .int a2), (3, .int a3)]) (by decide) rfl dX12_touch_10 ?_
  refine z_iconst C (v := 0) (by decide) dX12_touch_12 ?_
  refine z_istore C (lv' := [(5, .int (0 : Int32)), (4, .int x2), (0, .ref (B0 + 97)), (1, .int a1), (2, .int a2), (3, .int a3)]) (by decide) rfl dX12_touch_13 ?_
  refine z_lv [2, 3, 4, 5, 1, 0] (lv' := [(0, .ref (B0 + 97)), (1, .int a1), (2, .int a2), (3, .int a3), (4, .int x2), (5, .int (0 : Int32))]) rfl ?_
  exact L_X12_touch_15 C L a1 a2 a3 x2 (0 : Int32) I h
theorem q_1213 : (Cond.fieldLink "DeviceFindModel" (104 : Nat) "DeviceFindModel" "pins" "[I") ∈ lw_tbl := List.mem_of_getElem? (i := 1213) (by decide +kernel)
theorem q_1500 : (Cond.code ({ cls := "DeviceFindModel", name := "isHad", desc := "(III)Z" } : Jvm.MethodName) prog_14_method_39_code (6 : Nat) (Option.some Jvm.ClassFile.FieldType.boolean)) ∈ lw_tbl := List.mem_of_getElem? (i := 1500) (by decide +kernel)
theorem yy_X12_isHad : zY yX12_isHad cX12_isHad 6 (some .boolean) 3 := ⟨q_1500, q_88, by decide +kernel, by decide +kernel, by decide +kernel⟩
def f_X12_isHad_37 (k6 : Int32 → Int32 → Int32 → Int32 → Int32 → zI → Option Int32) (v1 : Int32) (v2 : Int32) (v3 : Int32) (v5 : Int32) (w0 : Int32) (I : zI) : Option Int32 :=
  zlt (v5 + 1) (fun x4 => k6 v1 v2 v3 w0 x4 I)
def f_X12_isHad_32 (k6 : Int32 → Int32 → Int32 → Int32 → Int32 → zI → Option Int32) (v1 : Int32) (v2 : Int32) (v3 : Int32) (v5 : Int32) (I : zI) : Option Int32 :=
  f_X12_isHad_37 k6 v1 v2 v3 v5 (1 : Int32) I
def f_X12_isHad_6 (k6 : Int32 → Int32 → Int32 → Int32 → Int32 → zI → Option Int32) (v1 : Int32) (v2 : Int32) (v3 : Int32) (v4 : Int32) (v5 : Int32) (I : zI) : Option Int32 :=
  if v2 ≤ v5 then (zck (zbo v4) (some v4)) else (if v4 = 0 then (zlt (((4 : Int32) * v1) + v5) (fun x2 => zck (zbd x2 1200) (if (I 128 x2.toNatClampNeg) = v3 then (f_X12_isHad_32 k6 v1 v2 v3 v5 I) else (f_X12_isHad_37 k6 v1 v2 v3 v5 (0 : Int32) I)))) else (f_X12_isHad_32 k6 v1 v2 v3 v5 I))
def f_X12_isHad (a1 : Int32) (a2 : Int32) (a3 : Int32) (I : zI) : Option Int32 :=
  zlp6 (f_X12_isHad_6) zF a1 a2 a3 (0 : Int32) (0 : Int32) I
set_option maxHeartbeats 4000000 in
set_option maxRecDepth 100000 in
theorem l_X12_isHad_37 {r : Int32} (C : zC p l e R s m args below meth c s0 a0 d cy B0 yX12_isHad.cls cX12_isHad 6 (some .boolean) bc bs bc bs 0 0 []) (L : zL) (k6 : Int32 → Int32 → Int32 → Int32 → Int32 → zI → Option Int32) (hk6 : ∀ (v1 : Int32) (v2 : Int32) (v3 : Int32) (v4 : Int32) (v5 : Int32) (I : zI), k6 v1 v2 v3 v4 v5 I = some r → zG p l e R s m args below meth c d cy B0 6 bc bs (zQ below s args d cy B0 bc bs (.inl (some (.int r))) zSH zKn bc bs I L) 6 [(0, .ref (B0 + 97)), (1, .int v1), (2, .int v2), (3, .int v3), (4, .int v4), (5, .int v5)] [] zSH zKn bc bs I L) (v1 : Int32) (v2 : Int32) (v3 : Int32) (v5 : Int32) (w0 : Int32) (I : zI) (h : f_X12_isHad_37 k6 v1 v2 v3 v5 w0 I = some r) : zG p l e R s m args below meth c d cy B0 6 bc bs (zQ below s args d cy B0 bc bs (.inl (some (.int r))) zSH zKn bc bs I L) 37 [(0, .ref (B0 + 97)), (1, .int v1), (2, .int v2), (3, .int v3), (5, .int v5)] [.int w0] zSH zKn bc bs I L := by
  unfold f_X12_isHad_37 at h
  refine z_istore C (lv' := [(4, .int w0), (0, .ref (B0 + 97)), (1, .int v1), (2, .int v2), (3, .int v3), (5, .int v5)]) (by decide) rfl dX12_isHad_37 ?_
  obtain ⟨x4, ex4, h⟩ := zlt_e h
  refine z_iinc C (j := 5) (v := x4) (lv' := [(5, .int x4), (4, .int w0), (0, .ref (B0 + 97)), (1, .int v1), (2, .int v2), (3, .int v3)]) rfl (by rw [ex4]; rfl) (by decide) rfl dX12_isHad_39 ?_
  refine z_goto C 6 (by decide) dX12_isHad_42 ?_
  refine z_lv [2, 3, 4, 5, 1, 0] (lv' := [(0, .ref (B0 + 97)), (1, .int v1), (2, .int v2), (3, .int v3), (4, .int w0), (5, .int x4)]) rfl ?_
  exact hk6 v1 v2 v3 w0 x4 I h
set_option maxHeartbeats 4000000 in
set_option maxRecDepth 100000 in
theorem l_X12_isHad_32 {r : Int32} (C : zC p l e R s m args below meth c s0 a0 d cy B0 yX12_isHad.cls cX12_isHad 6 (some .boolean) bc bs bc bs 0 0 []) (L : zL) (k6 : Int32 → Int32 → Int32 → Int32 → Int32 → zI → Option Int32) (hk6 : ∀ (v1 : Int32) (v2 : Int32) (v3 : Int32) (v4 : Int32) (v5 : Int32) (I : zI), k6 v1 v2 v3 v4 v5 I = some r → zG p l e R s m args below meth c d cy B0 6 bc bs (zQ below s args d cy B0 bc bs (.inl (some (.int r))) zSH zKn bc bs I L) 6 [(0, .ref (B0 + 97)), (1, .int v1), (2, .int v2), (3, .int v3), (4, .int v4), (5, .int v5)] [] zSH zKn bc bs I L) (v1 : Int32) (v2 : Int32) (v3 : Int32) (v5 : Int32) (I : zI) (h : f_X12_isHad_32 k6 v1 v2 v3 v5 I = some r) : zG p l e R s m args below meth c d cy B0 6 bc bs (zQ below s args d cy B0 bc bs (.inl (some (.int r))) zSH zKn bc bs I L) 32 [(0, .ref (B0 + 97)), (1, .int v1), (2, .int v2), (3, .int v3), (5, .int v5)] [] zSH zKn bc bs I L := by
  unfold f_X12_isHad_32 at h
  refine z_iconst C (v := 1) (by decide) dX12_isHad_32 ?_
  refine z_goto C 37 (by decide) dX12_isHad_33 ?_
  exact l_X12_isHad_37 C L k6 hk6 v1 v2 v3 v5 (1 : Int32) I h
set_option maxHeartbeats 4000000 in
set_option maxRecDepth 100000 in
theorem l_X12_isHad_6 {r : Int32} (C : zC p l e R s m args below meth c s0 a0 d cy B0 yX12_isHad.cls cX12_isHad 6 (some .boolean) bc bs bc bs 0 0 []) (L : zL) (k6 : Int32 → Int32 → Int32 → Int32 → Int32 → zI → Option Int32) (hk6 : ∀ (v1 : Int32) (v2 : Int32) (v3 : Int32) (v4 : Int32) (v5 : Int32) (I : zI), k6 v1 v2 v3 v4 v5 I = some r → zG p l e R s m args below meth c d cy B0 6 bc bs (zQ below s args d cy B0 bc bs (.inl (some (.int r))) zSH zKn bc bs I L) 6 [(0, .ref (B0 + 97)), (1, .int v1), (2, .int v2), (3, .int v3), (4, .int v4), (5, .int v5)] [] zSH zKn bc bs I L) (v1 : Int32) (v2 : Int32) (v3 : Int32) (v4 : Int32) (v5 : Int32) (I : zI) (h : f_X12_isHad_6 k6 v1 v2 v3 v4 v5 I = some r) : zG p l e R s m args below meth c d cy B0 6 bc bs (zQ below s args d cy B0 bc bs (.inl (some (.int r))) zSH zKn bc bs I L) 6 [(0, .ref (B0 + 97)), (1, .int v1), (2, .int v2), (3, .int v3), (4, .int v4), (5, .int v5)] [] zSH zKn bc bs I L := by
  unfold f_X12_isHad_6 at h
  refine z_iload C 5 rfl dX12_isHad_6 ?_
  refine z_iload_n C rfl 2 rfl dX12_isHad_8 ?_
  refine z_icmp_ge C 45 (by decide) dX12_isHad_9 (fun hc => ?_) (fun hc => ?_)
  · have h := zif_t hc h
    refine z_iload C 4 rfl dX12_isHad_45 ?_
    obtain ⟨hb1, h⟩ := zck_e h
    obtain rfl := Option.some.inj h
    exact z_iret C dX12_isHad_47 .boolean rfl (zbo_n hb1).1 rfl
  · have h := zif_f hc h
    refine z_iload C 4 rfl dX12_isHad_12 ?_
    refine z_if_ne C 32 (by decide) dX12_isHad_14 (fun hc => ?_) (fun hc => ?_)
    · have h := zif_f hc h
      refine z_lv [0, 1, 2, 3, 5] (lv' := [(0, .ref (B0 + 97)), (1, .int v1), (2, .int v2), (3, .int v3), (5, .int v5)]) rfl ?_
      exact l_X12_isHad_32 C L k6 hk6 v1 v2 v3 v5 I h
    · have h := zif_t hc h
      refine z_aload_n C rfl 0 rfl dX12_isHad_17 ?_
      refine z_getr C zc_12 dX12_isHad_18 44 97 128 rfl (by decide) (by decide) q_1213 rfl rfl ?_
      refine z_iconst C (v := 4) (by decide) dX12_isHad_21 ?_
      refine z_iload_n C rfl 1 rfl dX12_isHad_22 ?_
      refine z_imul C dX12_isHad_23 ?_
      refine z_iload C 5 rfl dX12_isHad_24 ?_
      refine z_iadd C dX12_isHad_26 ?_
      obtain ⟨x2, ex2, h⟩ := zlt_e h
      refine z_eqi C ex2 ?_
      obtain ⟨hb3, h⟩ := zck_e h
      refine z_iaload C dX12_isHad_27 rfl rfl (by decide) (zbd_in hb3) ?_
      refine z_iload_n C rfl 3 rfl dX12_isHad_28 ?_
      refine z_icmp_ne C 36 (by decide) dX12_isHad_29 (fun hc => ?_) (fun hc => ?_)
      · have h := zif_f hc h
        refine z_iconst C (v := 0) (by decide) dX12_isHad_36 ?_
        refine z_lv [0, 1, 2, 3, 5] (lv' := [(0, .ref (B0 + 97)), (1, .int v1), (2, .int v2), (3, .int v3), (5, .int v5)]) rfl ?_
        exact l_X12_isHad_37 C L k6 hk6 v1 v2 v3 v5 (0 : Int32) I h
      · have h := zif_t hc h
        refine z_lv [0, 1, 2, 3, 5] (lv' := [(0, .ref (B0 + 97)), (1, .int v1), (2, .int v2), (3, .int v3), (5, .int v5)]) rfl ?_
        exact l_X12_isHad_32 C L k6 hk6 v1 v2 v3 v5 I h
set_option maxHeartbeats 4000000 in
set_option maxRecDepth 100000 in
theorem L_X12_isHad_6 {r : Int32} (C : zC p l e R s m args below meth c s0 a0 d cy B0 yX12_isHad.cls cX12_isHad 6 (some .boolean) bc bs bc bs 0 0 []) (L : zL) (v1 : Int32) (v2 : Int32) (v3 : Int32) (v4 : Int32) (v5 : Int32) (I : zI) (h : zlp6 (f_X12_isHad_6) zF v1 v2 v3 v4 v5 I = some r) : zG p l e R s m args below meth c d cy B0 6 bc bs (zQ below s args d cy B0 bc bs (.inl (some (.int r))) zSH zKn bc bs I L) 6 [(0, .ref (B0 + 97)), (1, .int v1), (2, .int v2), (3, .int v3), (4, .int v4), (5, .int v5)] [] zSH zKn bc bs I L :=
 zlp6_e (fun (v1 : Int32) (v2 : Int32) (v3 : Int32) (v4 : Int32) (v5 : Int32) (I : zI) => zG p l e R s m args below meth c d cy B0 6 bc bs (zQ below s args d cy B0 bc bs (.inl (some (.int r))) zSH zKn bc bs I L) 6 [(0, .ref (B0 + 97)), (1, .int v1), (2, .int v2), (3, .int v3), (4, .int v4), (5, .int v5)] [] zSH zKn bc bs I L) (fun k9 hk9 v1 v2 v3 v4 v5 I h => l_X12_isHad_6 C L k9 hk9 v1 v2 v3 v4 v5 I h) zF v1 v2 v3 v4 v5 I h
set_option maxHeartbeats 4000000 in
set_option maxRecDepth 100000 in
theorem c_X12_isHad {r : Int32} (hE : zE0 l s0 a0 d cy B0) (a1 : Int32) (a2 : Int32) (a3 : Int32) (I : zI) (L : zL) (h : f_X12_isHad a1 a2 a3 I = some r) : zM l s0 d cy B0 yX12_isHad cX12_isHad 6 (some .boolean) 0 0 [.ref (B0 + 97), .int a1, .int a2, .int a3] zSH zKn bc bs I L (.inl (some (.int r))) zSH zKn bc bs I L := by
  refine z_meth yy_X12_isHad hE (Nat.le_of_ble_eq_true rfl) (fun p e R s m args below meth c C => ?_)
  show zG p l e R s m args below meth c d cy B0 6 bc bs (zQ below s args d cy B0 bc bs (.inl (some (.int r))) zSH zKn bc bs I L) 0 [(0, .ref (B0 + 97)), (1, .int a1), (2, .int a2), (3, .int a3)] [] zSH zKn bc bs I L
  unfold f_X12_isHad at h
  refine z_iconst C (v := 0) (by decide) dX12_isHad_0 ?_
  refine z_istore C (lv' := [(4, .int (0 : Int32)), (0, .ref (B0 + 97)), (1, .int a1), (2, .int a2), (3, .int a3)]) (by decide) rfl dX12_isHad_1 ?_
  refine z_iconst C (v := 0) (by decide) dX12_isHad_3 ?_
  refine z_istore C (lv' := [(5, .int (0 : Int32)), (4, .int (0 : Int32)), (0, .ref (B0 + 97)), (1, .int a1), (2, .int a2), (3, .int a3)]) (by decide) rfl dX12_isHad_4 ?_
  refine z_lv [2, 3, 4, 5, 1, 0] (lv' := [(0, .ref (B0 + 97)), (1, .int a1), (2, .int a2), (3, .int a3), (4, .int (0 : Int32)), (5, .int (0 : Int32))]) rfl ?_
  exact L_X12_isHad_6 C L a1 a2 a3 (0 : Int32) (0 : Int32) I h
theorem q_68 : Cond.selects "DeviceFindModel" ⟨"DeviceFindModel", "touch", "(III)V"⟩ ⟨"DeviceFindModel", "touch", "(III)V"⟩ ∈ lw_tbl := List.mem_of_getElem? (i := 68) (by decide +kernel)
theorem q_69 : Cond.selects "DeviceFindModel" ⟨"DeviceFindModel", "isHad", "(III)Z"⟩ ⟨"DeviceFindModel", "isHad", "(III)Z"⟩ ∈ lw_tbl := List.mem_of_getElem? (i := 69) (by decide +kernel)
theorem q_1212 : (Cond.fieldLink "DeviceFindModel" (101 : Nat) "DeviceFindModel" "bad" "[Z") ∈ lw_tbl := List.mem_of_getElem? (i := 1212) (by decide +kernel)
theorem q_1492 : (Cond.code ({ cls := "DeviceFindModel", name := "findPins", desc := "(III)V" } : Jvm.MethodName) prog_14_method_40_code (9 : Nat) (Option.none : Option Jvm.ClassFile.FieldType)) ∈ lw_tbl := List.mem_of_getElem? (i := 1492) (by decide +kernel)
theorem q_1493 : (Cond.methodLink "DeviceFindModel" (280 : Nat) ({ cls := "DeviceFindModel", name := "touch", desc := "(III)V" } : Jvm.MethodName)) ∈ lw_tbl := List.mem_of_getElem? (i := 1493) (by decide +kernel)
theorem q_1495 : (Cond.instanceMethod ({ cls := "DeviceFindModel", name := "touch", desc := "(III)V" } : Jvm.MethodName)) ∈ lw_tbl := List.mem_of_getElem? (i := 1495) (by decide +kernel)
theorem q_1497 : (Cond.methodLink "DeviceFindModel" (283 : Nat) ({ cls := "DeviceFindModel", name := "isHad", desc := "(III)Z" } : Jvm.MethodName)) ∈ lw_tbl := List.mem_of_getElem? (i := 1497) (by decide +kernel)
theorem q_1499 : (Cond.instanceMethod ({ cls := "DeviceFindModel", name := "isHad", desc := "(III)Z" } : Jvm.MethodName)) ∈ lw_tbl := List.mem_of_getElem? (i := 1499) (by decide +kernel)
theorem yy_X12_findPins : zY yX12_findPins cX12_findPins 9 none 3 := ⟨q_1492, q_88, by decide +kernel, by decide +kernel, by decide +kernel⟩
def f_X12_findPins_113 (k11 : Int32 → Int32 → Int32 → Int32 → Int32 → zI → Option zI) (k63 : Int32 → Int32 → Int32 → Int32 → Int32 → Int32 → Int32 → Int32 → zI → Option zI) (v1 : Int32) (v2 : Int32) (v3 : Int32) (v4 : Int32) (v5 : Int32) (v6 : Int32) (v8 : Int32) (w0 : Int32) (I : zI) : Option zI :=
  zlt (v8 + (-1)) (fun x44 => k63 v1 v2 v3 v4 v5 v6 w0 x44 I)
def f_X12_findPins_111 (k11 : Int32 → Int32 → Int32 → Int32 → Int32 → zI → Option zI) (k63 : Int32 → Int32 → Int32 → Int32 → Int32 → Int32 → Int32 → Int32 → zI → Option zI) (v1 : Int32) (v2 : Int32) (v3 : Int32) (v4 : Int32) (v5 : Int32) (v6 : Int32) (v7 : Int32) (v8 : Int32) (I : zI) : Option zI :=
  f_X12_findPins_113 k11 k63 v1 v2 v3 v4 v5 v6 v8 v7 I
def f_X12_findPins_159 (k11 : Int32 → Int32 → Int32 → Int32 → Int32 → zI → Option zI) (v1 : Int32) (v2 : Int32) (v3 : Int32) (v4 : Int32) (v5 : Int32) (w1 : Int32) (w2 : Int32) (I : zI) : Option zI :=
  zck (zbd w1 300) (zlt (zu I 127 w1.toNatClampNeg (vp_nar .boolean w2)) (fun I42 => zlt (v5 + 1) (fun x43 => k11 v1 v2 v3 v4 x43 I42)))
def f_X12_findPins_154 (k11 : Int32 → Int32 → Int32 → Int32 → Int32 → zI → Option zI) (v1 : Int32) (v2 : Int32) (v3 : Int32) (v4 : Int32) (v5 : Int32) (w1 : Int32) (I : zI) : Option zI :=
  f_X12_findPins_159 k11 v1 v2 v3 v4 v5 w1 (1 : Int32) I
def f_X12_findPins_63 (k11 : Int32 → Int32 → Int32 → Int32 → Int32 → zI → Option zI) (k63 : Int32 → Int32 → Int32 → Int32 → Int32 → Int32 → Int32 → Int32 → zI → Option zI) (v1 : Int32) (v2 : Int32) (v3 : Int32) (v4 : Int32) (v5 : Int32) (v6 : Int32) (v7 : Int32) (v8 : Int32) (I : zI) : Option zI :=
  if v8 < 0 then (zlt (((4 : Int32) * v1) + v5) (fun x19 => zck (zbd x19 1200) (zlt (zu I 128 x19.toNatClampNeg v7) (fun I21 => zck (zbd v1 300) (if (I21 127 v1.toNatClampNeg) = 0 then (if v7 = (-1 : Int32) then (f_X12_findPins_154 k11 v1 v2 v3 v4 v5 v1 I21) else (f_X12_findPins_159 k11 v1 v2 v3 v4 v5 v1 (0 : Int32) I21)) else (f_X12_findPins_154 k11 v1 v2 v3 v4 v5 v1 I21)))))) else (zck (zbd v8 4096) (if (I 132 v8.toNatClampNeg) = 0 then (f_X12_findPins_111 k11 k63 v1 v2 v3 v4 v5 v6 v7 v8 I) else (zck (zbd v6 8) (zlt ((I 121 v6.toNatClampNeg) + v8) (fun x25 => zb1 (f_X12_isHad v1 v5 x25 I) (fun x27 => if x27 = 0 then (zck (zbd v6 8) (zlt ((I 121 v6.toNatClampNeg) + v8) (fun x29 => f_X12_findPins_113 k11 k63 v1 v2 v3 v4 v5 v6 v8 x29 I))) else (f_X12_findPins_111 k11 k63 v1 v2 v3 v4 v5 v6 v7 v8 I)))))))
def f_X12_findPins_275 (k169 : Int32 → Int32 → Int32 → Int32 → Int32 → zI → Option zI) (k205 : Int32 → Int32 → Int32 → Int32 → Int32 → Int32 → Int32 → zI → Option zI) (v1 : Int32) (v2 : Int32) (v3 : Int32) (v4 : Int32) (v5 : Int32) (v6 : Int32) (v7 : Int32) (w1 : Int32) (w2 : Int32) (I : zI) : Option zI :=
  zck (zbd w1 300) (zlt (zu I 127 w1.toNatClampNeg (vp_nar .boolean w2)) (fun I46 => zlt (v7 + 1) (fun x47 => k205 v1 v2 v3 v4 v5 v6 x47 I46)))
def f_X12_findPins_270 (k169 : Int32 → Int32 → Int32 → Int32 → Int32 → zI → Option zI) (k205 : Int32 → Int32 → Int32 → Int32 → Int32 → Int32 → Int32 → zI → Option zI) (v1 : Int32) (v2 : Int32) (v3 : Int32) (v4 : Int32) (v5 : Int32) (v6 : Int32) (v7 : Int32) (w1 : Int32) (I : zI) : Option zI :=
  f_X12_findPins_275 k169 k205 v1 v2 v3 v4 v5 v6 v7 w1 (1 : Int32) I
def f_X12_findPins_274 (k169 : Int32 → Int32 → Int32 → Int32 → Int32 → zI → Option zI) (k205 : Int32 → Int32 → Int32 → Int32 → Int32 → Int32 → Int32 → zI → Option zI) (v1 : Int32) (v2 : Int32) (v3 : Int32) (v4 : Int32) (v5 : Int32) (v6 : Int32) (v7 : Int32) (w1 : Int32) (I : zI) : Option zI :=
  f_X12_findPins_275 k169 k205 v1 v2 v3 v4 v5 v6 v7 w1 (0 : Int32) I
def f_X12_findPins_205 (k169 : Int32 → Int32 → Int32 → Int32 → Int32 → zI → Option zI) (k205 : Int32 → Int32 → Int32 → Int32 → Int32 → Int32 → Int32 → zI → Option zI) (v1 : Int32) (v2 : Int32) (v3 : Int32) (v4 : Int32) (v5 : Int32) (v6 : Int32) (v7 : Int32) (I : zI) : Option zI :=
  zck (zbd v6 16) (zlt (I 109 v6.toNatClampNeg) (fun x31 => zck (zbd x31 24) (if (I 120 x31.toNatClampNeg) ≤ v7 then (zlt (v5 + 1) (fun x33 => k169 v1 v2 v3 v4 x33 I)) else (zck (zbd v1 300) (if (I 127 v1.toNatClampNeg) = 0 then (zck (zbd v7 4096) (if (I 132 v7.toNatClampNeg) = 0 then (f_X12_findPins_274 k169 k205 v1 v2 v3 v4 v5 v6 v7 v1 I) else (zck (zbd v2 16) (zck (zbd v6 8) (zlt ((I 121 v6.toNatClampNeg) + v7) (fun x38 => zb1 (f_X12_isHad v1 (I 115 v2.toNatClampNeg) x38 I) (fun x40 => if x40 = 0 then (f_X12_findPins_270 k169 k205 v1 v2 v3 v4 v5 v6 v7 v1 I) else (f_X12_findPins_274 k169 k205 v1 v2 v3 v4 v5 v6 v7 v1 I)))))))) else (f_X12_findPins_270 k169 k205 v1 v2 v3 v4 v5 v6 v7 v1 I))))))
def f_X12_findPins_169 (k169 : Int32 → Int32 → Int32 → Int32 → Int32 → zI → Option zI) (v1 : Int32) (v2 : Int32) (v3 : Int32) (v4 : Int32) (v5 : Int32) (I : zI) : Option zI :=
  zck (zbd v2 16) (if (I 115 v2.toNatClampNeg) ≤ v5 then (some I) else (zlt (((4 : Int32) * v2) + v5) (fun x14 => zck (zbd x14 64) (zlt (I 116 x14.toNatClampNeg) (fun x16 => zb1 (f_X12_touch x16 v4 v3 I) (fun I18 => zlp8 (f_X12_findPins_205 k169) zF v1 v2 v3 v4 v5 x16 (0 : Int32) I18))))))
def f_X12_findPins_11 (k11 : Int32 → Int32 → Int32 → Int32 → Int32 → zI → Option zI) (v1 : Int32) (v2 : Int32) (v3 : Int32) (v4 : Int32) (v5 : Int32) (I : zI) : Option zI :=
  zck (zbd v2 16) (if (I 115 v2.toNatClampNeg) ≤ v5 then (zlp6 (f_X12_findPins_169) zF v1 v2 v3 v4 (0 : Int32) I) else (zlt (((4 : Int32) * v2) + v5) (fun x4 => zck (zbd x4 64) (zlt (I 116 x4.toNatClampNeg) (fun x6 => zb1 (f_X12_touch x6 v4 v3 I) (fun I8 => zck (zbd x6 16) (zlt (I8 109 x6.toNatClampNeg) (fun x10 => zck (zbd x10 24) (zlt ((I8 120 x10.toNatClampNeg) - (1 : Int32)) (fun x12 => zlp9 (f_X12_findPins_63 k11) zF v1 v2 v3 v4 v5 x6 (-1 : Int32) x12 I8))))))))))
def f_X12_findPins (a1 : Int32) (a2 : Int32) (a3 : Int32) (I : zI) : Option zI :=
  zck (zbd a2 16) (zlt (I 114 a2.toNatClampNeg) (fun x2 => zlp6 (f_X12_findPins_11) zF a1 a2 a3 x2 (0 : Int32) I))
set_option maxHeartbeats 4000000 in
set_option maxRecDepth 100000 in
theorem l_X12_findPins_113 {r : zI} (C : zC p l e R s m args below meth c s0 a0 d cy B0 yX12_findPins.cls cX12_findPins 9 none bc bs bc bs 3 73 []) (L : zL) (k11 : Int32 → Int32 → Int32 → Int32 → Int32 → zI → Option zI) (hk11 : ∀ (v1 : Int32) (v2 : Int32) (v3 : Int32) (v4 : Int32) (v5 : Int32) (I : zI), k11 v1 v2 v3 v4 v5 I = some r → zG p l e R s m args below meth c d cy B0 9 bc bs (zQ below s args d cy B0 bc bs (.inl none) zSH zKn bc bs r L) 11 [(0, .ref (B0 + 97)), (1, .int v1), (2, .int v2), (3, .int v3), (4, .int v4), (5, .int v5)] [] zSH zKn bc bs I L) (k63 : Int32 → Int32 → Int32 → Int32 → Int32 → Int32 → Int32 → Int32 → zI → Option zI) (hk63 : ∀ (v1 : Int32) (v2 : Int32) (v3 : Int32) (v4 : Int32) (v5 : Int32) (v6 : Int32) (v7 : Int32) (v8 : Int32) (I : zI), k63 v1 v2 v3 v4 v5 v6 v7 v8 I = some r → zG p l e R s m args below meth c d cy B0 9 bc bs (zQ below s args d cy B0 bc bs (.inl none) zSH zKn bc bs r L) 63 [(0, .ref (B0 + 97)), (1, .int v1), (2, .int v2), (3, .int v3), (4, .int v4), (5, .int v5), (6, .int v6), (7, .int v7), (8, .int v8)] [] zSH zKn bc bs I L) (v1 : Int32) (v2 : Int32) (v3 : Int32) (v4 : Int32) (v5 : Int32) (v6 : Int32) (v8 : Int32) (w0 : Int32) (I : zI) (h : f_X12_findPins_113 k11 k63 v1 v2 v3 v4 v5 v6 v8 w0 I = some r) : zG p l e R s m args below meth c d cy B0 9 bc bs (zQ below s args d cy B0 bc bs (.inl none) zSH zKn bc bs r L) 113 [(0, .ref (B0 + 97)), (1, .int v1), (2, .int v2), (3, .int v3), (4, .int v4), (5, .int v5), (6, .int v6), (8, .int v8)] [.int w0] zSH zKn bc bs I L := by
  unfold f_X12_findPins_113 at h
  refine z_istore C (lv' := [(7, .int w0), (0, .ref (B0 + 97)), (1, .int v1), (2, .int v2), (3, .int v3), (4, .int v4), (5, .int v5), (6, .int v6), (8, .int v8)]) (by decide) rfl dX12_findPins_113 ?_
  obtain ⟨x44, ex44, h⟩ := zlt_e h
  refine z_iinc C (j := 8) (v := x44) (lv' := [(8, .int x44), (7, .int w0), (0, .ref (B0 + 97)), (1, .int v1), (2, .int v2), (3, .int v3), (4, .int v4), (5, .int v5), (6, .int v6)]) rfl (by rw [ex44]; rfl) (by decide) rfl dX12_findPins_115 ?_
  refine z_goto C 63 (by decide) dX12_findPins_118 ?_
  refine z_lv [2, 3, 4, 5, 6, 7, 8, 1, 0] (lv' := [(0, .ref (B0 + 97)), (1, .int v1), (2, .int v2), (3, .int v3), (4, .int v4), (5, .int v5), (6, .int v6), (7, .int w0), (8, .int x44)]) rfl ?_
  exact hk63 v1 v2 v3 v4 v5 v6 w0 x44 I h
set_option maxHeartbeats 4000000 in
set_option maxRecDepth 100000 in
theorem l_X12_findPins_111 {r : zI} (C : zC p l e R s m args below meth c s0 a0 d cy B0 yX12_findPins.cls cX12_findPins 9 none bc bs bc bs 3 73 []) (L : zL) (k11 : Int32 → Int32 → Int32 → Int32 → Int32 → zI → Option zI) (hk11 : ∀ (v1 : Int32) (v2 : Int32) (v3 : Int32) (v4 : Int32) (v5 : Int32) (I : zI), k11 v1 v2 v3 v4 v5 I = some r → zG p l e R s m args below meth c d cy B0 9 bc bs (zQ below s args d cy B0 bc bs (.inl none) zSH zKn bc bs r L) 11 [(0, .ref (B0 + 97)), (1, .int v1), (2, .int v2), (3, .int v3), (4, .int v4), (5, .int v5)] [] zSH zKn bc bs I L) (k63 : Int32 → Int32 → Int32 → Int32 → Int32 → Int32 → Int32 → Int32 → zI → Option zI) (hk63 : ∀ (v1 : Int32) (v2 : Int32) (v3 : Int32) (v4 : Int32) (v5 : Int32) (v6 : Int32) (v7 : Int32) (v8 : Int32) (I : zI), k63 v1 v2 v3 v4 v5 v6 v7 v8 I = some r → zG p l e R s m args below meth c d cy B0 9 bc bs (zQ below s args d cy B0 bc bs (.inl none) zSH zKn bc bs r L) 63 [(0, .ref (B0 + 97)), (1, .int v1), (2, .int v2), (3, .int v3), (4, .int v4), (5, .int v5), (6, .int v6), (7, .int v7), (8, .int v8)] [] zSH zKn bc bs I L) (v1 : Int32) (v2 : Int32) (v3 : Int32) (v4 : Int32) (v5 : Int32) (v6 : Int32) (v7 : Int32) (v8 : Int32) (I : zI) (h : f_X12_findPins_111 k11 k63 v1 v2 v3 v4 v5 v6 v7 v8 I = some r) : zG p l e R s m args below meth c d cy B0 9 bc bs (zQ below s args d cy B0 bc bs (.inl none) zSH zKn bc bs r L) 111 [(0, .ref (B0 + 97)), (1, .int v1), (2, .int v2), (3, .int v3), (4, .int v4), (5, .int v5), (6, .int v6), (7, .int v7), (8, .int v8)] [] zSH zKn bc bs I L := by
  unfold f_X12_findPins_111 at h
  refine z_iload C 7 rfl dX12_findPins_111 ?_
  refine z_lv [0, 1, 2, 3, 4, 5, 6, 8] (lv' := [(0, .ref (B0 + 97)), (1, .int v1), (2, .int v2), (3, .int v3), (4, .int v4), (5, .int v5), (6, .int v6), (8, .int v8)]) rfl ?_
  exact l_X12_findPins_113 C L k11 hk11 k63 hk63 v1 v2 v3 v4 v5 v6 v8 v7 I h
set_option maxHeartbeats 4000000 in
set_option maxRecDepth 100000 in
theorem l_X12_findPins_159 {r : zI} (C : zC p l e R s m args below meth c s0 a0 d cy B0 yX12_findPins.cls cX12_findPins 9 none bc bs bc bs 3 73 []) (L : zL) (k11 : Int32 → Int32 → Int32 → Int32 → Int32 → zI → Option zI) (hk11 : ∀ (v1 : Int32) (v2 : Int32) (v3 : Int32) (v4 : Int32) (v5 : Int32) (I : zI), k11 v1 v2 v3 v4 v5 I = some r → zG p l e R s m args below meth c d cy B0 9 bc bs (zQ below s args d cy B0 bc bs (.inl none) zSH zKn bc bs r L) 11 [(0, .ref (B0 + 97)), (1, .int v1), (2, .int v2), (3, .int v3), (4, .int v4), (5, .int v5)] [] zSH zKn bc bs I L) (v1 : Int32) (v2 : Int32) (v3 : Int32) (v4 : Int32) (v5 : Int32) (w1 : Int32) (w2 : Int32) (I : zI) (h : f_X12_findPins_159 k11 v1 v2 v3 v4 v5 w1 w2 I = some r) : zG p l e R s m args below meth c d cy B0 9 bc bs (zQ below s args d cy B0 bc bs (.inl none) zSH zKn bc bs r L) 159 [(0, .ref (B0 + 97)), (1, .int v1), (2, .int v2), (3, .int v3), (4, .int v4), (5, .int v5)] [.int w2, .int w1, .ref (B0 + 127)] zSH zKn bc bs I L := by
  unfold f_X12_findPins_159 at h
  obtain ⟨hb41, h⟩ := zck_e h
  refine z_zastore C dX12_findPins_159 rfl rfl (by decide) (zbd_in hb41) ?_
  obtain ⟨I42, eI42, h⟩ := zlt_e h
  refine z_eqI C eI42 ?_
  obtain ⟨x43, ex43, h⟩ := zlt_e h
  refine z_iinc C (j := 5) (v := x43) (lv' := [(5, .int x43), (0, .ref (B0 + 97)), (1, .int v1), (2, .int v2), (3, .int v3), (4, .int v4)]) rfl (by rw [ex43]; rfl) (by decide) rfl dX12_findPins_160 ?_
  refine z_goto C 11 (by decide) dX12_findPins_163 ?_
  refine z_lv [1, 2, 3, 4, 5, 0] (lv' := [(0, .ref (B0 + 97)), (1, .int v1), (2, .int v2), (3, .int v3), (4, .int v4), (5, .int x43)]) rfl ?_
  exact hk11 v1 v2 v3 v4 x43 I42 h
set_option maxHeartbeats 4000000 in
set_option maxRecDepth 100000 in
theorem l_X12_findPins_154 {r : zI} (C : zC p l e R s m args below meth c s0 a0 d cy B0 yX12_findPins.cls cX12_findPins 9 none bc bs bc bs 3 73 []) (L : zL) (k11 : Int32 → Int32 → Int32 → Int32 → Int32 → zI → Option zI) (hk11 : ∀ (v1 : Int32) (v2 : Int32) (v3 : Int32) (v4 : Int32) (v5 : Int32) (I : zI), k11 v1 v2 v3 v4 v5 I = some r → zG p l e R s m args below meth c d cy B0 9 bc bs (zQ below s args d cy B0 bc bs (.inl none) zSH zKn bc bs r L) 11 [(0, .ref (B0 + 97)), (1, .int v1), (2, .int v2), (3, .int v3), (4, .int v4), (5, .int v5)] [] zSH zKn bc bs I L) (v1 : Int32) (v2 : Int32) (v3 : Int32) (v4 : Int32) (v5 : Int32) (w1 : Int32) (I : zI) (h : f_X12_findPins_154 k11 v1 v2 v3 v4 v5 w1 I = some r) : zG p l e R s m args below meth c d cy B0 9 bc bs (zQ below s args d cy B0 bc bs (.inl none) zSH zKn bc bs r L) 154 [(0, .ref (B0 + 97)), (1, .int v1), (2, .int v2), (3, .int v3), (4, .int v4), (5, .int v5)] [.int w1, .ref (B0 + 127)] zSH zKn bc bs I L := by
  unfold f_X12_findPins_154 at h
  refine z_iconst C (v := 1) (by decide) dX12_findPins_154 ?_
  refine z_goto C 159 (by decide) dX12_findPins_155 ?_
  exact l_X12_findPins_159 C L k11 hk11 v1 v2 v3 v4 v5 w1 (1 : Int32) I h
set_option maxHeartbeats 4000000 in
set_option maxRecDepth 100000 in
theorem l_X12_findPins_63 {r : zI} (C : zC p l e R s m args below meth c s0 a0 d cy B0 yX12_findPins.cls cX12_findPins 9 none bc bs bc bs 3 73 []) (L : zL) (k11 : Int32 → Int32 → Int32 → Int32 → Int32 → zI → Option zI) (hk11 : ∀ (v1 : Int32) (v2 : Int32) (v3 : Int32) (v4 : Int32) (v5 : Int32) (I : zI), k11 v1 v2 v3 v4 v5 I = some r → zG p l e R s m args below meth c d cy B0 9 bc bs (zQ below s args d cy B0 bc bs (.inl none) zSH zKn bc bs r L) 11 [(0, .ref (B0 + 97)), (1, .int v1), (2, .int v2), (3, .int v3), (4, .int v4), (5, .int v5)] [] zSH zKn bc bs I L) (k63 : Int32 → Int32 → Int32 → Int32 → Int32 → Int32 → Int32 → Int32 → zI → Option zI) (hk63 : ∀ (v1 : Int32) (v2 : Int32) (v3 : Int32) (v4 : Int32) (v5 : Int32) (v6 : Int32) (v7 : Int32) (v8 : Int32) (I : zI), k63 v1 v2 v3 v4 v5 v6 v7 v8 I = some r → zG p l e R s m args below meth c d cy B0 9 bc bs (zQ below s args d cy B0 bc bs (.inl none) zSH zKn bc bs r L) 63 [(0, .ref (B0 + 97)), (1, .int v1), (2, .int v2), (3, .int v3), (4, .int v4), (5, .int v5), (6, .int v6), (7, .int v7), (8, .int v8)] [] zSH zKn bc bs I L) (v1 : Int32) (v2 : Int32) (v3 : Int32) (v4 : Int32) (v5 : Int32) (v6 : Int32) (v7 : Int32) (v8 : Int32) (I : zI) (h : f_X12_findPins_63 k11 k63 v1 v2 v3 v4 v5 v6 v7 v8 I = some r) : zG p l e R s m args below meth c d cy B0 9 bc bs (zQ below s args d cy B0 bc bs (.inl none) zSH zKn bc bs r L) 63 [(0, .ref (B0 + 97)), (1, .int v1), (2, .int v2), (3, .int v3), (4, .int v4), (5, .int v5), (6, .int v6), (7, .int v7), (8, .int v8)] [] zSH zKn bc bs I L := by
  unfold f_X12_findPins_63 at h
  refine z_iload C 8 rfl dX12_findPins_63 ?_
  refine z_if_lt C 121 (by decide) dX12_findPins_65 (fun hc => ?_) (fun hc => ?_)
  · have h := zif_t hc h
    refine z_aload_n C rfl 0 rfl dX12_findPins_121 ?_
    refine z_getr C zc_12 dX12_findPins_122 44 97 128 rfl (by decide) (by decide) q_1213 rfl rfl ?_
    refine z_iconst C (v := 4) (by decide) dX12_findPins_125 ?_
    refine z_iload_n C rfl 1 rfl dX12_findPins_126 ?_
    refine z_imul C dX12_findPins_127 ?_
    refine z_iload C 5 rfl dX12_findPins_128 ?_
    refine z_iadd C dX12_findPins_130 ?_
    obtain ⟨x19, ex19, h⟩ := zlt_e h
    refine z_eqi C ex19 ?_
    refine z_iload C 7 rfl dX12_findPins_131 ?_
    obtain ⟨hb20, h⟩ := zck_e h
    refine z_iastore C dX12_findPins_133 rfl rfl (by decide) (zbd_in hb20) ?_
    obtain ⟨I21, eI21, h⟩ := zlt_e h
    refine z_eqI C eI21 ?_
    refine z_aload_n C rfl 0 rfl dX12_findPins_134 ?_
    refine z_getr C zc_12 dX12_findPins_135 43 97 127 rfl (by decide) (by decide) q_1212 rfl rfl ?_
    refine z_iload_n C rfl 1 rfl dX12_findPins_138 ?_
    refine z_aload_n C rfl 0 rfl dX12_findPins_139 ?_
    refine z_getr C zc_12 dX12_findPins_140 43 97 127 rfl (by decide) (by decide) q_1212 rfl rfl ?_
    refine z_iload_n C rfl 1 rfl dX12_findPins_143 ?_
    obtain ⟨hb22, h⟩ := zck_e h
    refine z_zaload C dX12_findPins_144 rfl rfl (by decide) (zbd_in hb22) ?_
    refine z_if_ne C 154 (by decide) dX12_findPins_145 (fun hc => ?_) (fun hc => ?_)
    · have h := zif_f hc h
      refine z_lv [0, 1, 2, 3, 4, 5] (lv' := [(0, .ref (B0 + 97)), (1, .int v1), (2, .int v2), (3, .int v3), (4, .int v4), (5, .int v5)]) rfl ?_
      exact l_X12_findPins_154 C L k11 hk11 v1 v2 v3 v4 v5 v1 I21 h
    · have h := zif_t hc h
      refine z_iload C 7 rfl dX12_findPins_148 ?_
      refine z_iconst C (v := -1) (by decide) dX12_findPins_150 ?_
      refine z_icmp_ne C 158 (by decide) dX12_findPins_151 (fun hc => ?_) (fun hc => ?_)
      · have h := zif_f hc h
        refine z_iconst C (v := 0) (by decide) dX12_findPins_158 ?_
        refine z_lv [0, 1, 2, 3, 4, 5] (lv' := [(0, .ref (B0 + 97)), (1, .int v1), (2, .int v2), (3, .int v3), (4, .int v4), (5, .int v5)]) rfl ?_
        exact l_X12_findPins_159 C L k11 hk11 v1 v2 v3 v4 v5 v1 (0 : Int32) I21 h
      · have h := zif_t hc h
        refine z_lv [0, 1, 2, 3, 4, 5] (lv' := [(0, .ref (B0 + 97)), (1, .int v1), (2, .int v2), (3, .int v3), (4, .int v4), (5, .int v5)]) rfl ?_
        exact l_X12_findPins_154 C L k11 hk11 v1 v2 v3 v4 v5 v1 I21 h
  · have h := zif_f hc h
    refine z_aload_n C rfl 0 rfl dX12_findPins_68 ?_
    refine z_getr C zc_12 dX12_findPins_69 56 97 132 rfl (by decide) (by decide) q_1225 rfl rfl ?_
    refine z_iload C 8 rfl dX12_findPins_72 ?_
    obtain ⟨hb23, h⟩ := zck_e h
    refine z_zaload C dX12_findPins_74 rfl rfl (by decide) (zbd_in hb23) ?_
    refine z_if_eq C 111 (by decide) dX12_findPins_75 (fun hc => ?_) (fun hc => ?_)
    · have h := zif_t hc h
      exact l_X12_findPins_111 C L k11 hk11 k63 hk63 v1 v2 v3 v4 v5 v6 v7 v8 I h
    · have h := zif_f hc h
      refine z_aload_n C rfl 0 rfl dX12_findPins_78 ?_
      refine z_iload_n C rfl 1 rfl dX12_findPins_79 ?_
      refine z_iload C 5 rfl dX12_findPins_80 ?_
      refine z_aload_n C rfl 0 rfl dX12_findPins_82 ?_
      refine z_getr C zc_12 dX12_findPins_83 34 97 121 rfl (by decide) (by decide) q_1203 rfl rfl ?_
      refine z_iload C 6 rfl dX12_findPins_86 ?_
      obtain ⟨hb24, h⟩ := zck_e h
      refine z_iaload C dX12_findPins_88 rfl rfl (by decide) (zbd_in hb24) ?_
      refine z_iload C 8 rfl dX12_findPins_89 ?_
      refine z_iadd C dX12_findPins_91 ?_
      obtain ⟨x25, ex25, h⟩ := zlt_e h
      refine z_eqi C ex25 ?_
      obtain ⟨x27, hg26, h⟩ := zb1_e h
      refine z_callV C zc_12 rfl (by decide) dX12_findPins_92 yy_X12_isHad (c_X12_isHad C.2.2.2.2.1  v1 v5 x25 I L hg26) q_1497 q_1499 q_69 (by decide) (by decide) rfl rfl (Nat.le_of_ble_eq_true rfl) ⟨Nat.le_refl _, Nat.le_refl _, Nat.le_refl _, Nat.le_refl _⟩ ?_
      refine z_if_ne C 111 (by decide) dX12_findPins_95 (fun hc => ?_) (fun hc => ?_)
      · have h := zif_f hc h
        exact l_X12_findPins_111 C L k11 hk11 k63 hk63 v1 v2 v3 v4 v5 v6 v7 v8 I h
      · have h := zif_t hc h
        refine z_aload_n C rfl 0 rfl dX12_findPins_98 ?_
        refine z_getr C zc_12 dX12_findPins_99 34 97 121 rfl (by decide) (by decide) q_1203 rfl rfl ?_
        refine z_iload C 6 rfl dX12_findPins_102 ?_
        obtain ⟨hb28, h⟩ := zck_e h
        refine z_iaload C dX12_findPins_104 rfl rfl (by decide) (zbd_in hb28) ?_
        refine z_iload C 8 rfl dX12_findPins_105 ?_
        refine z_iadd C dX12_findPins_107 ?_
        obtain ⟨x29, ex29, h⟩ := zlt_e h
        refine z_eqi C ex29 ?_
        refine z_goto C 113 (by decide) dX12_findPins_108 ?_
        refine z_lv [0, 1, 2, 3, 4, 5, 6, 8] (lv' := [(0, .ref (B0 + 97)), (1, .int v1), (2, .int v2), (3, .int v3), (4, .int v4), (5, .int v5), (6, .int v6), (8, .int v8)]) rfl ?_
        exact l_X12_findPins_113 C L k11 hk11 k63 hk63 v1 v2 v3 v4 v5 v6 v8 x29 I h
set_option maxHeartbeats 4000000 in
set_option maxRecDepth 100000 in
theorem L_X12_findPins_63 {r : zI} (C : zC p l e R s m args below meth c s0 a0 d cy B0 yX12_findPins.cls cX12_findPins 9 none bc bs bc bs 3 73 []) (L : zL) (k11 : Int32 → Int32 → Int32 → Int32 → Int32 → zI → Option zI) (hk11 : ∀ (v1 : Int32) (v2 : Int32) (v3 : Int32) (v4 : Int32) (v5 : Int32) (I : zI), k11 v1 v2 v3 v4 v5 I = some r → zG p l e R s m args below meth c d cy B0 9 bc bs (zQ below s args d cy B0 bc bs (.inl none) zSH zKn bc bs r L) 11 [(0, .ref (B0 + 97)), (1, .int v1), (2, .int v2), (3, .int v3), (4, .int v4), (5, .int v5)] [] zSH zKn bc bs I L) (v1 : Int32) (v2 : Int32) (v3 : Int32) (v4 : Int32) (v5 : Int32) (v6 : Int32) (v7 : Int32) (v8 : Int32) (I : zI) (h : zlp9 (f_X12_findPins_63 k11) zF v1 v2 v3 v4 v5 v6 v7 v8 I = some r) : zG p l e R s m args below meth c d cy B0 9 bc bs (zQ below s args d cy B0 bc bs (.inl none) zSH zKn bc bs r L) 63 [(0, .ref (B0 + 97)), (1, .int v1), (2, .int v2), (3, .int v3), (4, .int v4), (5, .int v5), (6, .int v6), (7, .int v7), (8, .int v8)] [] zSH zKn bc bs I L :=
 zlp9_e (fun (v1 : Int32) (v2 : Int32) (v3 : Int32) (v4 : Int32) (v5 : Int32) (v6 : Int32) (v7 : Int32) (v8 : Int32) (I : zI) => zG p l e R s m args below meth c d cy B0 9 bc bs (zQ below s args d cy B0 bc bs (.inl none) zSH zKn bc bs r L) 63 [(0, .ref (B0 + 97)), (1, .int v1), (2, .int v2), (3, .int v3), (4, .int v4), (5, .int v5), (6, .int v6), (7, .int v7), (8, .int v8)] [] zSH zKn bc bs I L) (fun k9 hk9 v1 v2 v3 v4 v5 v6 v7 v8 I h => l_X12_findPins_63 C L k11 hk11 k9 hk9 v1 v2 v3 v4 v5 v6 v7 v8 I h) zF v1 v2 v3 v4 v5 v6 v7 v8 I h
set_option maxHeartbeats 4000000 in
set_option maxRecDepth 100000 in
theorem l_X12_findPins_275 {r : zI} (C : zC p l e R s m args below meth c s0 a0 d cy B0 yX12_findPins.cls cX12_findPins 9 none bc bs bc bs 3 73 []) (L : zL) (k169 : Int32 → Int32 → Int32 → Int32 → Int32 → zI → Option zI) (hk169 : ∀ (v1 : Int32) (v2 : Int32) (v3 : Int32) (v4 : Int32) (v5 : Int32) (I : zI), k169 v1 v2 v3 v4 v5 I = some r → zG p l e R s m args below meth c d cy B0 9 bc bs (zQ below s args d cy B0 bc bs (.inl none) zSH zKn bc bs r L) 169 [(0, .ref (B0 + 97)), (1, .int v1), (2, .int v2), (3, .int v3), (4, .int v4), (5, .int v5)] [] zSH zKn bc bs I L) (k205 : Int32 → Int32 → Int32 → Int32 → Int32 → Int32 → Int32 → zI → Option zI) (hk205 : ∀ (v1 : Int32) (v2 : Int32) (v3 : Int32) (v4 : Int32) (v5 : Int32) (v6 : Int32) (v7 : Int32) (I : zI), k205 v1 v2 v3 v4 v5 v6 v7 I = some r → zG p l e R s m args below meth c d cy B0 9 bc bs (zQ below s args d cy B0 bc bs (.inl none) zSH zKn bc bs r L) 205 [(0, .ref (B0 + 97)), (1, .int v1), (2, .int v2), (3, .int v3), (4, .int v4), (5, .int v5), (6, .int v6), (7, .int v7)] [] zSH zKn bc bs I L) (v1 : Int32) (v2 : Int32) (v3 : Int32) (v4 : Int32) (v5 : Int32) (v6 : Int32) (v7 : Int32) (w1 : Int32) (w2 : Int32) (I : zI) (h : f_X12_findPins_275 k169 k205 v1 v2 v3 v4 v5 v6 v7 w1 w2 I = some r) : zG p l e R s m args below meth c d cy B0 9 bc bs (zQ below s args d cy B0 bc bs (.inl none) zSH zKn bc bs r L) 275 [(0, .ref (B0 + 97)), (1, .int v1), (2, .int v2), (3, .int v3), (4, .int v4), (5, .int v5), (6, .int v6), (7, .int v7)] [.int w2, .int w1, .ref (B0 + 127)] zSH zKn bc bs I L := by
  unfold f_X12_findPins_275 at h
  obtain ⟨hb45, h⟩ := zck_e h
  refine z_zastore C dX12_findPins_275 rfl rfl (by decide) (zbd_in hb45) ?_
  obtain ⟨I46, eI46, h⟩ := zlt_e h
  refine z_eqI C eI46 ?_
  obtain ⟨x47, ex47, h⟩ := zlt_e h
  refine z_iinc C (j := 7) (v := x47) (lv' := [(7, .int x47), (0, .ref (B0 + 97)), (1, .int v1), (2, .int v2), (3, .int v3), (4, .int v4), (5, .int v5), (6, .int v6)]) rfl (by rw [ex47]; rfl) (by decide) rfl dX12_findPins_276 ?_
  refine z_goto C 205 (by decide) dX12_findPins_279 ?_
  refine z_lv [1, 2, 3, 4, 5, 6, 7, 0] (lv' := [(0, .ref (B0 + 97)), (1, .int v1), (2, .int v2), (3, .int v3), (4, .int v4), (5, .int v5), (6, .int v6), (7, .int x47)]) rfl ?_
  exact hk205 v1 v2 v3 v4 v5 v6 x47 I46 h
set_option maxHeartbeats 4000000 in
set_option maxRecDepth 100000 in
theorem l_X12_findPins_270 {r : zI} (C : zC p l e R s m args below meth c s0 a0 d cy B0 yX12_findPins.cls cX12_findPins 9 none bc bs bc bs 3 73 []) (L : zL) (k169 : Int32 → Int32 → Int32 → Int32 → Int32 → zI → Option zI) (hk169 : ∀ (v1 : Int32) (v2 : Int32) (v3 : Int32) (v4 : Int32) (v5 : Int32) (I : zI), k169 v1 v2 v3 v4 v5 I = some r → zG p l e R s m args below meth c d cy B0 9 bc bs (zQ below s args d cy B0 bc bs (.inl none) zSH zKn bc bs r L) 169 [(0, .ref (B0 + 97)), (1, .int v1), (2, .int v2), (3, .int v3), (4, .int v4), (5, .int v5)] [] zSH zKn bc bs I L) (k205 : Int32 → Int32 → Int32 → Int32 → Int32 → Int32 → Int32 → zI → Option zI) (hk205 : ∀ (v1 : Int32) (v2 : Int32) (v3 : Int32) (v4 : Int32) (v5 : Int32) (v6 : Int32) (v7 : Int32) (I : zI), k205 v1 v2 v3 v4 v5 v6 v7 I = some r → zG p l e R s m args below meth c d cy B0 9 bc bs (zQ below s args d cy B0 bc bs (.inl none) zSH zKn bc bs r L) 205 [(0, .ref (B0 + 97)), (1, .int v1), (2, .int v2), (3, .int v3), (4, .int v4), (5, .int v5), (6, .int v6), (7, .int v7)] [] zSH zKn bc bs I L) (v1 : Int32) (v2 : Int32) (v3 : Int32) (v4 : Int32) (v5 : Int32) (v6 : Int32) (v7 : Int32) (w1 : Int32) (I : zI) (h : f_X12_findPins_270 k169 k205 v1 v2 v3 v4 v5 v6 v7 w1 I = some r) : zG p l e R s m args below meth c d cy B0 9 bc bs (zQ below s args d cy B0 bc bs (.inl none) zSH zKn bc bs r L) 270 [(0, .ref (B0 + 97)), (1, .int v1), (2, .int v2), (3, .int v3), (4, .int v4), (5, .int v5), (6, .int v6), (7, .int v7)] [.int w1, .ref (B0 + 127)] zSH zKn bc bs I L := by
  unfold f_X12_findPins_270 at h
  refine z_iconst C (v := 1) (by decide) dX12_findPins_270 ?_
  refine z_goto C 275 (by decide) dX12_findPins_271 ?_
  exact l_X12_findPins_275 C L k169 hk169 k205 hk205 v1 v2 v3 v4 v5 v6 v7 w1 (1 : Int32) I h
set_option maxHeartbeats 4000000 in
set_option maxRecDepth 100000 in
theorem l_X12_findPins_274 {r : zI} (C : zC p l e R s m args below meth c s0 a0 d cy B0 yX12_findPins.cls cX12_findPins 9 none bc bs bc bs 3 73 []) (L : zL) (k169 : Int32 → Int32 → Int32 → Int32 → Int32 → zI → Option zI) (hk169 : ∀ (v1 : Int32) (v2 : Int32) (v3 : Int32) (v4 : Int32) (v5 : Int32) (I : zI), k169 v1 v2 v3 v4 v5 I = some r → zG p l e R s m args below meth c d cy B0 9 bc bs (zQ below s args d cy B0 bc bs (.inl none) zSH zKn bc bs r L) 169 [(0, .ref (B0 + 97)), (1, .int v1), (2, .int v2), (3, .int v3), (4, .int v4), (5, .int v5)] [] zSH zKn bc bs I L) (k205 : Int32 → Int32 → Int32 → Int32 → Int32 → Int32 → Int32 → zI → Option zI) (hk205 : ∀ (v1 : Int32) (v2 : Int32) (v3 : Int32) (v4 : Int32) (v5 : Int32) (v6 : Int32) (v7 : Int32) (I : zI), k205 v1 v2 v3 v4 v5 v6 v7 I = some r → zG p l e R s m args below meth c d cy B0 9 bc bs (zQ below s args d cy B0 bc bs (.inl none) zSH zKn bc bs r L) 205 [(0, .ref (B0 + 97)), (1, .int v1), (2, .int v2), (3, .int v3), (4, .int v4), (5, .int v5), (6, .int v6), (7, .int v7)] [] zSH zKn bc bs I L) (v1 : Int32) (v2 : Int32) (v3 : Int32) (v4 : Int32) (v5 : Int32) (v6 : Int32) (v7 : Int32) (w1 : Int32) (I : zI) (h : f_X12_findPins_274 k169 k205 v1 v2 v3 v4 v5 v6 v7 w1 I = some r) : zG p l e R s m args below meth c d cy B0 9 bc bs (zQ below s args d cy B0 bc bs (.inl none) zSH zKn bc bs r L) 274 [(0, .ref (B0 + 97)), (1, .int v1), (2, .int v2), (3, .int v3), (4, .int v4), (5, .int v5), (6, .int v6), (7, .int v7)] [.int w1, .ref (B0 + 127)] zSH zKn bc bs I L := by
  unfold f_X12_findPins_274 at h
  refine z_iconst C (v := 0) (by decide) dX12_findPins_274 ?_
  exact l_X12_findPins_275 C L k169 hk169 k205 hk205 v1 v2 v3 v4 v5 v6 v7 w1 (0 : Int32) I h
set_option maxHeartbeats 4000000 in
set_option maxRecDepth 100000 in
theorem l_X12_findPins_205 {r : zI} (C : zC p l e R s m args below meth c s0 a0 d cy B0 yX12_findPins.cls cX12_findPins 9 none bc bs bc bs 3 73 []) (L : zL) (k169 : Int32 → Int32 → Int32 → Int32 → Int32 → zI → Option zI) (hk169 : ∀ (v1 : Int32) (v2 : Int32) (v3 : Int32) (v4 : Int32) (v5 : Int32) (I : zI), k169 v1 v2 v3 v4 v5 I = some r → zG p l e R s m args below meth c d cy B0 9 bc bs (zQ below s args d cy B0 bc bs (.inl none) zSH zKn bc bs r L) 169 [(0, .ref (B0 + 97)), (1, .int v1), (2, .int v2), (3, .int v3), (4, .int v4), (5, .int v5)] [] zSH zKn bc bs I L) (k205 : Int32 → Int32 → Int32 → Int32 → Int32 → Int32 → Int32 → zI → Option zI) (hk205 : ∀ (v1 : Int32) (v2 : Int32) (v3 : Int32) (v4 : Int32) (v5 : Int32) (v6 : Int32) (v7 : Int32) (I : zI), k205 v1 v2 v3 v4 v5 v6 v7 I = some r → zG p l e R s m args below meth c d cy B0 9 bc bs (zQ below s args d cy B0 bc bs (.inl none) zSH zKn bc bs r L) 205 [(0, .ref (B0 + 97)), (1, .int v1), (2, .int v2), (3, .int v3), (4, .int v4), (5, .int v5), (6, .int v6), (7, .int v7)] [] zSH zKn bc bs I L) (v1 : Int32) (v2 : Int32) (v3 : Int32) (v4 : Int32) (v5 : Int32) (v6 : Int32) (v7 : Int32) (I : zI) (h : f_X12_findPins_205 k169 k205 v1 v2 v3 v4 v5 v6 v7 I = some r) : zG p l e R s m args below meth c d cy B0 9 bc bs (zQ below s args d cy B0 bc bs (.inl none) zSH zKn bc bs r L) 205 [(0, .ref (B0 + 97)), (1, .int v1), (2, .int v2), (3, .int v3), (4, .int v4), (5, .int v5), (6, .int v6), (7, .int v7)] [] zSH zKn bc bs I L := by
  unfold f_X12_findPins_205 at h
  refine z_iload C 7 rfl dX12_findPins_205 ?_
  refine z_aload_n C rfl 0 rfl dX12_findPins_207 ?_
  refine z_getr C zc_12 dX12_findPins_208 33 97 120 rfl (by decide) (by decide) q_1202 rfl rfl ?_
  refine z_aload_n C rfl 0 rfl dX12_findPins_211 ?_
  refine z_getr C zc_12 dX12_findPins_212 20 97 109 rfl (by decide) (by decide) q_1189 rfl rfl ?_
  refine z_iload C 6 rfl dX12_findPins_215 ?_
  obtain ⟨hb30, h⟩ := zck_e h
  refine z_iaload C dX12_findPins_217 rfl rfl (by decide) (zbd_in hb30) ?_
  obtain ⟨x31, ex31, h⟩ := zlt_e h
  refine z_eqi C ex31 ?_
  obtain ⟨hb32, h⟩ := zck_e h
  refine z_iaload C dX12_findPins_218 rfl rfl (by decide) (zbd_in hb32) ?_
  refine z_icmp_ge C 282 (by decide) dX12_findPins_219 (fun hc => ?_) (fun hc => ?_)
  · have h := zif_t hc h
    obtain ⟨x33, ex33, h⟩ := zlt_e h
    refine z_iinc C (j := 5) (v := x33) (lv' := [(5, .int x33), (0, .ref (B0 + 97)), (1, .int v1), (2, .int v2), (3, .int v3), (4, .int v4), (6, .int v6), (7, .int v7)]) rfl (by rw [ex33]; rfl) (by decide) rfl dX12_findPins_282 ?_
    refine z_goto C 169 (by decide) dX12_findPins_285 ?_
    refine z_lv [1, 2, 3, 4, 5, 0] (lv' := [(0, .ref (B0 + 97)), (1, .int v1), (2, .int v2), (3, .int v3), (4, .int v4), (5, .int x33)]) rfl ?_
    exact hk169 v1 v2 v3 v4 x33 I h
  · have h := zif_f hc h
    refine z_aload_n C rfl 0 rfl dX12_findPins_222 ?_
    refine z_getr C zc_12 dX12_findPins_223 43 97 127 rfl (by decide) (by decide) q_1212 rfl rfl ?_
    refine z_iload_n C rfl 1 rfl dX12_findPins_226 ?_
    refine z_aload_n C rfl 0 rfl dX12_findPins_227 ?_
    refine z_getr C zc_12 dX12_findPins_228 43 97 127 rfl (by decide) (by decide) q_1212 rfl rfl ?_
    refine z_iload_n C rfl 1 rfl dX12_findPins_231 ?_
    obtain ⟨hb34, h⟩ := zck_e h
    refine z_zaload C dX12_findPins_232 rfl rfl (by decide) (zbd_in hb34) ?_
    refine z_if_ne C 270 (by decide) dX12_findPins_233 (fun hc => ?_) (fun hc => ?_)
    · have h := zif_f hc h
      exact l_X12_findPins_270 C L k169 hk169 k205 hk205 v1 v2 v3 v4 v5 v6 v7 v1 I h
    · have h := zif_t hc h
      refine z_aload_n C rfl 0 rfl dX12_findPins_236 ?_
      refine z_getr C zc_12 dX12_findPins_237 56 97 132 rfl (by decide) (by decide) q_1225 rfl rfl ?_
      refine z_iload C 7 rfl dX12_findPins_240 ?_
      obtain ⟨hb35, h⟩ := zck_e h
      refine z_zaload C dX12_findPins_242 rfl rfl (by decide) (zbd_in hb35) ?_
      refine z_if_eq C 274 (by decide) dX12_findPins_243 (fun hc => ?_) (fun hc => ?_)
      · have h := zif_t hc h
        exact l_X12_findPins_274 C L k169 hk169 k205 hk205 v1 v2 v3 v4 v5 v6 v7 v1 I h
      · have h := zif_f hc h
        refine z_aload_n C rfl 0 rfl dX12_findPins_246 ?_
        refine z_iload_n C rfl 1 rfl dX12_findPins_247 ?_
        refine z_aload_n C rfl 0 rfl dX12_findPins_248 ?_
        refine z_getr C zc_12 dX12_findPins_249 26 97 115 rfl (by decide) (by decide) q_1195 rfl rfl ?_
        refine z_iload_n C rfl 2 rfl dX12_findPins_252 ?_
        obtain ⟨hb36, h⟩ := zck_e h
        refine z_iaload C dX12_findPins_253 rfl rfl (by decide) (zbd_in hb36) ?_
        refine z_aload_n C rfl 0 rfl dX12_findPins_254 ?_
        refine z_getr C zc_12 dX12_findPins_255 34 97 121 rfl (by decide) (by decide) q_1203 rfl rfl ?_
        refine z_iload C 6 rfl dX12_findPins_258 ?_
        obtain ⟨hb37, h⟩ := zck_e h
        refine z_iaload C dX12_findPins_260 rfl rfl (by decide) (zbd_in hb37) ?_
        refine z_iload C 7 rfl dX12_findPins_261 ?_
        refine z_iadd C dX12_findPins_263 ?_
        obtain ⟨x38, ex38, h⟩ := zlt_e h
        refine z_eqi C ex38 ?_
        obtain ⟨x40, hg39, h⟩ := zb1_e h
        refine z_callV C zc_12 rfl (by decide) dX12_findPins_264 yy_X12_isHad (c_X12_isHad C.2.2.2.2.1  v1 (I 115 v2.toNatClampNeg) x38 I L hg39) q_1497 q_1499 q_69 (by decide) (by decide) rfl rfl (Nat.le_of_ble_eq_true rfl) ⟨Nat.le_refl _, Nat.le_refl _, Nat.le_refl _, Nat.le_refl _⟩ ?_
        refine z_if_ne C 274 (by decide) dX12_findPins_267 (fun hc => ?_) (fun hc => ?_)
        · have h := zif_f hc h
          exact l_X12_findPins_274 C L k169 hk169 k205 hk205 v1 v2 v3 v4 v5 v6 v7 v1 I h
        · have h := zif_t hc h
          exact l_X12_findPins_270 C L k169 hk169 k205 hk205 v1 v2 v3 v4 v5 v6 v7 v1 I h
set_option maxHeartbeats 4000000 in
set_option maxRecDepth 100000 in
theorem L_X12_findPins_205 {r : zI} (C : zC p l e R s m args below meth c s0 a0 d cy B0 yX12_findPins.cls cX12_findPins 9 none bc bs bc bs 3 73 []) (L : zL) (k169 : Int32 → Int32 → Int32 → Int32 → Int32 → zI → Option zI) (hk169 : ∀ (v1 : Int32) (v2 : Int32) (v3 : Int32) (v4 : Int32) (v5 : Int32) (I : zI), k169 v1 v2 v3 v4 v5 I = some r → zG p l e R s m args below meth c d cy B0 9 bc bs (zQ below s args d cy B0 bc bs (.inl none) zSH zKn bc bs r L) 169 [(0, .ref (B0 + 97)), (1, .int v1), (2, .int v2), (3, .int v3), (4, .int v4), (5, .int v5)] [] zSH zKn bc bs I L) (v1 : Int32) (v2 : Int32) (v3 : Int32) (v4 : Int32) (v5 : Int32) (v6 : Int32) (v7 : Int32) (I : zI) (h : zlp8 (f_X12_findPins_205 k169) zF v1 v2 v3 v4 v5 v6 v7 I = some r) : zG p l e R s m args below meth c d cy B0 9 bc bs (zQ below s args d cy B0 bc bs (.inl none) zSH zKn bc bs r L) 205 [(0, .ref (B0 + 97)), (1, .int v1), (2, .int v2), (3, .int v3), (4, .int v4), (5, .int v5), (6, .int v6), (7, .int v7)] [] zSH zKn bc bs I L :=
 zlp8_e (fun (v1 : Int32) (v2 : Int32) (v3 : Int32) (v4 : Int32) (v5 : Int32) (v6 : Int32) (v7 : Int32) (I : zI) => zG p l e R s m args below meth c d cy B0 9 bc bs (zQ below s args d cy B0 bc bs (.inl none) zSH zKn bc bs r L) 205 [(0, .ref (B0 + 97)), (1, .int v1), (2, .int v2), (3, .int v3), (4, .int v4), (5, .int v5), (6, .int v6), (7, .int v7)] [] zSH zKn bc bs I L) (fun k9 hk9 v1 v2 v3 v4 v5 v6 v7 I h => l_X12_findPins_205 C L k169 hk169 k9 hk9 v1 v2 v3 v4 v5 v6 v7 I h) zF v1 v2 v3 v4 v5 v6 v7 I h
set_option maxHeartbeats 4000000 in
set_option maxRecDepth 100000 in
theorem l_X12_findPins_169 {r : zI} (C : zC p l e R s m args below meth c s0 a0 d cy B0 yX12_findPins.cls cX12_findPins 9 none bc bs bc bs 3 73 []) (L : zL) (k169 : Int32 → Int32 → Int32 → Int32 → Int32 → zI → Option zI) (hk169 : ∀ (v1 : Int32) (v2 : Int32) (v3 : Int32) (v4 : Int32) (v5 : Int32) (I : zI), k169 v1 v2 v3 v4 v5 I = some r → zG p l e R s m args below meth c d cy B0 9 bc bs (zQ below s args d cy B0 bc bs (.inl none) zSH zKn bc bs r L) 169 [(0, .ref (B0 + 97)), (1, .int v1), (2, .int v2), (3, .int v3), (4, .int v4), (5, .int v5)] [] zSH zKn bc bs I L) (v1 : Int32) (v2 : Int32) (v3 : Int32) (v4 : Int32) (v5 : Int32) (I : zI) (h : f_X12_findPins_169 k169 v1 v2 v3 v4 v5 I = some r) : zG p l e R s m args below meth c d cy B0 9 bc bs (zQ below s args d cy B0 bc bs (.inl none) zSH zKn bc bs r L) 169 [(0, .ref (B0 + 97)), (1, .int v1), (2, .int v2), (3, .int v3), (4, .int v4), (5, .int v5)] [] zSH zKn bc bs I L := by
  unfold f_X12_findPins_169 at h
  refine z_iload C 5 rfl dX12_findPins_169 ?_
  refine z_aload_n C rfl 0 rfl dX12_findPins_171 ?_
  refine z_getr C zc_12 dX12_findPins_172 26 97 115 rfl (by decide) (by decide) q_1195 rfl rfl ?_
  refine z_iload_n C rfl 2 rfl dX12_findPins_175 ?_
  obtain ⟨hb13, h⟩ := zck_e h
  refine z_iaload C dX12_findPins_176 rfl rfl (by decide) (zbd_in hb13) ?_
  refine z_icmp_ge C 288 (by decide) dX12_findPins_177 (fun hc => ?_) (fun hc => ?_)
  · have h := zif_t hc h
    obtain rfl := Option.some.inj h
    exact z_vret C dX12_findPins_288 rfl rfl
  · have h := zif_f hc h
    refine z_aload_n C rfl 0 rfl dX12_findPins_180 ?_
    refine z_getr C zc_12 dX12_findPins_181 27 97 116 rfl (by decide) (by decide) q_1196 rfl rfl ?_
    refine z_iconst C (v := 4) (by decide) dX12_findPins_184 ?_
    refine z_iload_n C rfl 2 rfl dX12_findPins_185 ?_
    refine z_imul C dX12_findPins_186 ?_
    refine z_iload C 5 rfl dX12_findPins_187 ?_
    refine z_iadd C dX12_findPins_189 ?_
    obtain ⟨x14, ex14, h⟩ := zlt_e h
    refine z_eqi C ex14 ?_
    obtain ⟨hb15, h⟩ := zck_e h
    refine z_iaload C dX12_findPins_190 rfl rfl (by decide) (zbd_in hb15) ?_
    obtain ⟨x16, ex16, h⟩ := zlt_e h
    refine z_eqi C ex16 ?_
    refine z_istore C (lv' := [(6, .int x16), (0, .ref (B0 + 97)), (1, .int v1), (2, .int v2), (3, .int v3), (4, .int v4), (5, .int v5)]) (by decide) rfl dX12_findPins_191 ?_
    refine z_aload_n C rfl 1 rfl dX12_findPins_193 ?_
    refine z_iload C 0 rfl dX12_findPins_194 ?_
    refine z_iload C 5 rfl dX12_findPins_196 ?_
    refine z_iload_n C rfl 4 rfl dX12_findPins_198 ?_
    obtain ⟨I18, hg17, h⟩ := zb1_e h
    refine z_callV C zc_12 rfl (by decide) dX12_findPins_199 yy_X12_touch (c_X12_touch C.2.2.2.2.1  x16 v4 v3 I L hg17) q_1493 q_1495 q_68 (by decide) (by decide) rfl rfl (Nat.le_of_ble_eq_true rfl) ⟨Nat.le_refl _, Nat.le_refl _, Nat.le_refl _, Nat.le_refl _⟩ ?_
    refine z_iconst C (v := 0) (by decide) dX12_findPins_202 ?_
    refine z_istore C (lv' := [(7, .int (0 : Int32)), (6, .int x16), (0, .ref (B0 + 97)), (1, .int v1), (2, .int v2), (3, .int v3), (4, .int v4), (5, .int v5)]) (by decide) rfl dX12_findPins_203 ?_
    refine z_lv [2, 3, 4, 5, 6, 7, 1, 0] (lv' := [(0, .ref (B0 + 97)), (1, .int v1), (2, .int v2), (3, .int v3), (4, .int v4), (5, .int v5), (6, .int x16), (7, .int (0 : Int32))]) rfl ?_
    exact L_X12_findPins_205 C L k169 hk169 v1 v2 v3 v4 v5 x16 (0 : Int32) I18 h
set_option maxHeartbeats 4000000 in
set_option maxRecDepth 100000 in
theorem L_X12_findPins_169 {r : zI} (C : zC p l e R s m args below meth c s0 a0 d cy B0 yX12_findPins.cls cX12_findPins 9 none bc bs bc bs 3 73 []) (L : zL) (v1 : Int32) (v2 : Int32) (v3 : Int32) (v4 : Int32) (v5 : Int32) (I : zI) (h : zlp6 (f_X12_findPins_169) zF v1 v2 v3 v4 v5 I = some r) : zG p l e R s m args below meth c d cy B0 9 bc bs (zQ below s args d cy B0 bc bs (.inl none) zSH zKn bc bs r L) 169 [(0, .ref (B0 + 97)), (1, .int v1), (2, .int v2), (3, .int v3), (4, .int v4), (5, .int v5)] [] zSH zKn bc bs I L :=
 zlp6_e (fun (v1 : Int32) (v2 : Int32) (v3 : Int32) (v4 : Int32) (v5 : Int32) (I : zI) => zG p l e R s m args below meth c d cy B0 9 bc bs (zQ below s args d cy B0 bc bs (.inl none) zSH zKn bc bs r L) 169 [(0, .ref (B0 + 97)), (1, .int v1), (2, .int v2), (3, .int v3), (4, .int v4), (5, .int v5)] [] zSH zKn bc bs I L) (fun k9 hk9 v1 v2 v3 v4 v5 I h => l_X12_findPins_169 C L k9 hk9 v1 v2 v3 v4 v5 I h) zF v1 v2 v3 v4 v5 I h
set_option maxHeartbeats 4000000 in
set_option maxRecDepth 100000 in
theorem l_X12_findPins_11 {r : zI} (C : zC p l e R s m args below meth c s0 a0 d cy B0 yX12_findPins.cls cX12_findPins 9 none bc bs bc bs 3 73 []) (L : zL) (k11 : Int32 → Int32 → Int32 → Int32 → Int32 → zI → Option zI) (hk11 : ∀ (v1 : Int32) (v2 : Int32) (v3 : Int32) (v4 : Int32) (v5 : Int32) (I : zI), k11 v1 v2 v3 v4 v5 I = some r → zG p l e R s m args below meth c d cy B0 9 bc bs (zQ below s args d cy B0 bc bs (.inl none) zSH zKn bc bs r L) 11 [(0, .ref (B0 + 97)), (1, .int v1), (2, .int v2), (3, .int v3), (4, .int v4), (5, .int v5)] [] zSH zKn bc bs I L) (v1 : Int32) (v2 : Int32) (v3 : Int32) (v4 : Int32) (v5 : Int32) (I : zI) (h : f_X12_findPins_11 k11 v1 v2 v3 v4 v5 I = some r) : zG p l e R s m args below meth c d cy B0 9 bc bs (zQ below s args d cy B0 bc bs (.inl none) zSH zKn bc bs r L) 11 [(0, .ref (B0 + 97)), (1, .int v1), (2, .int v2), (3, .int v3), (4, .int v4), (5, .int v5)] [] zSH zKn bc bs I L := by
  unfold f_X12_findPins_11 at h
  refine z_iload C 5 rfl dX12_findPins_11 ?_
  refine z_aload_n C rfl 0 rfl dX12_findPins_13 ?_
  refine z_getr C zc_12 dX12_findPins_14 26 97 115 rfl (by decide) (by decide) q_1195 rfl rfl ?_
  refine z_iload_n C rfl 2 rfl dX12_findPins_17 ?_
  obtain ⟨hb3, h⟩ := zck_e h
  refine z_iaload C dX12_findPins_18 rfl rfl (by decide) (zbd_in hb3) ?_
  refine z_icmp_ge C 166 (by decide) dX12_findPins_19 (fun hc => ?_) (fun hc => ?_)
  · have h := zif_t hc h
    refine z_iconst C (v := 0) (by decide) dX12_findPins_166 ?_
    refine z_istore C (lv' := [(5, .int (0 : Int32)), (0, .ref (B0 + 97)), (1, .int v1), (2, .int v2), (3, .int v3), (4, .int v4)]) (by decide) rfl dX12_findPins_167 ?_
    refine z_lv [1, 2, 3, 4, 5, 0] (lv' := [(0, .ref (B0 + 97)), (1, .int v1), (2, .int v2), (3, .int v3), (4, .int v4), (5, .int (0 : Int32))]) rfl ?_
    exact L_X12_findPins_169 C L v1 v2 v3 v4 (0 : Int32) I h
  · have h := zif_f hc h
    refine z_aload_n C rfl 0 rfl dX12_findPins_22 ?_
    refine z_getr C zc_12 dX12_findPins_23 27 97 116 rfl (by decide) (by decide) q_1196 rfl rfl ?_
    refine z_iconst C (v := 4) (by decide) dX12_findPins_26 ?_
    refine z_iload_n C rfl 2 rfl dX12_findPins_27 ?_
    refine z_imul C dX12_findPins_28 ?_
    refine z_iload C 5 rfl dX12_findPins_29 ?_
    refine z_iadd C dX12_findPins_31 ?_
    obtain ⟨x4, ex4, h⟩ := zlt_e h
    refine z_eqi C ex4 ?_
    obtain ⟨hb5, h⟩ := zck_e h
    refine z_iaload C dX12_findPins_32 rfl rfl (by decide) (zbd_in hb5) ?_
    obtain ⟨x6, ex6, h⟩ := zlt_e h
    refine z_eqi C ex6 ?_
    refine z_istore C (lv' := [(6, .int x6), (0, .ref (B0 + 97)), (1, .int v1), (2, .int v2), (3, .int v3), (4, .int v4), (5, .int v5)]) (by decide) rfl dX12_findPins_33 ?_
    refine z_aload_n C rfl 1 rfl dX12_findPins_35 ?_
    refine z_iload C 0 rfl dX12_findPins_36 ?_
    refine z_iload C 5 rfl dX12_findPins_38 ?_
    refine z_iload_n C rfl 4 rfl dX12_findPins_40 ?_
    obtain ⟨I8, hg7, h⟩ := zb1_e h
    refine z_callV C zc_12 rfl (by decide) dX12_findPins_41 yy_X12_touch (c_X12_touch C.2.2.2.2.1  x6 v4 v3 I L hg7) q_1493 q_1495 q_68 (by decide) (by decide) rfl rfl (Nat.le_of_ble_eq_true rfl) ⟨Nat.le_refl _, Nat.le_refl _, Nat.le_refl _, Nat.le_refl _⟩ ?_
    refine z_iconst C (v := -1) (by decide) dX12_findPins_44 ?_
    refine z_istore C (lv' := [(7, .int (-1 : Int32)), (6, .int x6), (0, .ref (B0 + 97)), (1, .int v1), (2, .int v2), (3, .int v3), (4, .int v4), (5, .int v5)]) (by decide) rfl dX12_findPins_45 ?_
    refine z_aload_n C rfl 2 rfl dX12_findPins_47 ?_
    refine z_getr C zc_12 dX12_findPins_48 33 97 120 rfl (by decide) (by decide) q_1202 rfl rfl ?_
    refine z_aload_n C rfl 2 rfl dX12_findPins_51 ?_
    refine z_getr C zc_12 dX12_findPins_52 20 97 109 rfl (by decide) (by decide) q_1189 rfl rfl ?_
    refine z_iload C 1 rfl dX12_findPins_55 ?_
    obtain ⟨hb9, h⟩ := zck_e h
    refine z_iaload C dX12_findPins_57 rfl rfl (by decide) (zbd_in hb9) ?_
    obtain ⟨x10, ex10, h⟩ := zlt_e h
    refine z_eqi C ex10 ?_
    obtain ⟨hb11, h⟩ := zck_e h
    refine z_iaload C dX12_findPins_58 rfl rfl (by decide) (zbd_in hb11) ?_
    refine z_iconst C (v := 1) (by decide) dX12_findPins_59 ?_
    refine z_isub C dX12_findPins_60 ?_
    obtain ⟨x12, ex12, h⟩ := zlt_e h
    refine z_eqi C ex12 ?_
    refine z_istore C (lv' := [(8, .int x12), (7, .int (-1 : Int32)), (6, .int x6), (0, .ref (B0 + 97)), (1, .int v1), (2, .int v2), (3, .int v3), (4, .int v4), (5, .int v5)]) (by decide) rfl dX12_findPins_61 ?_
    refine z_lv [3, 4, 5, 6, 7, 8, 2, 1, 0] (lv' := [(0, .ref (B0 + 97)), (1, .int v1), (2, .int v2), (3, .int v3), (4, .int v4), (5, .int v5), (6, .int x6), (7, .int (-1 : Int32)), (8, .int x12)]) rfl ?_
    exact L_X12_findPins_63 C L k11 hk11 v1 v2 v3 v4 v5 x6 (-1 : Int32) x12 I8 h
set_option maxHeartbeats 4000000 in
set_option maxRecDepth 100000 in
theorem L_X12_findPins_11 {r : zI} (C : zC p l e R s m args below meth c s0 a0 d cy B0 yX12_findPins.cls cX12_findPins 9 none bc bs bc bs 3 73 []) (L : zL) (v1 : Int32) (v2 : Int32) (v3 : Int32) (v4 : Int32) (v5 : Int32) (I : zI) (h : zlp6 (f_X12_findPins_11) zF v1 v2 v3 v4 v5 I = some r) : zG p l e R s m args below meth c d cy B0 9 bc bs (zQ below s args d cy B0 bc bs (.inl none) zSH zKn bc bs r L) 11 [(0, .ref (B0 + 97)), (1, .int v1), (2, .int v2), (3, .int v3), (4, .int v4), (5, .int v5)] [] zSH zKn bc bs I L :=
 zlp6_e (fun (v1 : Int32) (v2 : Int32) (v3 : Int32) (v4 : Int32) (v5 : Int32) (I : zI) => zG p l e R s m args below meth c d cy B0 9 bc bs (zQ below s args d cy B0 bc bs (.inl none) zSH zKn bc bs r L) 11 [(0, .ref (B0 + 97)), (1, .int v1), (2, .int v2), (3, .int v3), (4, .int v4), (5, .int v5)] [] zSH zKn bc bs I L) (fun k9 hk9 v1 v2 v3 v4 v5 I h => l_X12_findPins_11 C L k9 hk9 v1 v2 v3 v4 v5 I h) zF v1 v2 v3 v4 v5 I h
set_option maxHeartbeats 4000000 in
set_option maxRecDepth 100000 in
theorem c_X12_findPins {r : zI} (hE : zE0 l s0 a0 d cy B0) (a1 : Int32) (a2 : Int32) (a3 : Int32) (I : zI) (L : zL) (h : f_X12_findPins a1 a2 a3 I = some r) : zM l s0 d cy B0 yX12_findPins cX12_findPins 9 none 3 73 [.ref (B0 + 97), .int a1, .int a2, .int a3] zSH zKn bc bs I L (.inl none) zSH zKn bc bs r L := by
  refine z_meth yy_X12_findPins hE (Nat.le_of_ble_eq_true rfl) (fun p e R s m args below meth c C => ?_)
  show zG p l e R s m args below meth c d cy B0 9 bc bs (zQ below s args d cy B0 bc bs (.inl none) zSH zKn bc bs r L) 0 [(0, .ref (B0 + 97)), (1, .int a1), (2, .int a2), (3, .int a3)] [] zSH zKn bc bs I L
  unfold f_X12_findPins at h
  refine z_aload_n C rfl 0 rfl dX12_findPins_0 ?_
  refine z_getr C zc_12 dX12_findPins_1 25 97 114 rfl (by decide) (by decide) q_1194 rfl rfl ?_
  refine z_iload_n C rfl 2 rfl dX12_findPins_4 ?_
  obtain ⟨hb1, h⟩ := zck_e h
  refine z_iaload C dX12_findPins_5 rfl rfl (by decide) (zbd_in hb1) ?_
  obtain ⟨x2, ex2, h⟩ := zlt_e h
  refine z_eqi C ex2 ?_
  refine z_istore C (lv' := [(4, .int x2), (0, .ref (B0 + 97)), (1, .int a1), (2, .int a2), (3, .int a3)]) (by decide) rfl dX12_findPins_6 ?_
  refine z_iconst C (v := 0) (by decide) dX12_findPins_8 ?_
  refine z_istore C (lv' := [(5, .int (0 : Int32)), (4, .int x2), (0, .ref (B0 + 97)), (1, .int a1), (2, .int a2), (3, .int a3)]) (by decide) rfl dX12_findPins_9 ?_
  refine z_lv [2, 3, 4, 5, 1, 0] (lv' := [(0, .ref (B0 + 97)), (1, .int a1), (2, .int a2), (3, .int a3), (4, .int x2), (5, .int (0 : Int32))]) rfl ?_
  exact L_X12_findPins_11 C L a1 a2 a3 x2 (0 : Int32) I h
end Zp05_14_walk
