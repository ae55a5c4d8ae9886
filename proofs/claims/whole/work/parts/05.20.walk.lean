section Zp05_20_walk
variable {p : Program} {l : Launch} {e : Env} {R : Room} {s : State} {m : MethodId} {args : Array Value} {below : List Frame} {meth : Method} {c : Code} {s0 : State} {a0 : Array Value} {d : va_G} {cy : Nat → ClassId} {B0 : Nat} {bc bs : Nat}
theorem q_1225 : (Cond.fieldLink "DeviceFindModel" (116 : Nat) "DeviceFindModel" "touched" "[Z") ∈ lw_tbl := List.mem_of_getElem? (i := 1225) (by decide +kernel)
theorem q_1496 : (Cond.code ({ cls := "DeviceFindModel", name := "touch", desc := "(III)V" } : Jvm.MethodName) prog_14_method_38_code (8 : Nat) (Option.none : Option Jvm.ClassFile.FieldType)) ∈ lw_tbl := List.mem_of_getElem? (i := 1496) (by decide +kernel)
theorem yy_X12_touch : zY yX12_touch cX12_touch 8 none 3 := ⟨q_1496, q_88, by decide +kernel, by decide +kernel, by decide +kernel⟩
noncomputable def f_X12_touch_160 (k48 : Int32 → Int32 → Int32 → Int32 → zI → Option zI) (k109 : Int32 → Int32 → Int32 → Int32 → Int32 → zI → Option zI) (v2 : Int32) (v3 : Int32) (v4 : Int32) (v5 : Int32) (v6 : Int32) (I : zI) : Option zI :=
  zlt (v6 + 1) (fun x26 => k109 v2 v3 v4 v5 x26 I)
noncomputable def f_X12_touch_166 (k48 : Int32 → Int32 → Int32 → Int32 → zI → Option zI) (v2 : Int32) (v3 : Int32) (v4 : Int32) (v5 : Int32) (I : zI) : Option zI :=
  zlt (v5 + 1) (fun x17 => k48 v2 v3 v4 x17 I)
noncomputable def f_X12_touch_109 (k48 : Int32 → Int32 → Int32 → Int32 → zI → Option zI) (k109 : Int32 → Int32 → Int32 → Int32 → Int32 → zI → Option zI) (v2 : Int32) (v3 : Int32) (v4 : Int32) (v5 : Int32) (v6 : Int32) (I : zI) : Option zI :=
  if (4 : Int32) ≤ v6 then (f_X12_touch_166 k48 v2 v3 v4 v5 I) else (zb1 (f_X12_beside v5 v6) (fun x19 => if x19 = (-1 : Int32) then (f_X12_touch_160 k48 k109 v2 v3 v4 v5 v6 I) else (zlt (v4 + x19) (fun x20 => zck (zbd x20 98304) (if (I 119 x20.toNatClampNeg) = (-1 : Int32) then (f_X12_touch_160 k48 k109 v2 v3 v4 v5 v6 I) else (zlt (v4 + x19) (fun x22 => zck (zbd x22 98304) (zck (zbd (I 119 x22.toNatClampNeg) 4096) (zlt (zu I 132 (I 119 x22.toNatClampNeg).toNatClampNeg (vp_nar .boolean (1 : Int32))) (fun I25 => f_X12_touch_160 k48 k109 v2 v3 v4 v5 v6 I25))))))))))
noncomputable def f_X12_touch_106 (k48 : Int32 → Int32 → Int32 → Int32 → zI → Option zI) (v2 : Int32) (v3 : Int32) (v4 : Int32) (v5 : Int32) (I : zI) : Option zI :=
  zlp6 (f_X12_touch_109 k48) zF v2 v3 v4 v5 (0 : Int32) I
noncomputable def f_X12_touch_48 (k48 : Int32 → Int32 → Int32 → Int32 → zI → Option zI) (v2 : Int32) (v3 : Int32) (v4 : Int32) (v5 : Int32) (I : zI) : Option zI :=
  if (4096 : Int32) ≤ v5 then (some I) else (zlt (((4096 : Int32) * v2) + v5) (fun x9 => zck (zbd x9 98304) (if (I 119 x9.toNatClampNeg) = v3 then (zlt (v4 + v5) (fun x11 => zck (zbd x11 98304) (if (I 119 x11.toNatClampNeg) = (-1 : Int32) then (f_X12_touch_106 k48 v2 v3 v4 v5 I) else (zlt (v4 + v5) (fun x13 => zck (zbd x13 98304) (zck (zbd (I 119 x13.toNatClampNeg) 4096) (zlt (zu I 132 (I 119 x13.toNatClampNeg).toNatClampNeg (vp_nar .boolean (1 : Int32))) (fun I16 => f_X12_touch_106 k48 v2 v3 v4 v5 I16)))))))) else (f_X12_touch_166 k48 v2 v3 v4 v5 I))))
noncomputable def f_X12_touch_15 (k15 : Int32 → Int32 → Int32 → Int32 → Int32 → zI → Option zI) (v1 : Int32) (v2 : Int32) (v3 : Int32) (v4 : Int32) (v5 : Int32) (I : zI) : Option zI :=
  zck (zbd v1 16) (zlt (I 109 v1.toNatClampNeg) (fun x4 => zck (zbd x4 24) (if (I 120 x4.toNatClampNeg) ≤ v5 then (zlp5 (f_X12_touch_48) zF v2 v3 v4 (0 : Int32) I) else (zck (zbd v5 4096) (zlt (zu I 132 v5.toNatClampNeg (vp_nar .boolean (0 : Int32))) (fun I7 => zlt (v5 + 1) (fun x8 => k15 v1 v2 v3 v4 x8 I7)))))))
noncomputable def f_X12_touch (a1 : Int32) (a2 : Int32) (a3 : Int32) (I : zI) : Option zI :=
  zck (zbd a1 16) (zlt ((4096 : Int32) * (I 109 a1.toNatClampNeg)) (fun x2 => zlp6 (f_X12_touch_15) zF a1 a2 a3 x2 (0 : Int32) I))
set_option maxHeartbeats 4000000 in
set_option maxRecDepth 100000 in
theorem l_X12_touch_160 {r : zI} (C : zC p l e R s m args below meth c s0 a0 d cy B0 yX12_touch.cls cX12_touch 8 none bc bs bc bs 2 46 []) (L : zL) (k48 : Int32 → Int32 → Int32 → Int32 → zI → Option zI) (hk48 : ∀ (v2 : Int32) (v3 : Int32) (v4 : Int32) (v5 : Int32) (I : zI), k48 v2 v3 v4 v5 I = some r → zG p l e R s m args below meth c d cy B0 8 bc bs (zQ below s args d cy B0 bc bs (.inl none) zSH zKn bc bs r L) 48 [(0, .ref (B0 + 97)), (2, .int v2), (3, .int v3), (4, .int v4), (5, .int v5)] [] zSH zKn bc bs I L) (k109 : Int32 → Int32 → Int32 → Int32 → Int32 → zI → Option zI) (hk109 : ∀ (v2 : Int32) (v3 : Int32) (v4 : Int32) (v5 : Int32) (v6 : Int32) (I : zI), k109 v2 v3 v4 v5 v6 I = some r → zG p l e R s m args below meth c d cy B0 8 bc bs (zQ below s args d cy B0 bc bs (.inl none) zSH zKn bc bs r L) 109 [(0, .ref (B0 + 97)), (2, .int v2), (3, .int v3), (4, .int v4), (5, .int v5), (6, .int v6)] [] zSH zKn bc bs I L) (v2 : Int32) (v3 : Int32) (v4 : Int32) (v5 : Int32) (v6 : Int32) (I : zI) (h : f_X12_touch_160 k48 k109 v2 v3 v4 v5 v6 I = some r) : zG p l e R s m args below meth c d cy B0 8 bc bs (zQ below s args d cy B0 bc bs (.inl none) zSH zKn bc bs r L) 160 [(0, .ref (B0 + 97)), (2, .int v2), (3, .int v3), (4, .int v4), (5, .int v5), (6, .int v6)] [] zSH zKn bc bs I L := by
  unfold f_X12_touch_160 at h
  obtain ⟨x26, ex26, h⟩ := zlt_e h
  refine z_iinc C (j := 5) (v := x26) (lv' := [(6, .int x26), (0, .ref (B0 + 97)), (2, .int v2), (3, .int v3), (4, .int v4), (5, .int v5)]) rfl (by rw [ex26]; rfl) (by decide) rfl dX12_touch_160 ?_
  refine z_goto C 109 (by decide) dX12_touch_163 ?_
  refine z_lv [1, 2, 3, 4, 5, 0] (lv' := [(0, .ref (B0 + 97)), (2, .int v2), (3, .int v3), (4, .int v4), (5, .int v5), (6, .int x26)]) rfl ?_
  exact hk109 v2 v3 v4 v5 x26 I h
set_option maxHeartbeats 4000000 in
set_option maxRecDepth 100000 in
theorem l_X12_touch_166 {r : zI} (C : zC p l e R s m args below meth c s0 a0 d cy B0 yX12_touch.cls cX12_touch 8 none bc bs bc bs 2 46 []) (L : zL) (k48 : Int32 → Int32 → Int32 → Int32 → zI → Option zI) (hk48 : ∀ (v2 : Int32) (v3 : Int32) (v4 : Int32) (v5 : Int32) (I : zI), k48 v2 v3 v4 v5 I = some r → zG p l e R s m args below meth c d cy B0 8 bc bs (zQ below s args d cy B0 bc bs (.inl none) zSH zKn bc bs r L) 48 [(0, .ref (B0 + 97)), (2, .int v2), (3, .int v3), (4, .int v4), (5, .int v5)] [] zSH zKn bc bs I L) (v2 : Int32) (v3 : Int32) (v4 : Int32) (v5 : Int32) (I : zI) (h : f_X12_touch_166 k48 v2 v3 v4 v5 I = some r) : zG p l e R s m args below meth c d cy B0 8 bc bs (zQ below s args d cy B0 bc bs (.inl none) zSH zKn bc bs r L) 166 [(0, .ref (B0 + 97)), (2, .int v2), (3, .int v3), (4, .int v4), (5, .int v5)] [] zSH zKn bc bs I L := by
  unfold f_X12_touch_166 at h
  obtain ⟨x17, ex17, h⟩ := zlt_e h
  refine z_iinc C (j := 4) (v := x17) (lv' := [(5, .int x17), (0, .ref (B0 + 97)), (2, .int v2), (3, .int v3), (4, .int v4)]) rfl (by rw [ex17]; rfl) (by decide) rfl dX12_touch_166 ?_
  refine z_goto C 48 (by decide) dX12_touch_169 ?_
  refine z_lv [1, 2, 3, 4, 0] (lv' := [(0, .ref (B0 + 97)), (2, .int v2), (3, .int v3), (4, .int v4), (5, .int x17)]) rfl ?_
  exact hk48 v2 v3 v4 x17 I h
set_option maxHeartbeats 4000000 in
set_option maxRecDepth 100000 in
theorem l_X12_touch_109 {r : zI} (C : zC p l e R s m args below meth c s0 a0 d cy B0 yX12_touch.cls cX12_touch 8 none bc bs bc bs 2 46 []) (L : zL) (k48 : Int32 → Int32 → Int32 → Int32 → zI → Option zI) (hk48 : ∀ (v2 : Int32) (v3 : Int32) (v4 : Int32) (v5 : Int32) (I : zI), k48 v2 v3 v4 v5 I = some r → zG p l e R s m args below meth c d cy B0 8 bc bs (zQ below s args d cy B0 bc bs (.inl none) zSH zKn bc bs r L) 48 [(0, .ref (B0 + 97)), (2, .int v2), (3, .int v3), (4, .int v4), (5, .int v5)] [] zSH zKn bc bs I L) (k109 : Int32 → Int32 → Int32 → Int32 → Int32 → zI → Option zI) (hk109 : ∀ (v2 : Int32) (v3 : Int32) (v4 : Int32) (v5 : Int32) (v6 : Int32) (I : zI), k109 v2 v3 v4 v5 v6 I = some r → zG p l e R s m args below meth c d cy B0 8 bc bs (zQ below s args d cy B0 bc bs (.inl none) zSH zKn bc bs r L) 109 [(0, .ref (B0 + 97)), (2, .int v2), (3, .int v3), (4, .int v4), (5, .int v5), (6, .int v6)] [] zSH zKn bc bs I L) (v2 : Int32) (v3 : Int32) (v4 : Int32) (v5 : Int32) (v6 : Int32) (I : zI) (h : f_X12_touch_109 k48 k109 v2 v3 v4 v5 v6 I = some r) : zG p l e R s m args below meth c d cy B0 8 bc bs (zQ below s args d cy B0 bc bs (.inl none) zSH zKn bc bs r L) 109 [(0, .ref (B0 + 97)), (2, .int v2), (3, .int v3), (4, .int v4), (5, .int v5), (6, .int v6)] [] zSH zKn bc bs I L := by
  unfold f_X12_touch_109 at h
  refine z_iload C 5 rfl dX12_touch_109 ?_
  refine z_iconst C (v := 4) (by decide) dX12_touch_111 ?_
  refine z_icmp_ge C 166 (by decide) dX12_touch_112 (fun hc => ?_) (fun hc => ?_)
  · have h := zif_t hc h
    refine z_lv [0, 1, 2, 3, 4] (lv' := [(0, .ref (B0 + 97)), (2, .int v2), (3, .int v3), (4, .int v4), (5, .int v5)]) rfl ?_
    exact l_X12_touch_166 C L k48 hk48 v2 v3 v4 v5 I h
  · have h := zif_f hc h
    refine z_iload C 4 rfl dX12_touch_115 ?_
    refine z_iload C 5 rfl dX12_touch_117 ?_
    obtain ⟨x19, hg18, h⟩ := zb1_e h
    refine z_callS C dX12_touch_119 yy_X12_beside (c_X12_beside C.2.2.2.2.1  v5 v6 I L hg18) q_1473 q_1474 (by decide) (by decide) rfl rfl (Nat.le_of_ble_eq_true rfl) ⟨Nat.le_refl _, Nat.le_refl _, Nat.le_refl _, Nat.le_refl _⟩ ?_
    refine z_istore C (lv' := [(7, .int x19), (0, .ref (B0 + 97)), (2, .int v2), (3, .int v3), (4, .int v4), (5, .int v5), (6, .int v6)]) (by decide) rfl dX12_touch_122 ?_
    refine z_iload C 0 rfl dX12_touch_124 ?_
    refine z_iconst C (v := -1) (by decide) dX12_touch_126 ?_
    refine z_icmp_eq C 160 (by decide) dX12_touch_127 (fun hc => ?_) (fun hc => ?_)
    · have h := zif_t hc h
      refine z_lv [1, 2, 3, 4, 5, 6] (lv' := [(0, .ref (B0 + 97)), (2, .int v2), (3, .int v3), (4, .int v4), (5, .int v5), (6, .int v6)]) rfl ?_
      exact l_X12_touch_160 C L k48 hk48 k109 hk109 v2 v3 v4 v5 v6 I h
    · have h := zif_f hc h
      refine z_aload_n C rfl 1 rfl dX12_touch_130 ?_
      refine z_getr C zc_12 dX12_touch_131 32 97 119 rfl (by decide) (by decide) q_1201 rfl rfl ?_
      refine z_iload C 4 rfl dX12_touch_134 ?_
      refine z_iload C 0 rfl dX12_touch_136 ?_
      refine z_iadd C dX12_touch_138 ?_
      obtain ⟨x20, ex20, h⟩ := zlt_e h
      refine z_eqi C ex20 ?_
      obtain ⟨hb21, h⟩ := zck_e h
      refine z_iaload C dX12_touch_139 rfl rfl (by decide) (zbd_in hb21) ?_
      refine z_iconst C (v := -1) (by decide) dX12_touch_140 ?_
      refine z_icmp_eq C 160 (by decide) dX12_touch_141 (fun hc => ?_) (fun hc => ?_)
      · have h := zif_t hc h
        refine z_lv [1, 2, 3, 4, 5, 6] (lv' := [(0, .ref (B0 + 97)), (2, .int v2), (3, .int v3), (4, .int v4), (5, .int v5), (6, .int v6)]) rfl ?_
        exact l_X12_touch_160 C L k48 hk48 k109 hk109 v2 v3 v4 v5 v6 I h
      · have h := zif_f hc h
        refine z_aload_n C rfl 1 rfl dX12_touch_144 ?_
        refine z_getr C zc_12 dX12_touch_145 56 97 132 rfl (by decide) (by decide) q_1225 rfl rfl ?_
        refine z_aload_n C rfl 1 rfl dX12_touch_148 ?_
        refine z_getr C zc_12 dX12_touch_149 32 97 119 rfl (by decide) (by decide) q_1201 rfl rfl ?_
        refine z_iload C 4 rfl dX12_touch_152 ?_
        refine z_iload C 0 rfl dX12_touch_154 ?_
        refine z_iadd C dX12_touch_156 ?_
        obtain ⟨x22, ex22, h⟩ := zlt_e h
        refine z_eqi C ex22 ?_
        obtain ⟨hb23, h⟩ := zck_e h
        refine z_iaload C dX12_touch_157 rfl rfl (by decide) (zbd_in hb23) ?_
        refine z_iconst C (v := 1) (by decide) dX12_touch_158 ?_
        obtain ⟨hb24, h⟩ := zck_e h
        refine z_zastore C dX12_touch_159 rfl rfl (by decide) (zbd_in hb24) ?_
        obtain ⟨I25, eI25, h⟩ := zlt_e h
        refine z_eqI C eI25 ?_
        refine z_lv [1, 2, 3, 4, 5, 6] (lv' := [(0, .ref (B0 + 97)), (2, .int v2), (3, .int v3), (4, .int v4), (5, .int v5), (6, .int v6)]) rfl ?_
        exact l_X12_touch_160 C L k48 hk48 k109 hk109 v2 v3 v4 v5 v6 I25 h
set_option maxHeartbeats 4000000 in
set_option maxRecDepth 100000 in
theorem L_X12_touch_109 {r : zI} (C : zC p l e R s m args below meth c s0 a0 d cy B0 yX12_touch.cls cX12_touch 8 none bc bs bc bs 2 46 []) (L : zL) (k48 : Int32 → Int32 → Int32 → Int32 → zI → Option zI) (hk48 : ∀ (v2 : Int32) (v3 : Int32) (v4 : Int32) (v5 : Int32) (I : zI), k48 v2 v3 v4 v5 I = some r → zG p l e R s m args below meth c d cy B0 8 bc bs (zQ below s args d cy B0 bc bs (.inl none) zSH zKn bc bs r L) 48 [(0, .ref (B0 + 97)), (2, .int v2), (3, .int v3), (4, .int v4), (5, .int v5)] [] zSH zKn bc bs I L) (v2 : Int32) (v3 : Int32) (v4 : Int32) (v5 : Int32) (v6 : Int32) (I : zI) (h : zlp6 (f_X12_touch_109 k48) zF v2 v3 v4 v5 v6 I = some r) : zG p l e R s m args below meth c d cy B0 8 bc bs (zQ below s args d cy B0 bc bs (.inl none) zSH zKn bc bs r L) 109 [(0, .ref (B0 + 97)), (2, .int v2), (3, .int v3), (4, .int v4), (5, .int v5), (6, .int v6)] [] zSH zKn bc bs I L :=
 zlp6_e (fun (v2 : Int32) (v3 : Int32) (v4 : Int32) (v5 : Int32) (v6 : Int32) (I : zI) => zG p l e R s m args below meth c d cy B0 8 bc bs (zQ below s args d cy B0 bc bs (.inl none) zSH zKn bc bs r L) 109 [(0, .ref (B0 + 97)), (2, .int v2), (3, .int v3), (4, .int v4), (5, .int v5), (6, .int v6)] [] zSH zKn bc bs I L) (fun k9 hk9 v2 v3 v4 v5 v6 I h => l_X12_touch_109 C L k48 hk48 k9 hk9 v2 v3 v4 v5 v6 I h) zF v2 v3 v4 v5 v6 I h
set_option maxHeartbeats 4000000 in
set_option maxRecDepth 100000 in
theorem l_X12_touch_106 {r : zI} (C : zC p l e R s m args below meth c s0 a0 d cy B0 yX12_touch.cls cX12_touch 8 none bc bs bc bs 2 46 []) (L : zL) (k48 : Int32 → Int32 → Int32 → Int32 → zI → Option zI) (hk48 : ∀ (v2 : Int32) (v3 : Int32) (v4 : Int32) (v5 : Int32) (I : zI), k48 v2 v3 v4 v5 I = some r → zG p l e R s m args below meth c d cy B0 8 bc bs (zQ below s args d cy B0 bc bs (.inl none) zSH zKn bc bs r L) 48 [(0, .ref (B0 + 97)), (2, .int v2), (3, .int v3), (4, .int v4), (5, .int v5)] [] zSH zKn bc bs I L) (v2 : Int32) (v3 : Int32) (v4 : Int32) (v5 : Int32) (I : zI) (h : f_X12_touch_106 k48 v2 v3 v4 v5 I = some r) : zG p l e R s m args below meth c d cy B0 8 bc bs (zQ below s args d cy B0 bc bs (.inl none) zSH zKn bc bs r L) 106 [(0, .ref (B0 + 97)), (2, .int v2), (3, .int v3), (4, .int v4), (5, .int v5)] [] zSH zKn bc bs I L := by
  unfold f_X12_touch_106 at h
  refine z_iconst C (v := 0) (by decide) dX12_touch_106 ?_
  refine z_istore C (lv' := [(6, .int (0 : Int32)), (0, .ref (B0 + 97)), (2, .int v2), (3, .int v3), (4, .int v4), (5, .int v5)]) (by decide) rfl dX12_touch_107 ?_
  refine z_lv [1, 2, 3, 4, 5, 0] (lv' := [(0, .ref (B0 + 97)), (2, .int v2), (3, .int v3), (4, .int v4), (5, .int v5), (6, .int (0 : Int32))]) rfl ?_
  exact L_X12_touch_109 C L k48 hk48 v2 v3 v4 v5 (0 : Int32) I h
set_option maxHeartbeats 4000000 in
set_option maxRecDepth 100000 in
theorem l_X12_touch_48 {r : zI} (C : zC p l e R s m args below meth c s0 a0 d cy B0 yX12_touch.cls cX12_touch 8 none bc bs bc bs 2 46 []) (L : zL) (k48 : Int32 → Int32 → Int32 → Int32 → zI → Option zI) (hk48 : ∀ (v2 : Int32) (v3 : Int32) (v4 : Int32) (v5 : Int32) (I : zI), k48 v2 v3 v4 v5 I = some r → zG p l e R s m args below meth c d cy B0 8 bc bs (zQ below s args d cy B0 bc bs (.inl none) zSH zKn bc bs r L) 48 [(0, .ref (B0 + 97)), (2, .int v2), (3, .int v3), (4, .int v4), (5, .int v5)] [] zSH zKn bc bs I L) (v2 : Int32) (v3 : Int32) (v4 : Int32) (v5 : Int32) (I : zI) (h : f_X12_touch_48 k48 v2 v3 v4 v5 I = some r) : zG p l e R s m args below meth c d cy B0 8 bc bs (zQ below s args d cy B0 bc bs (.inl none) zSH zKn bc bs r L) 48 [(0, .ref (B0 + 97)), (2, .int v2), (3, .int v3), (4, .int v4), (5, .int v5)] [] zSH zKn bc bs I L := by
  unfold f_X12_touch_48 at h
  refine z_iload C 4 rfl dX12_touch_48 ?_
  refine z_sipush C (v := 4096) (by decide) dX12_touch_50 ?_
  refine z_icmp_ge C 172 (by decide) dX12_touch_53 (fun hc => ?_) (fun hc => ?_)
  · have h := zif_t hc h
    obtain rfl := Option.some.inj h
    exact z_vret C dX12_touch_172 rfl rfl
  · have h := zif_f hc h
    refine z_aload_n C rfl 0 rfl dX12_touch_56 ?_
    refine z_getr C zc_12 dX12_touch_57 32 97 119 rfl (by decide) (by decide) q_1201 rfl rfl ?_
    refine z_sipush C (v := 4096) (by decide) dX12_touch_60 ?_
    refine z_iload_n C rfl 1 rfl dX12_touch_63 ?_
    refine z_imul C dX12_touch_64 ?_
    refine z_iload C 4 rfl dX12_touch_65 ?_
    refine z_iadd C dX12_touch_67 ?_
    obtain ⟨x9, ex9, h⟩ := zlt_e h
    refine z_eqi C ex9 ?_
    obtain ⟨hb10, h⟩ := zck_e h
    refine z_iaload C dX12_touch_68 rfl rfl (by decide) (zbd_in hb10) ?_
    refine z_iload_n C rfl 2 rfl dX12_touch_69 ?_
    refine z_icmp_eq C 76 (by decide) dX12_touch_70 (fun hc => ?_) (fun hc => ?_)
    · have h := zif_t hc h
      refine z_aload_n C rfl 0 rfl dX12_touch_76 ?_
      refine z_getr C zc_12 dX12_touch_77 32 97 119 rfl (by decide) (by decide) q_1201 rfl rfl ?_
      refine z_iload C 3 rfl dX12_touch_80 ?_
      refine z_iload C 4 rfl dX12_touch_82 ?_
      refine z_iadd C dX12_touch_84 ?_
      obtain ⟨x11, ex11, h⟩ := zlt_e h
      refine z_eqi C ex11 ?_
      obtain ⟨hb12, h⟩ := zck_e h
      refine z_iaload C dX12_touch_85 rfl rfl (by decide) (zbd_in hb12) ?_
      refine z_iconst C (v := -1) (by decide) dX12_touch_86 ?_
      refine z_icmp_eq C 106 (by decide) dX12_touch_87 (fun hc => ?_) (fun hc => ?_)
      · have h := zif_t hc h
        exact l_X12_touch_106 C L k48 hk48 v2 v3 v4 v5 I h
      · have h := zif_f hc h
        refine z_aload_n C rfl 0 rfl dX12_touch_90 ?_
        refine z_getr C zc_12 dX12_touch_91 56 97 132 rfl (by decide) (by decide) q_1225 rfl rfl ?_
        refine z_aload_n C rfl 0 rfl dX12_touch_94 ?_
        refine z_getr C zc_12 dX12_touch_95 32 97 119 rfl (by decide) (by decide) q_1201 rfl rfl ?_
        refine z_iload C 3 rfl dX12_touch_98 ?_
        refine z_iload C 4 rfl dX12_touch_100 ?_
        refine z_iadd C dX12_touch_102 ?_
        obtain ⟨x13, ex13, h⟩ := zlt_e h
        refine z_eqi C ex13 ?_
        obtain ⟨hb14, h⟩ := zck_e h
        refine z_iaload C dX12_touch_103 rfl rfl (by decide) (zbd_in hb14) ?_
        refine z_iconst C (v := 1) (by decide) dX12_touch_104 ?_
        obtain ⟨hb15, h⟩ := zck_e h
        refine z_zastore C dX12_touch_105 rfl rfl (by decide) (zbd_in hb15) ?_
        obtain ⟨I16, eI16, h⟩ := zlt_e h
        refine z_eqI C eI16 ?_
        exact l_X12_touch_106 C L k48 hk48 v2 v3 v4 v5 I16 h
    · have h := zif_f hc h
      refine z_goto C 166 (by decide) dX12_touch_73 ?_
      exact l_X12_touch_166 C L k48 hk48 v2 v3 v4 v5 I h
set_option maxHeartbeats 4000000 in
set_option maxRecDepth 100000 in
theorem L_X12_touch_48 {r : zI} (C : zC p l e R s m args below meth c s0 a0 d cy B0 yX12_touch.cls cX12_touch 8 none bc bs bc bs 2 46 []) (L : zL) (v2 : Int32) (v3 : Int32) (v4 : Int32) (v5 : Int32) (I : zI) (h : zlp5 (f_X12_touch_48) zF v2 v3 v4 v5 I = some r) : zG p l e R s m args below meth c d cy B0 8 bc bs (zQ below s args d cy B0 bc bs (.inl none) zSH zKn bc bs r L) 48 [(0, .ref (B0 + 97)), (2, .int v2), (3, .int v3), (4, .int v4), (5, .int v5)] [] zSH zKn bc bs I L :=
 zlp5_e (fun (v2 : Int32) (v3 : Int32) (v4 : Int32) (v5 : Int32) (I : zI) => zG p l e R s m args below meth c d cy B0 8 bc bs (zQ below s args d cy B0 bc bs (.inl none) zSH zKn bc bs r L) 48 [(0, .ref (B0 + 97)), (2, .int v2), (3, .int v3), (4, .int v4), (5, .int v5)] [] zSH zKn bc bs I L) (fun k9 hk9 v2 v3 v4 v5 I h => l_X12_touch_48 C L k9 hk9 v2 v3 v4 v5 I h) zF v2 v3 v4 v5 I h
set_option maxHeartbeats 4000000 in
set_option maxRecDepth 100000 in
theorem l_X12_touch_15 {r : zI} (C : zC p l e R s m args below meth c s0 a0 d cy B0 yX12_touch.cls cX12_touch 8 none bc bs bc bs 2 46 []) (L : zL) (k15 : Int32 → Int32 → Int32 → Int32 → Int32 → zI → Option zI) (hk15 : ∀ (v1 : Int32) (v2 : Int32) (v3 : Int32) (v4 : Int32) (v5 : Int32) (I : zI), k15 v1 v2 v3 v4 v5 I = some r → zG p l e R s m args below meth c d cy B0 8 bc bs (zQ below s args d cy B0 bc bs (.inl none) zSH zKn bc bs r L) 15 [(0, .ref (B0 + 97)), (1, .int v1), (2, .int v2), (3, .int v3), (4, .int v4), (5, .int v5)] [] zSH zKn bc bs I L) (v1 : Int32) (v2 : Int32) (v3 : Int32) (v4 : Int32) (v5 : Int32) (I : zI) (h : f_X12_touch_15 k15 v1 v2 v3 v4 v5 I = some r) : zG p l e R s m args below meth c d cy B0 8 bc bs (zQ below s args d cy B0 bc bs (.inl none) zSH zKn bc bs r L) 15 [(0, .ref (B0 + 97)), (1, .int v1), (2, .int v2), (3, .int v3), (4, .int v4), (5, .int v5)] [] zSH zKn bc bs I L := by
  unfold f_X12_touch_15 at h
  refine z_iload C 5 rfl dX12_touch_15 ?_
  refine z_aload_n C rfl 0 rfl dX12_touch_17 ?_
  refine z_getr C zc_12 dX12_touch_18 33 97 120 rfl (by decide) (by decide) q_1202 rfl rfl ?_
  refine z_aload_n C rfl 0 rfl dX12_touch_21 ?_
  refine z_getr C zc_12 dX12_touch_22 20 97 109 rfl (by decide) (by decide) q_1189 rfl rfl ?_
  refine z_iload_n C rfl 1 rfl dX12_touch_25 ?_
  obtain ⟨hb3, h⟩ := zck_e h
  refine z_iaload C dX12_touch_26 rfl rfl (by decide) (zbd_in hb3) ?_
  obtain ⟨x4, ex4, h⟩ := zlt_e h
  refine z_eqi C ex4 ?_
  obtain ⟨hb5, h⟩ := zck_e h
  refine z_iaload C dX12_touch_27 rfl rfl (by decide) (zbd_in hb5) ?_
  refine z_icmp_ge C 45 (by decide) dX12_touch_28 (fun hc => ?_) (fun hc => ?_)
  · have h := zif_t hc h
    refine z_iconst C (v := 0) (by decide) dX12_touch_45 ?_
    refine z_istore C (lv' := [(5, .int (0 : Int32)), (0, .ref (B0 + 97)), (1, .int v1), (2, .int v2), (3, .int v3), (4, .int v4)]) (by decide) rfl dX12_touch_46 ?_
    refine z_lv [1, 3, 4, 5, 0] (lv' := [(0, .ref (B0 + 97)), (2, .int v2), (3, .int v3), (4, .int v4), (5, .int (0 : Int32))]) rfl ?_
    exact L_X12_touch_48 C L v2 v3 v4 (0 : Int32) I h
  · have h := zif_f hc h
    refine z_aload_n C rfl 0 rfl dX12_touch_31 ?_
    refine z_getr C zc_12 dX12_touch_32 56 97 132 rfl (by decide) (by decide) q_1225 rfl rfl ?_
    refine z_iload C 5 rfl dX12_touch_35 ?_
    refine z_iconst C (v := 0) (by decide) dX12_touch_37 ?_
    obtain ⟨hb6, h⟩ := zck_e h
    refine z_zastore C dX12_touch_38 rfl rfl (by decide) (zbd_in hb6) ?_
    obtain ⟨I7, eI7, h⟩ := zlt_e h
    refine z_eqI C eI7 ?_
    obtain ⟨x8, ex8, h⟩ := zlt_e h
    refine z_iinc C (j := 5) (v := x8) (lv' := [(5, .int x8), (0, .ref (B0 + 97)), (1, .int v1), (2, .int v2), (3, .int v3), (4, .int v4)]) rfl (by rw [ex8]; rfl) (by decide) rfl dX12_touch_39 ?_
    refine z_goto C 15 (by decide) dX12_touch_42 ?_
    refine z_lv [1, 2, 3, 4, 5, 0] (lv' := [(0, .ref (B0 + 97)), (1, .int v1), (2, .int v2), (3, .int v3), (4, .int v4), (5, .int x8)]) rfl ?_
    exact hk15 v1 v2 v3 v4 x8 I7 h
set_option maxHeartbeats 4000000 in
set_option maxRecDepth 100000 in
theorem L_X12_touch_15 {r : zI} (C : zC p l e R s m args below meth c s0 a0 d cy B0 yX12_touch.cls cX12_touch 8 none bc bs bc bs 2 46 []) (L : zL) (v1 : Int32) (v2 : Int32) (v3 : Int32) (v4 : Int32) (v5 : Int32) (I : zI) (h : zlp6 (f_X12_touch_15) zF v1 v2 v3 v4 v5 I = some r) : zG p l e R s m args below meth c d cy B0 8 bc bs (zQ below s args d cy B0 bc bs (.inl none) zSH zKn bc bs r L) 15 [(0, .ref (B0 + 97)), (1, .int v1), (2, .int v2), (3, .int v3), (4, .int v4), (5, .int v5)] [] zSH zKn bc bs I L :=
 zlp6_e (fun (v1 : Int32) (v2 : Int32) (v3 : Int32) (v4 : Int32) (v5 : Int32) (I : zI) => zG p l e R s m args below meth c d cy B0 8 bc bs (zQ below s args d cy B0 bc bs (.inl none) zSH zKn bc bs r L) 15 [(0, .ref (B0 + 97)), (1, .int v1), (2, .int v2), (3, .int v3), (4, .int v4), (5, .int v5)] [] zSH zKn bc bs I L) (fun k9 hk9 v1 v2 v3 v4 v5 I h => l_X12_touch_15 C L k9 hk9 v1 v2 v3 v4 v5 I h) zF v1 v2 v3 v4 v5 I h
set_option maxHeartbeats 4000000 in
set_option maxRecDepth 100000 in
theorem c_X12_touch {r : zI} (hE : zE0 l s0 a0 d cy B0) (a1 : Int32) (a2 : Int32) (a3 : Int32) (I : zI) (L : zL) (h : f_X12_touch a1 a2 a3 I = some r) : zM l s0 d cy B0 yX12_touch cX12_touch 8 none 2 46 [.ref (B0 + 97), .int a1, .int a2, .int a3] zSH zKn bc bs I L (.inl none) zSH zKn bc bs r L := by
  refine z_meth yy_X12_touch hE (Nat.le_of_ble_eq_true rfl) (fun p e R s m args below meth c C => ?_)
  show zG p l e R s m args below meth c d cy B0 8 bc bs (zQ below s args d cy B0 bc bs (.inl none) zSH zKn bc bs r L) 0 [(0, .ref (B0 + 97)), (1, .int a1), (2, .int a2), (3, .int a3)] [] zSH zKn bc bs I L
  unfold f_X12_touch at h
  refine z_sipush C (v := 4096) (by decide) dX12_touch_0 ?_
  refine z_aload_n C rfl 0 rfl dX12_touch_3 ?_
  refine z_getr C zc_12 dX12_touch_4 20 97 109 rfl (by decide) (by decide) q_1189 rfl rfl ?_
  refine z_iload_n C rfl 1 rfl dX12_touch_7 ?_
  obtain ⟨hb1, h⟩ := zck_e h
  refine z_iaload C dX12_touch_8 rfl rfl (by decide) (zbd_in hb1) ?_
  refine z_imul C dX12_touch_9 ?_
  obtain ⟨x2, ex2, h⟩ := zlt_e h
  refine z_eqi C ex2 ?_
  refine z_istore C (lv' := [(4, .int x2), (0, .ref (B0 + 97)), (1, .int a1), (2, .int a2), (3, .int a3)]) (by decide) rfl dX12_touch_10 ?_
  refine z_iconst C (v := 0) (by decide) dX12_touch_12 ?_
  refine z_istore C (lv' := [(5, .int (0 : Int32)), (4, .int x2), (0, .ref (B0 + 97)), (1, .int a1), (2, .int a2), (3, .int a3)]) (by decide) rfl dX12_touch_13 ?_
  refine z_lv [2, 3, 4, 5, 1, 0] (lv' := [(0, .ref (B0 + 97)), (1, .int a1), (2, .int a2), (3, .int a3), (4, .int x2), (5, .int (0 : Int32))]) rfl ?_
  exact L_X12_touch_15 C L a1 a2 a3 x2 (0 : Int32) I h
theorem q_1213 : (Cond.fieldLink "DeviceFindModel" (104 : Nat) "DeviceFindModel" "pins" "[I") ∈ lw_tbl := List.mem_of_getElem? (i := 1213) (by decide +kernel)
theorem q_1500 : (Cond.code ({ cls := "DeviceFindModel", name := "isHad", desc := "(III)Z" } : Jvm.MethodName) prog_14_method_39_code (6 : Nat) (Option.some Jvm.ClassFile.FieldType.boolean)) ∈ lw_tbl := List.mem_of_getElem? (i := 1500) (by decide +kernel)
theorem yy_X12_isHad : zY yX12_isHad cX12_isHad 6 (some .boolean) 3 := ⟨q_1500, q_88, by decide +kernel, by decide +kernel, by decide +kernel⟩
noncomputable def f_X12_isHad_37 (k6 : Int32 → Int32 → Int32 → Int32 → Int32 → zI → Option Int32) (v1 : Int32) (v2 : Int32) (v3 : Int32) (v5 : Int32) (w0 : Int32) (I : zI) : Option Int32 :=
  zlt (v5 + 1) (fun x4 => k6 v1 v2 v3 w0 x4 I)
noncomputable def f_X12_isHad_32 (k6 : Int32 → Int32 → Int32 → Int32 → Int32 → zI → Option Int32) (v1 : Int32) (v2 : Int32) (v3 : Int32) (v5 : Int32) (I : zI) : Option Int32 :=
  f_X12_isHad_37 k6 v1 v2 v3 v5 (1 : Int32) I
noncomputable def f_X12_isHad_6 (k6 : Int32 → Int32 → Int32 → Int32 → Int32 → zI → Option Int32) (v1 : Int32) (v2 : Int32) (v3 : Int32) (v4 : Int32) (v5 : Int32) (I : zI) : Option Int32 :=
  if v2 ≤ v5 then (zck (zbo v4) (some v4)) else (if v4 = 0 then (zlt (((4 : Int32) * v1) + v5) (fun x2 => zck (zbd x2 1200) (if (I 128 x2.toNatClampNeg) = v3 then (f_X12_isHad_32 k6 v1 v2 v3 v5 I) else (f_X12_isHad_37 k6 v1 v2 v3 v5 (0 : Int32) I)))) else (f_X12_isHad_32 k6 v1 v2 v3 v5 I))
noncomputable def f_X12_isHad (a1 : Int32) (a2 : Int32) (a3 : Int32) (I : zI) : Option Int32 :=
  zlp6 (f_X12_isHad_6) zF a1 a2 a3 (0 : Int32) (0 : Int32) I
set_option maxHeartbeats 4000000 in
set_option maxRecDepth 100000 in
theorem l_X12_isHad_37 {r : Int32} (C : zC p l e R s m args below meth c s0 a0 d cy B0 yX12_isHad.cls cX12_isHad 6 (some .boolean) bc bs bc bs 0 0 []) (L : zL) (k6 : Int32 → Int32 → Int32 → Int32 → Int32 → zI → Option Int32) (hk6 : ∀ (v1 : Int32) (v2 : Int32) (v3 : Int32) (v4 : Int32) (v5 : Int32) (I : zI), k6 v1 v2 v3 v4 v5 I = some r → zG p l e R s m args below meth c d cy B0 6 bc bs (zQ below s args d cy B0 bc bs (.inl (some (.int r))) zSH zKn bc bs I L) 6 [(0, .ref (B0 + 97)), (1, .int v1), (2, .int v2), (3, .int v3), (4, .int v4), (5, .int v5)] [] zSH zKn bc bs I L) (v1 : Int32) (v2 : Int32) (v3 : Int32) (v5 : Int32) (w0 : Int32) (I : zI) (h : f_X12_isHad_37 k6 v1 v2 v3 v5 w0 I = some r) : zG p l e R s m args below meth c d cy B0 6 bc bs (zQ below s args d cy B0 bc bs (.inl (some (.int r))) zSH zKn bc bs I L) 37 [(0, .ref (B0 + 97)), (1, .int v1), (2, .int v2), (3, .int v3), (5, .int v5)] [.int w0] zSH zKn bc bs I L := by
  unfold f_X12_isHad_37 at h
  refine z_istore C (lv' := [(4, .int w0), (0, .ref (B0 + 97)), (1, .int v1), (2, .int v2), (3, .int v3), (5, .int v5)]) (by decide) rfl dX12_isHad_37 ?_
  obtain ⟨x4, ex4, h⟩ := zlt_e h
  refine z_iinc C (j := 5) (v := x4) (lv' := [(5, .int x4), (4, .int w0), (0, .ref (B0 + 97)), (1, .int v1), (2, .int v2), (3, .int v3)]) rfl (by rw [ex4]; rfl) (by decide) rfl dX12_isHad_39 ?_
  refine z_goto C 6 (by decide) dX12_isHad_42 ?_
  refine z_lv [2, 3, 4, 5, 1, 0] (lv' := [(0, .ref (B0 + 97)), (1, .int v1), (2, .int v2), (3, .int v3), (4, .int w0), (5, .int x4)]) rfl ?_
  exact hk6 v1 v2 v3 w0 x4 I h
set_option maxHeartbeats 4000000 in
set_option maxRecDepth 100000 in
theorem l_X12_isHad_32 {r : Int32} (C : zC p l e R s m args below meth c s0 a0 d cy B0 yX12_isHad.cls cX12_isHad 6 (some .boolean) bc bs bc bs 0 0 []) (L : zL) (k6 : Int32 → Int32 → Int32 → Int32 → Int32 → zI → Option Int32) (hk6 : ∀ (v1 : Int32) (v2 : Int32) (v3 : Int32) (v4 : Int32) (v5 : Int32) (I : zI), k6 v1 v2 v3 v4 v5 I = some r → zG p l e R s m args below meth c d cy B0 6 bc bs (zQ below s args d cy B0 bc bs (.inl (some (.int r))) zSH zKn bc bs I L) 6 [(0, .ref (B0 + 97)), (1, .int v1), (2, .int v2), (3, .int v3), (4, .int v4), (5, .int v5)] [] zSH zKn bc bs I L) (v1 : Int32) (v2 : Int32) (v3 : Int32) (v5 : Int32) (I : zI) (h : f_X12_isHad_32 k6 v1 v2 v3 v5 I = some r) : zG p l e R s m args below meth c d cy B0 6 bc bs (zQ below s args d cy B0 bc bs (.inl (some (.int r))) zSH zKn bc bs I L) 32 [(0, .ref (B0 + 97)), (1, .int v1), (2, .int v2), (3, .int v3), (5, .int v5)] [] zSH zKn bc bs I L := by
  unfold f_X12_isHad_32 at h
  refine z_iconst C (v := 1) (by decide) dX12_isHad_32 ?_
  refine z_goto C 37 (by decide) dX12_isHad_33 ?_
  exact l_X12_isHad_37 C L k6 hk6 v1 v2 v3 v5 (1 : Int32) I h
set_option maxHeartbeats 4000000 in
set_option maxRecDepth 100000 in
theorem l_X12_isHad_6 {r : Int32} (C : zC p l e R s m args below meth c s0 a0 d cy B0 yX12_isHad.cls cX12_isHad 6 (some .boolean) bc bs bc bs 0 0 []) (L : zL) (k6 : Int32 → Int32 → Int32 → Int32 → Int32 → zI → Option Int32) (hk6 : ∀ (v1 : Int32) (v2 : Int32) (v3 : Int32) (v4 : Int32) (v5 : Int32) (I : zI), k6 v1 v2 v3 v4 v5 I = some r → zG p l e R s m args below meth c d cy B0 6 bc bs (zQ below s args d cy B0 bc bs (.inl (some (.int r))) zSH zKn bc bs I L) 6 [(0, .ref (B0 + 97)), (1, .int v1), (2, .int v2), (3, .int v3), (4, .int v4), (5, .int v5)] [] zSH zKn bc bs I L) (v1 : Int32) (v2 : Int32) (v3 : Int32) (v4 : Int32) (v5 : Int32) (I : zI) (h : f_X12_isHad_6 k6 v1 v2 v3 v4 v5 I = some r) : zG p l e R s m args below meth c d cy B0 6 bc bs (zQ below s args d cy B0 bc bs (.inl (some (.int r))) zSH zKn bc bs I L) 6 [(0, .ref (B0 + 97)), (1, .int v1), (2, .int v2), (3, .int v3), (4, .int v4), (5, .int v5)] [] zSH zKn bc bs I L := by
  unfold f_X12_isHad_6 at h
  refine z_iload C 5 rfl dX12_isHad_6 ?_
  refine z_iload_n C rfl 2 rfl dX12_isHad_8 ?_
  refine z_icmp_ge C 45 (by decide) dX12_isHad_9 (fun hc => ?_) (fun hc => ?_)
  · have h := zif_t hc h
    refine z_iload C 4 rfl dX12_isHad_45 ?_
    obtain ⟨hb1, h⟩ := zck_e h
    obtain rfl := Option.some.inj h
    exact z_iret C dX12_isHad_47 .boolean rfl (zbo_n hb1).1 rfl
  · have h := zif_f hc h
    refine z_iload C 4 rfl dX12_isHad_12 ?_
    refine z_if_ne C 32 (by decide) dX12_isHad_14 (fun hc => ?_) (fun hc => ?_)
    · have h := zif_f hc h
      refine z_lv [0, 1, 2, 3, 5] (lv' := [(0, .ref (B0 + 97)), (1, .int v1), (2, .int v2), (3, .int v3), (5, .int v5)]) rfl ?_
      exact l_X12_isHad_32 C L k6 hk6 v1 v2 v3 v5 I h
    · have h := zif_t hc h
      refine z_aload_n C rfl 0 rfl dX12_isHad_17 ?_
      refine z_getr C zc_12 dX12_isHad_18 44 97 128 rfl (by decide) (by decide) q_1213 rfl rfl ?_
      refine z_iconst C (v := 4) (by decide) dX12_isHad_21 ?_
      refine z_iload_n C rfl 1 rfl dX12_isHad_22 ?_
      refine z_imul C dX12_isHad_23 ?_
      refine z_iload C 5 rfl dX12_isHad_24 ?_
      refine z_iadd C dX12_isHad_26 ?_
      obtain ⟨x2, ex2, h⟩ := zlt_e h
      refine z_eqi C ex2 ?_
      obtain ⟨hb3, h⟩ := zck_e h
      refine z_iaload C dX12_isHad_27 rfl rfl (by decide) (zbd_in hb3) ?_
      refine z_iload_n C rfl 3 rfl dX12_isHad_28 ?_
      refine z_icmp_ne C 36 (by decide) dX12_isHad_29 (fun hc => ?_) (fun hc => ?_)
      · have h := zif_f hc h
        refine z_iconst C (v := 0) (by decide) dX12_isHad_36 ?_
        refine z_lv [0, 1, 2, 3, 5] (lv' := [(0, .ref (B0 + 97)), (1, .int v1), (2, .int v2), (3, .int v3), (5, .int v5)]) rfl ?_
        exact l_X12_isHad_37 C L k6 hk6 v1 v2 v3 v5 (0 : Int32) I h
      · have h := zif_t hc h
        refine z_lv [0, 1, 2, 3, 5] (lv' := [(0, .ref (B0 + 97)), (1, .int v1), (2, .int v2), (3, .int v3), (5, .int v5)]) rfl ?_
        exact l_X12_isHad_32 C L k6 hk6 v1 v2 v3 v5 I h
set_option maxHeartbeats 4000000 in
set_option maxRecDepth 100000 in
theorem L_X12_isHad_6 {r : Int32} (C : zC p l e R s m args below meth c s0 a0 d cy B0 yX12_isHad.cls cX12_isHad 6 (some .boolean) bc bs bc bs 0 0 []) (L : zL) (v1 : Int32) (v2 : Int32) (v3 : Int32) (v4 : Int32) (v5 : Int32) (I : zI) (h : zlp6 (f_X12_isHad_6) zF v1 v2 v3 v4 v5 I = some r) : zG p l e R s m args below meth c d cy B0 6 bc bs (zQ below s args d cy B0 bc bs (.inl (some (.int r))) zSH zKn bc bs I L) 6 [(0, .ref (B0 + 97)), (1, .int v1), (2, .int v2), (3, .int v3), (4, .int v4), (5, .int v5)] [] zSH zKn bc bs I L :=
 zlp6_e (fun (v1 : Int32) (v2 : Int32) (v3 : Int32) (v4 : Int32) (v5 : Int32) (I : zI) => zG p l e R s m args below meth c d cy B0 6 bc bs (zQ below s args d cy B0 bc bs (.inl (some (.int r))) zSH zKn bc bs I L) 6 [(0, .ref (B0 + 97)), (1, .int v1), (2, .int v2), (3, .int v3), (4, .int v4), (5, .int v5)] [] zSH zKn bc bs I L) (fun k9 hk9 v1 v2 v3 v4 v5 I h => l_X12_isHad_6 C L k9 hk9 v1 v2 v3 v4 v5 I h) zF v1 v2 v3 v4 v5 I h
set_option maxHeartbeats 4000000 in
set_option maxRecDepth 100000 in
theorem c_X12_isHad {r : Int32} (hE : zE0 l s0 a0 d cy B0) (a1 : Int32) (a2 : Int32) (a3 : Int32) (I : zI) (L : zL) (h : f_X12_isHad a1 a2 a3 I = some r) : zM l s0 d cy B0 yX12_isHad cX12_isHad 6 (some .boolean) 0 0 [.ref (B0 + 97), .int a1, .int a2, .int a3] zSH zKn bc bs I L (.inl (some (.int r))) zSH zKn bc bs I L := by
  refine z_meth yy_X12_isHad hE (Nat.le_of_ble_eq_true rfl) (fun p e R s m args below meth c C => ?_)
  show zG p l e R s m args below meth c d cy B0 6 bc bs (zQ below s args d cy B0 bc bs (.inl (some (.int r))) zSH zKn bc bs I L) 0 [(0, .ref (B0 + 97)), (1, .int a1), (2, .int a2), (3, .int a3)] [] zSH zKn bc bs I L
  unfold f_X12_isHad at h
  refine z_iconst C (v := 0) (by decide) dX12_isHad_0 ?_
  refine z_istore C (lv' := [(4, .int (0 : Int32)), (0, .ref (B0 + 97)), (1, .int a1), (2, .int a2), (3, .int a3)]) (by decide) rfl dX12_isHad_1 ?_
  refine z_iconst C (v := 0) (by decide) dX12_isHad_3 ?_
  refine z_istore C (lv' := [(5, .int (0 : Int32)), (4, .int (0 : Int32)), (0, .ref (B0 + 97)), (1, .int a1), (2, .int a2), (3, .int a3)]) (by decide) rfl dX12_isHad_4 ?_
  refine z_lv [2, 3, 4, 5, 1, 0] (lv' := [(0, .ref (B0 + 97)), (1, .int a1), (2, .int a2), (3, .int a3), (4, .int (0 : Int32)), (5, .int (0 : Int32))]) rfl ?_
  exact L_X12_isHad_6 C L a1 a2 a3 (0 : Int32) (0 : Int32) I h
theorem q_68 : Cond.selects "DeviceFindModel" ⟨"DeviceFindModel", "touch", "(III)V"⟩ ⟨"DeviceFindModel", "touch", "(III)V"⟩ ∈ lw_tbl := List.mem_of_getElem? (i := 68) (by decide +kernel)
theorem q_69 : Cond.selects "DeviceFindModel" ⟨"DeviceFindModel", "isHad", "(III)Z"⟩ ⟨"DeviceFindModel", "isHad", "(III)Z"⟩ ∈ lw_tbl := List.mem_of_getElem? (i := 69) (by decide +kernel)
theorem q_1212 : (Cond.fieldLink "DeviceFindModel" (101 : Nat) "DeviceFindModel" "bad" "[Z") ∈ lw_tbl := List.mem_of_getElem? (i := 1212) (by decide +kernel)
theorem q_1492 : (Cond.code ({ cls := "DeviceFindModel", name := "findPins", desc := "(III)V" } : Jvm.MethodName) prog_14_method_40_code (9 : Nat) (Option.none : Option Jvm.ClassFile.FieldType)) ∈ lw_tbl := List.mem_of_getElem? (i := 1492) (by decide +kernel)
theorem q_1493 : (Cond.methodLink "DeviceFindModel" (280 : Nat) ({ cls := "DeviceFindModel", name := "touch", desc := "(III)V" } : Jvm.MethodName)) ∈ lw_tbl := List.mem_of_getElem? (i := 1493) (by decide +kernel)
theorem q_1495 : (Cond.instanceMethod ({ cls := "DeviceFindModel", name := "touch", desc := "(III)V" } : Jvm.MethodName)) ∈ lw_tbl := List.mem_of_getElem? (i := 1495) (by decide +kernel)
theorem q_1497 : (Cond.methodLink "DeviceFindModel" (283 : Nat) ({ cls := "DeviceFindModel", name := "isHad", desc := "(III)Z" } : Jvm.MethodName)) ∈ lw_tbl := List.mem_of_getElem? (i := 1497) (by decide +kernel)
theorem q_1499 : (Cond.instanceMethod ({ cls := "DeviceFindModel", name := "isHad", desc := "(III)Z" } : Jvm.MethodName)) ∈ lw_tbl := List.mem_of_getElem? (i := 1499) (by decide +kernel)
theorem yy_X12_findPins : zY yX12_findPins cX12_findPins 9 none 3 := ⟨q_1492, q_88, by decide +kernel, by decide +kernel, by decide +kernel⟩
noncomputable def f_X12_findPins_113 (k11 : Int32 → Int32 → Int32 → Int32 → Int32 → zI → Option zI) (k63 : Int32 → Int32 → Int32 → Int32 → Int32 → Int32 → Int32 → Int32 → zI → Option zI) (v1 : Int32) (v2 : Int32) (v3 : Int32) (v4 : Int32) (v5 : Int32) (v6 : Int32) (v8 : Int32) (w0 : Int32) (I : zI) : Option zI :=
  zlt (v8 + (-1)) (fun x44 => k63 v1 v2 v3 v4 v5 v6 w0 x44 I)
noncomputable def f_X12_findPins_111 (k11 : Int32 → Int32 → Int32 → Int32 → Int32 → zI → Option zI) (k63 : Int32 → Int32 → Int32 → Int32 → Int32 → Int32 → Int32 → Int32 → zI → Option zI) (v1 : Int32) (v2 : Int32) (v3 : Int32) (v4 : Int32) (v5 : Int32) (v6 : Int32) (v7 : Int32) (v8 : Int32) (I : zI) : Option zI :=
  f_X12_findPins_113 k11 k63 v1 v2 v3 v4 v5 v6 v8 v7 I
noncomputable def f_X12_findPins_159 (k11 : Int32 → Int32 → Int32 → Int32 → Int32 → zI → Option zI) (v1 : Int32) (v2 : Int32) (v3 : Int32) (v4 : Int32) (v5 : Int32) (w1 : Int32) (w2 : Int32) (I : zI) : Option zI :=
  zck (zbd w1 300) (zlt (zu I 127 w1.toNatClampNeg (vp_nar .boolean w2)) (fun I42 => zlt (v5 + 1) (fun x43 => k11 v1 v2 v3 v4 x43 I42)))
noncomputable def f_X12_findPins_154 (k11 : Int32 → Int32 → Int32 → Int32 → Int32 → zI → Option zI) (v1 : Int32) (v2 : Int32) (v3 : Int32) (v4 : Int32) (v5 : Int32) (w1 : Int32) (I : zI) : Option zI :=
  f_X12_findPins_159 k11 v1 v2 v3 v4 v5 w1 (1 : Int32) I
noncomputable def f_X12_findPins_63 (k11 : Int32 → Int32 → Int32 → Int32 → Int32 → zI → Option zI) (k63 : Int32 → Int32 → Int32 → Int32 → Int32 → Int32 → Int32 → Int32 → zI → Option zI) (v1 : Int32) (v2 : Int32) (v3 : Int32) (v4 : Int32) (v5 : Int32) (v6 : Int32) (v7 : Int32) (v8 : Int32) (I : zI) : Option zI :=
  if v8 < 0 then (zlt (((4 : Int32) * v1) + v5) (fun x19 => zck (zbd x19 1200) (zlt (zu I 128 x19.toNatClampNeg v7) (fun I21 => zck (zbd v1 300) (if (I21 127 v1.toNatClampNeg) = 0 then (if v7 = (-1 : Int32) then (f_X12_findPins_154 k11 v1 v2 v3 v4 v5 v1 I21) else (f_X12_findPins_159 k11 v1 v2 v3 v4 v5 v1 (0 : Int32) I21)) else (f_X12_findPins_154 k11 v1 v2 v3 v4 v5 v1 I21)))))) else (zck (zbd v8 4096) (if (I 132 v8.toNatClampNeg) = 0 then (f_X12_findPins_111 k11 k63 v1 v2 v3 v4 v5 v6 v7 v8 I) else (zck (zbd v6 8) (zlt ((I 121 v6.toNatClampNeg) + v8) (fun x25 => zb1 (f_X12_isHad v1 v5 x25 I) (fun x27 => if x27 = 0 then (zck (zbd v6 8) (zlt ((I 121 v6.toNatClampNeg) + v8) (fun x29 => f_X12_findPins_113 k11 k63 v1 v2 v3 v4 v5 v6 v8 x29 I))) else (f_X12_findPins_111 k11 k63 v1 v2 v3 v4 v5 v6 v7 v8 I)))))))
noncomputable def f_X12_findPins_275 (k169 : Int32 → Int32 → Int32 → Int32 → Int32 → zI → Option zI) (k205 : Int32 → Int32 → Int32 → Int32 → Int32 → Int32 → Int32 → zI → Option zI) (v1 : Int32) (v2 : Int32) (v3 : Int32) (v4 : Int32) (v5 : Int32) (v6 : Int32) (v7 : Int32) (w1 : Int32) (w2 : Int32) (I : zI) : Option zI :=
  zck (zbd w1 300) (zlt (zu I 127 w1.toNatClampNeg (vp_nar .boolean w2)) (fun I46 => zlt (v7 + 1) (fun x47 => k205 v1 v2 v3 v4 v5 v6 x47 I46)))
noncomputable def f_X12_findPins_270 (k169 : Int32 → Int32 → Int32 → Int32 → Int32 → zI → Option zI) (k205 : Int32 → Int32 → Int32 → Int32 → Int32 → Int32 → Int32 → zI → Option zI) (v1 : Int32) (v2 : Int32) (v3 : Int32) (v4 : Int32) (v5 : Int32) (v6 : Int32) (v7 : Int32) (w1 : Int32) (I : zI) : Option zI :=
  f_X12_findPins_275 k169 k205 v1 v2 v3 v4 v5 v6 v7 w1 (1 : Int32) I
noncomputable def f_X12_findPins_274 (k169 : Int32 → Int32 → Int32 → Int32 → Int32 → zI → Option zI) (k205 : Int32 → Int32 → Int32 → Int32 → Int32 → Int32 → Int32 → zI → Option zI) (v1 : Int32) (v2 : Int32) (v3 : Int32) (v4 : Int32) (v5 : Int32) (v6 : Int32) (v7 : Int32) (w1 : Int32) (I : zI) : Option zI :=
  f_X12_findPins_275 k169 k205 v1 v2 v3 v4 v5 v6 v7 w1 (0 : Int32) I
noncomputable def f_X12_findPins_205 (k169 : Int32 → Int32 → Int32 → Int32 → Int32 → zI → Option zI) (k205 : Int32 → Int32 → Int32 → Int32 → Int32 → Int32 → Int32 → zI → Option zI) (v1 : Int32) (v2 : Int32) (v3 : Int32) (v4 : Int32) (v5 : Int32) (v6 : Int32) (v7 : Int32) (I : zI) : Option zI :=
  zck (zbd v6 16) (zlt (I 109 v6.toNatClampNeg) (fun x31 => zck (zbd x31 24) (if (I 120 x31.toNatClampNeg) ≤ v7 then (zlt (v5 + 1) (fun x33 => k169 v1 v2 v3 v4 x33 I)) else (zck (zbd v1 300) (if (I 127 v1.toNatClampNeg) = 0 then (zck (zbd v7 4096) (if (I 132 v7.toNatClampNeg) = 0 then (f_X12_findPins_274 k169 k205 v1 v2 v3 v4 v5 v6 v7 v1 I) else (zck (zbd v2 16) (zck (zbd v6 8) (zlt ((I 121 v6.toNatClampNeg) + v7) (fun x38 => zb1 (f_X12_isHad v1 (I 115 v2.toNatClampNeg) x38 I) (fun x40 => if x40 = 0 then (f_X12_findPins_270 k169 k205 v1 v2 v3 v4 v5 v6 v7 v1 I) else (f_X12_findPins_274 k169 k205 v1 v2 v3 v4 v5 v6 v7 v1 I)))))))) else (f_X12_findPins_270 k169 k205 v1 v2 v3 v4 v5 v6 v7 v1 I))))))
noncomputable def f_X12_findPins_169 (k169 : Int32 → Int32 → Int32 → Int32 → Int32 → zI → Option zI) (v1 : Int32) (v2 : Int32) (v3 : Int32) (v4 : Int32) (v5 : Int32) (I : zI) : Option zI :=
  zck (zbd v2 16) (if (I 115 v2.toNatClampNeg) ≤ v5 then (some I) else (zlt (((4 : Int32) * v2) + v5) (fun x14 => zck (zbd x14 64) (zlt (I 116 x14.toNatClampNeg) (fun x16 => zb1 (f_X12_touch x16 v4 v3 I) (fun I18 => zlp8 (f_X12_findPins_205 k169) zF v1 v2 v3 v4 v5 x16 (0 : Int32) I18))))))
noncomputable def f_X12_findPins_11 (k11 : Int32 → Int32 → Int32 → Int32 → Int32 → zI → Option zI) (v1 : Int32) (v2 : Int32) (v3 : Int32) (v4 : Int32) (v5 : Int32) (I : zI) : Option zI :=
  zck (zbd v2 16) (if (I 115 v2.toNatClampNeg) ≤ v5 then (zlp6 (f_X12_findPins_169) zF v1 v2 v3 v4 (0 : Int32) I) else (zlt (((4 : Int32) * v2) + v5) (fun x4 => zck (zbd x4 64) (zlt (I 116 x4.toNatClampNeg) (fun x6 => zb1 (f_X12_touch x6 v4 v3 I) (fun I8 => zck (zbd x6 16) (zlt (I8 109 x6.toNatClampNeg) (fun x10 => zck (zbd x10 24) (zlt ((I8 120 x10.toNatClampNeg) - (1 : Int32)) (fun x12 => zlp9 (f_X12_findPins_63 k11) zF v1 v2 v3 v4 v5 x6 (-1 : Int32) x12 I8))))))))))
noncomputable def f_X12_findPins (a1 : Int32) (a2 : Int32) (a3 : Int32) (I : zI) : Option zI :=
  zck (zbd a2 16) (zlt (I 114 a2.toNatClampNeg) (fun x2 => zlp6 (f_X12_findPins_11) zF a1 a2 a3 x2 (0 : Int32) I))
set_option maxHeartbeats 4000000 in
set_option maxRecDepth 100000 in
theorem l_X12_findPins_113 {r : zI} (C : zC p l e R s m args below meth c s0 a0 d cy B0 yX12_findPins.cls cX12_findPins 9 none bc bs bc bs 3 73 []) (L : zL) (k11 : Int32 → Int32 → Int32 → Int32 → Int32 → zI → Option zI) (hk11 : ∀ (v1 : Int32) (v2 : Int32) (v3 : Int32) (v4 : Int32) (v5 : Int32) (I : zI), k11 v1 v2 v3 v4 v5 I = some r → zG p l e R s m args below meth c d cy B0 9 bc bs (zQ below s args d cy B0 bc bs (.inl none) zSH zKn bc bs r L) 11 [(0, .ref (B0 + 97)), (1, .int v1), (2, .int v2), (3, .int v3), (4, .int v4), (5, .int v5)] [] zSH zKn bc bs I L) (k63 : Int32 → Int32 → Int32 → Int32 → Int32 → Int32 → Int32 → Int32 → zI → Option zI) (hk63 : ∀ (v1 : Int32) (v2 : Int32) (v3 : Int32) (v4 : Int32) (v5 : Int32) (v6 : Int32) (v7 : Int32) (v8 : Int32) (I : zI), k63 v1 v2 v3 v4 v5 v6 v7 v8 I = some r → zG p l e R s m args below meth c d cy B0 9 bc bs (zQ below s args d cy B0 bc bs (.inl none) zSH zKn bc bs r L) 63 [(0, .ref (B0 + 97)), (1, .int v1), (2, .int v2), (3, .int v3), (4, .int v4), (5, .int v5), (6, .int v6), (7, .int v7), (8, .int v8)] [] zSH zKn bc bs I L) (v1 : Int32) (v2 : Int32) (v3 : Int32) (v4 : Int32) (v5 : Int32) (v6 : Int32) (v8 : Int32) (w0 : Int32) (I : zI) (h : f_X12_findPins_113 k11 k63 v1 v2 v3 v4 v5 v6 v8 w0 I = some r) : zG p l e R s m args below meth c d cy B0 9 bc bs (zQ below s args d cy B0 bc bs (.inl none) zSH zKn bc bs r L) 113 [(0, .ref (B0 + 97)), (1, .int v1), (2, .int v2), (3, .int v3), (4, .int v4), (5, .int v5), (6, .int v6), (8, .int v8)] [.int w0] zSH zKn bc bs I L := by
  unfold f_X12_findPins_113 at h
  refine z_istore C (lv' := [(7, .int w0), (0, .ref (B0 + 97)), (1, .int v1), (2, .int v2), (3, .int v3), (4, .int v4), (5, .int v5), (6, .int v6), (8, .int v8)]) (by decide) rfl dX12_findPins_113 ?_
  obtain ⟨x44, ex44, h⟩ := zlt_e h
  refine z_iinc C (j := 8) (v := x44) (lv' := [(8, .int x44), (7, .int w0), (0, .ref (B0 + 97)), (1, .int v1), (2, .int v2), (3, .int v3), (4, .int v4), (5, .int v5), (6, .int v6)]) rfl (by rw [ex44]; rfl) (by decide) rfl dX12_findPins_115 ?_
  refine z_goto C 63 (by decide) dX12_findPins_118 ?_
  refine z_lv [2, 3, 4, 5, 6, 7, 8, 1, 0] (lv' := [(0, .ref (B0 + 97)), (1, .int v1), (2, .int v2), (3, .int v3), (4, .int v4), (5, .int v5), (6, .int v6), (7, .int w0), (8, .int x44)]) rfl ?_
  exact hk63 v1 v2 v3 v4 v5 v6 w0 x44 I h
set_option maxHeartbeats 4000000 in
set_option maxRecDepth 100000 in
theorem l_X12_findPins_111 {r : zI} (C : zC p l e R s m args below meth c s0 a0 d cy B0 yX12_findPins.cls cX12_findPins 9 none bc bs bc bs 3 73 []) (L : zL) (k11 : Int32 → Int32 → Int32 → Int32 → Int32 → zI → Option zI) (hk11 : ∀ (v1 : Int32) (v2 : Int32) (v3 : Int32) (v4 : Int32) (v5 : Int32) (I : zI), k11 v1 v2 v3 v4 v5 I = some r → zG p l e R s m args below meth c d cy B0 9 bc bs (zQ below s args d cy B0 bc bs (.inl none) zSH zKn bc bs r L) 11 [(0, .ref (B0 + 97)), (1, .int v1), (2, .int v2), (3, .int v3), (4, .int v4), (5, .int v5)] [] zSH zKn bc bs I L) (k63 : Int32 → Int32 → Int32 → Int32 → Int32 → Int32 → Int32 → Int32 → zI → Option zI) (hk63 : ∀ (v1 : Int32) (v2 : Int32) (v3 : Int32) (v4 : Int32) (v5 : Int32) (v6 : Int32) (v7 : Int32) (v8 : Int32) (I : zI), k63 v1 v2 v3 v4 v5 v6 v7 v8 I = some r → zG p l e R s m args below meth c d cy B0 9 bc bs (zQ below s args d cy B0 bc bs (.inl none) zSH zKn bc bs r L) 63 [(0, .ref (B0 + 97)), (1, .int v1), (2, .int v2), (3, .int v3), (4, .int v4), (5, .int v5), (6, .int v6), (7, .int v7), (8, .int v8)] [] zSH zKn bc bs I L) (v1 : Int32) (v2 : Int32) (v3 : Int32) (v4 : Int32) (v5 : Int32) (v6 : Int32) (v7 : Int32) (v8 : Int32) (I : zI) (h : f_X12_findPins_111 k11 k63 v1 v2 v3 v4 v5 v6 v7 v8 I = some r) : zG p l e R s m args below meth c d cy B0 9 bc bs (zQ below s args d cy B0 bc bs (.inl none) zSH zKn bc bs r L) 111 [(0, .ref (B0 + 97)), (1, .int v1), (2, .int v2), (3, .int v3), (4, .int v4), (5, .int v5), (6, .int v6), (7, .int v7), (8, .int v8)] [] zSH zKn bc bs I L := by
  unfold f_X12_findPins_111 at h
  refine z_iload C 7 rfl dX12_findPins_111 ?_
  refine z_lv [0, 1, 2, 3, 4, 5, 6, 8] (lv' := [(0, .ref (B0 + 97)), (1, .int v1), (2, .int v2), (3, .int v3), (4, .int v4), (5, .int v5), (6, .int v6), (8, .int v8)]) rfl ?_
  exact l_X12_findPins_113 C L k11 hk11 k63 hk63 v1 v2 v3 v4 v5 v6 v8 v7 I h
set_option maxHeartbeats 4000000 in
set_option maxRecDepth 100000 in
theorem l_X12_findPins_159 {r : zI} (C : zC p l e R s m args below meth c s0 a0 d cy B0 yX12_findPins.cls cX12_findPins 9 none bc bs bc bs 3 73 []) (L : zL) (k11 : Int32 → Int32 → Int32 → Int32 → Int32 → zI → Option zI) (hk11 : ∀ (v1 : Int32) (v2 : Int32) (v3 : Int32) (v4 : Int32) (v5 : Int32) (I : zI), k11 v1 v2 v3 v4 v5 I = some r → zG p l e R s m args below meth c d cy B0 9 bc bs (zQ below s args d cy B0 bc bs (.inl none) zSH zKn bc bs r L) 11 [(0, .ref (B0 + 97)), (1, .int v1), (2, .int v2), (3, .int v3), (4, .int v4), (5, .int v5)] [] zSH zKn bc bs I L) (v1 : Int32) (v2 : Int32) (v3 : Int32) (v4 : Int32) (v5 : Int32) (w1 : Int32) (w2 : Int32) (I : zI) (h : f_X12_findPins_159 k11 v1 v2 v3 v4 v5 w1 w2 I = some r) : zG p l e R s m args below meth c d cy B0 9 bc bs (zQ below s args d cy B0 bc bs (.inl none) zSH zKn bc bs r L) 159 [(0, .ref (B0 + 97)), (1, .int v1), (2, .int v2), (3, .int v3), (4, .int v4), (5, .int v5)] [.int w2, .int w1, .ref (B0 + 127)] zSH zKn bc bs I L := by
  unfold f_X12_findPins_159 at h
  obtain ⟨hb41, h⟩ := zck_e h
  refine z_zastore C dX12_findPins_159 rfl rfl (by decide) (zbd_in hb41) ?_
  obtain ⟨I42, eI42, h⟩ := zlt_e h
  refine z_eqI C eI42 ?_
  obtain ⟨x43, ex43, h⟩ := zlt_e h
  refine z_iinc C (j := 5) (v := x43) (lv' := [(5, .int x43), (0, .ref (B0 + 97)), (1, .int v1), (2, .int v2), (3, .int v3), (4, .int v4)]) rfl (by rw [ex43]; rfl) (by decide) rfl dX12_findPins_160 ?_
  refine z_goto C 11 (by decide) dX12_findPins_163 ?_
  refine z_lv [1, 2, 3, 4, 5, 0] (lv' := [(0, .ref (B0 + 97)), (1, .int v1), (2, .int v2), (3, .int v3), (4, .int v4), (5, .int x43)]) rfl ?_
  exact hk11 v1 v2 v3 v4 x43 I42 h
set_option maxHeartbeats 4000000 in
set_option maxRecDepth 100000 in
theorem l_X12_findPins_154 {r : zI} (C : zC p l e R s m args below meth c s0 a0 d cy B0 yX12_findPins.cls cX12_findPins 9 none bc bs bc bs 3 73 []) (L : zL) (k11 : Int32 → Int32 → Int32 → Int32 → Int32 → zI → Option zI) (hk11 : ∀ (v1 : Int32) (v2 : Int32) (v3 : Int32) (v4 : Int32) (v5 : Int32) (I : zI), k11 v1 v2 v3 v4 v5 I = some r → zG p l e R s m args below meth c d cy B0 9 bc bs (zQ below s args d cy B0 bc bs (.inl none) zSH zKn bc bs r L) 11 [(0, .ref (B0 + 97)), (1, .int v1), (2, .int v2), (3, .int v3), (4, .int v4), (5, .int v5)] [] zSH zKn bc bs I L) (v1 : Int32) (v2 : Int32) (v3 : Int32) (v4 : Int32) (v5 : Int32) (w1 : Int32) (I : zI) (h : f_X12_findPins_154 k11 v1 v2 v3 v4 v5 w1 I = some r) : zG p l e R s m args below meth c d cy B0 9 bc bs (zQ below s args d cy B0 bc bs (.inl none) zSH zKn bc bs r L) 154 [(0, .ref (B0 + 97)), (1, .int v1), (2, .int v2), (3, .int v3), (4, .int v4), (5, .int v5)] [.int w1, .ref (B0 + 127)] zSH zKn bc bs I L := by
  unfold f_X12_findPins_154 at h
  refine z_iconst C (v := 1) (by decide) dX12_findPins_154 ?_
  refine z_goto C 159 (by decide) dX12_findPins_155 ?_
  exact l_X12_findPins_159 C L k11 hk11 v1 v2 v3 v4 v5 w1 (1 : Int32) I h
set_option maxHeartbeats 4000000 in
set_option maxRecDepth 100000 in
theorem l_X12_findPins_63 {r : zI} (C : zC p l e R s m args below meth c s0 a0 d cy B0 yX12_findPins.cls cX12_findPins 9 none bc bs bc bs 3 73 []) (L : zL) (k11 : Int32 → Int32 → Int32 → Int32 → Int32 → zI → Option zI) (hk11 : ∀ (v1 : Int32) (v2 : Int32) (v3 : Int32) (v4 : Int32) (v5 : Int32) (I : zI), k11 v1 v2 v3 v4 v5 I = some r → zG p l e R s m args below meth c d cy B0 9 bc bs (zQ below s args d cy B0 bc bs (.inl none) zSH zKn bc bs r L) 11 [(0, .ref (B0 + 97)), (1, .int v1), (2, .int v2), (3, .int v3), (4, .int v4), (5, .int v5)] [] zSH zKn bc bs I L) (k63 : Int32 → Int32 → Int32 → Int32 → Int32 → Int32 → Int32 → Int32 → zI → Option zI) (hk63 : ∀ (v1 : Int32) (v2 : Int32) (v3 : Int32) (v4 : Int32) (v5 : Int32) (v6 : Int32) (v7 : Int32) (v8 : Int32) (I : zI), k63 v1 v2 v3 v4 v5 v6 v7 v8 I = some r → zG p l e R s m args below meth c d cy B0 9 bc bs (zQ below s args d cy B0 bc bs (.inl none) zSH zKn bc bs r L) 63 [(0, .ref (B0 + 97)), (1, .int v1), (2, .int v2), (3, .int v3), (4, .int v4), (5, .int v5), (6, .int v6), (7, .int v7), (8, .int v8)] [] zSH zKn bc bs I L) (v1 : Int32) (v2 : Int32) (v3 : Int32) (v4 : Int32) (v5 : Int32) (v6 : Int32) (v7 : Int32) (v8 : Int32) (I : zI) (h : f_X12_findPins_63 k11 k63 v1 v2 v3 v4 v5 v6 v7 v8 I = some r) : zG p l e R s m args below meth c d cy B0 9 bc bs (zQ below s args d cy B0 bc bs (.inl none) zSH zKn bc bs r L) 63 [(0, .ref (B0 + 97)), (1, .int v1), (2, .int v2), (3, .int v3), (4, .int v4), (5, .int v5), (6, .int v6), (7, .int v7), (8, .int v8)] [] zSH zKn bc bs I L := by
  unfold f_X12_findPins_63 at h
  refine z_iload C 8 rfl dX12_findPins_63 ?_
  refine z_if_lt C 121 (by decide) dX12_findPins_65 (fun hc => ?_) (fun hc => ?_)
  · have h := zif_t hc h
    refine z_aload_n C rfl 0 rfl dX12_findPins_121 ?_
    refine z_getr C zc_12 dX12_findPins_122 44 97 128 rfl (by decide) (by decide) q_1213 rfl rfl ?_
    refine z_iconst C (v := 4) (by decide) dX12_findPins_125 ?_
    refine z_iload_n C rfl 1 rfl dX12_findPins_126 ?_
    refine z_imul C dX12_findPins_127 ?_
    refine z_iload C 5 rfl dX12_findPins_128 ?_
    refine z_iadd C dX12_findPins_130 ?_
    obtain ⟨x19, ex19, h⟩ := zlt_e h
    refine z_eqi C ex19 ?_
    refine z_iload C 7 rfl dX12_findPins_131 ?_
    obtain ⟨hb20, h⟩ := zck_e h
    refine z_iastore C dX12_findPins_133 rfl rfl (by decide) (zbd_in hb20) ?_
    obtain ⟨I21, eI21, h⟩ := zlt_e h
    refine z_eqI C eI21 ?_
    refine z_aload_n C rfl 0 rfl dX12_findPins_134 ?_
    refine z_getr C zc_12 dX12_findPins_135 43 97 127 rfl (by decide) (by decide) q_1212 rfl rfl ?_
    refine z_iload_n C rfl 1 rfl dX12_findPins_138 ?_
    refine z_aload_n C rfl 0 rfl dX12_findPins_139 ?_
    refine z_getr C zc_12 dX12_findPins_140 43 97 127 rfl (by decide) (by decide) q_1212 rfl rfl ?_
    refine z_iload_n C rfl 1 rfl dX12_findPins_143 ?_
    obtain ⟨hb22, h⟩ := zck_e h
    refine z_zaload C dX12_findPins_144 rfl rfl (by decide) (zbd_in hb22) ?_
    refine z_if_ne C 154 (by decide) dX12_findPins_145 (fun hc => ?_) (fun hc => ?_)
    · have h := zif_f hc h
      refine z_lv [0, 1, 2, 3, 4, 5] (lv' := [(0, .ref (B0 + 97)), (1, .int v1), (2, .int v2), (3, .int v3), (4, .int v4), (5, .int v5)]) rfl ?_
      exact l_X12_findPins_154 C L k11 hk11 v1 v2 v3 v4 v5 v1 I21 h
    · have h := zif_t hc h
      refine z_iload C 7 rfl dX12_findPins_148 ?_
      refine z_iconst C (v := -1) (by decide) dX12_findPins_150 ?_
      refine z_icmp_ne C 158 (by decide) dX12_findPins_151 (fun hc => ?_) (fun hc => ?_)
      · have h := zif_f hc h
        refine z_iconst C (v := 0) (by decide) dX12_findPins_158 ?_
        refine z_lv [0, 1, 2, 3, 4, 5] (lv' := [(0, .ref (B0 + 97)), (1, .int v1), (2, .int v2), (3, .int v3), (4, .int v4), (5, .int v5)]) rfl ?_
        exact l_X12_findPins_159 C L k11 hk11 v1 v2 v3 v4 v5 v1 (0 : Int32) I21 h
      · have h := zif_t hc h
        refine z_lv [0, 1, 2, 3, 4, 5] (lv' := [(0, .ref (B0 + 97)), (1, .int v1), (2, .int v2), (3, .int v3), (4, .int v4), (5, .int v5)]) rfl ?_
        exact l_X12_findPins_154 C L k11 hk11 v1 v2 v3 v4 v5 v1 I21 h
  · have h := zif_f hc h
    refine z_aload_n C rfl 0 rfl dX12_findPins_68 ?_
    refine z_getr C zc_12 dX12_findPins_69 56 97 132 rfl (by decide) (by decide) q_1225 rfl rfl ?_
    refine z_iload C 8 rfl dX12_findPins_72 ?_
    obtain ⟨hb23, h⟩ := zck_e h
    refine z_zaload C dX12_findPins_74 rfl rfl (by decide) (zbd_in hb23) ?_
    refine z_if_eq C 111 (by decide) dX12_findPins_75 (fun hc => ?_) (fun hc => ?_)
    · have h := zif_t hc h
      exact l_X12_findPins_111 C L k11 hk11 k63 hk63 v1 v2 v3 v4 v5 v6 v7 v8 I h
    · have h := zif_f hc h
      refine z_aload_n C rfl 0 rfl dX12_findPins_78 ?_
      refine z_iload_n C rfl 1 rfl dX12_findPins_79 ?_
      refine z_iload C 5 rfl dX12_findPins_80 ?_
      refine z_aload_n C rfl 0 rfl dX12_findPins_82 ?_
      refine z_getr C zc_12 dX12_findPins_83 34 97 121 rfl (by decide) (by decide) q_1203 rfl rfl ?_
      refine z_iload C 6 rfl dX12_findPins_86 ?_
      obtain ⟨hb24, h⟩ := zck_e h
      refine z_iaload C dX12_findPins_88 rfl rfl (by decide) (zbd_in hb24) ?_
      refine z_iload C 8 rfl dX12_findPins_89 ?_
      refine z_iadd C dX12_findPins_91 ?_
      obtain ⟨x25, ex25, h⟩ := zlt_e h
      refine z_eqi C ex25 ?_
      obtain ⟨x27, hg26, h⟩ := zb1_e h
      refine z_callV C zc_12 rfl (by decide) dX12_findPins_92 yy_X12_isHad (c_X12_isHad C.2.2.2.2.1  v1 v5 x25 I L hg26) q_1497 q_1499 q_69 (by decide) (by decide) rfl rfl (Nat.le_of_ble_eq_true rfl) ⟨Nat.le_refl _, Nat.le_refl _, Nat.le_refl _, Nat.le_refl _⟩ ?_
      refine z_if_ne C 111 (by decide) dX12_findPins_95 (fun hc => ?_) (fun hc => ?_)
      · have h := zif_f hc h
        exact l_X12_findPins_111 C L k11 hk11 k63 hk63 v1 v2 v3 v4 v5 v6 v7 v8 I h
      · have h := zif_t hc h
        refine z_aload_n C rfl 0 rfl dX12_findPins_98 ?_
        refine z_getr C zc_12 dX12_findPins_99 34 97 121 rfl (by decide) (by decide) q_1203 rfl rfl ?_
        refine z_iload C 6 rfl dX12_findPins_102 ?_
        obtain ⟨hb28, h⟩ := zck_e h
        refine z_iaload C dX12_findPins_104 rfl rfl (by decide) (zbd_in hb28) ?_
        refine z_iload C 8 rfl dX12_findPins_105 ?_
        refine z_iadd C dX12_findPins_107 ?_
        obtain ⟨x29, ex29, h⟩ := zlt_e h
        refine z_eqi C ex29 ?_
        refine z_goto C 113 (by decide) dX12_findPins_108 ?_
        refine z_lv [0, 1, 2, 3, 4, 5, 6, 8] (lv' := [(0, .ref (B0 + 97)), (1, .int v1), (2, .int v2), (3, .int v3), (4, .int v4), (5, .int v5), (6, .int v6), (8, .int v8)]) rfl ?_
        exact l_X12_findPins_113 C L k11 hk11 k63 hk63 v1 v2 v3 v4 v5 v6 v8 x29 I h
set_option maxHeartbeats 4000000 in
set_option maxRecDepth 100000 in
theorem L_X12_findPins_63 {r : zI} (C : zC p l e R s m args below meth c s0 a0 d cy B0 yX12_findPins.cls cX12_findPins 9 none bc bs bc bs 3 73 []) (L : zL) (k11 : Int32 → Int32 → Int32 → Int32 → Int32 → zI → Option zI) (hk11 : ∀ (v1 : Int32) (v2 : Int32) (v3 : Int32) (v4 : Int32) (v5 : Int32) (I : zI), k11 v1 v2 v3 v4 v5 I = some r → zG p l e R s m args below meth c d cy B0 9 bc bs (zQ below s args d cy B0 bc bs (.inl none) zSH zKn bc bs r L) 11 [(0, .ref (B0 + 97)), (1, .int v1), (2, .int v2), (3, .int v3), (4, .int v4), (5, .int v5)] [] zSH zKn bc bs I L) (v1 : Int32) (v2 : Int32) (v3 : Int32) (v4 : Int32) (v5 : Int32) (v6 : Int32) (v7 : Int32) (v8 : Int32) (I : zI) (h : zlp9 (f_X12_findPins_63 k11) zF v1 v2 v3 v4 v5 v6 v7 v8 I = some r) : zG p l e R s m args below meth c d cy B0 9 bc bs (zQ below s args d cy B0 bc bs (.inl none) zSH zKn bc bs r L) 63 [(0, .ref (B0 + 97)), (1, .int v1), (2, .int v2), (3, .int v3), (4, .int v4), (5, .int v5), (6, .int v6), (7, .int v7), (8, .int v8)] [] zSH zKn bc bs I L :=
 zlp9_e (fun (v1 : Int32) (v2 : Int32) (v3 : Int32) (v4 : Int32) (v5 : Int32) (v6 : Int32) (v7 : Int32) (v8 : Int32) (I : zI) => zG p l e R s m args below meth c d cy B0 9 bc bs (zQ below s args d cy B0 bc bs (.inl none) zSH zKn bc bs r L) 63 [(0, .ref (B0 + 97)), (1, .int v1), (2, .int v2), (3, .int v3), (4, .int v4), (5, .int v5), (6, .int v6), (7, .int v7), (8, .int v8)] [] zSH zKn bc bs I L) (fun k9 hk9 v1 v2 v3 v4 v5 v6 v7 v8 I h => l_X12_findPins_63 C L k11 hk11 k9 hk9 v1 v2 v3 v4 v5 v6 v7 v8 I h) zF v1 v2 v3 v4 v5 v6 v7 v8 I h
set_option maxHeartbeats 4000000 in
set_option maxRecDepth 100000 in
theorem l_X12_findPins_275 {r : zI} (C : zC p l e R s m args below meth c s0 a0 d cy B0 yX12_findPins.cls cX12_findPins 9 none bc bs bc bs 3 73 []) (L : zL) (k169 : Int32 → Int32 → Int32 → Int32 → Int32 → zI → Option zI) (hk169 : ∀ (v1 : Int32) (v2 : Int32) (v3 : Int32) (v4 : Int32) (v5 : Int32) (I : zI), k169 v1 v2 v3 v4 v5 I = some r → zG p l e R s m args below meth c d cy B0 9 bc bs (zQ below s args d cy B0 bc bs (.inl none) zSH zKn bc bs r L) 169 [(0, .ref (B0 + 97)), (1, .int v1), (2, .int v2), (3, .int v3), (4, .int v4), (5, .int v5)] [] zSH zKn bc bs I L) (k205 : Int32 → Int32 → Int32 → Int32 → Int32 → Int32 → Int32 → zI → Option zI) (hk205 : ∀ (v1 : Int32) (v2 : Int32) (v3 : Int32) (v4 : Int32) (v5 : Int32) (v6 : Int32) (v7 : Int32) (I : zI), k205 v1 v2 v3 v4 v5 v6 v7 I = some r → zG p l e R s m args below meth c d cy B0 9 bc bs (zQ below s args d cy B0 bc bs (.inl none) zSH zKn bc bs r L) 205 [(0, .ref (B0 + 97)), (1, .int v1), (2, .int v2), (3, .int v3), (4, .int v4), (5, .int v5), (6, .int v6), (7, .int v7)] [] zSH zKn bc bs I L) (v1 : Int32) (v2 : Int32) (v3 : Int32) (v4 : Int32) (v5 : Int32) (v6 : Int32) (v7 : Int32) (w1 : Int32) (w2 : Int32) (I : zI) (h : f_X12_findPins_275 k169 k205 v1 v2 v3 v4 v5 v6 v7 w1 w2 I = some r) : zG p l e R s m args below meth c d cy B0 9 bc bs (zQ below s args d cy B0 bc bs (.inl none) zSH zKn bc bs r L) 275 [(0, .ref (B0 + 97)), (1, .int v1), (2, .int v2), (3, .int v3), (4, .int v4), (5, .int v5), (6, .int v6), (7, .int v7)] [.int w2, .int w1, .ref (B0 + 127)] zSH zKn bc bs I L := by
  unfold f_X12_findPins_275 at h
  obtain ⟨hb45, h⟩ := zck_e h
  refine z_zastore C dX12_findPins_275 rfl rfl (by decide) (zbd_in hb45) ?_
  obtain ⟨I46, eI46, h⟩ := zlt_e h
  refine z_eqI C eI46 ?_
  obtain ⟨x47, ex47, h⟩ := zlt_e h
  refine z_iinc C (j := 7) (v := x47) (lv' := [(7, .int x47), (0, .ref (B0 + 97)), (1, .int v1), (2, .int v2), (3, .int v3), (4, .int v4), (5, .int v5), (6, .int v6)]) rfl (by rw [ex47]; rfl) (by decide) rfl dX12_findPins_276 ?_
  refine z_goto C 205 (by decide) dX12_findPins_279 ?_
  refine z_lv [1, 2, 3, 4, 5, 6, 7, 0] (lv' := [(0, .ref (B0 + 97)), (1, .int v1), (2, .int v2), (3, .int v3), (4, .int v4), (5, .int v5), (6, .int v6), (7, .int x47)]) rfl ?_
  exact hk205 v1 v2 v3 v4 v5 v6 x47 I46 h
set_option maxHeartbeats 4000000 in
set_option maxRecDepth 100000 in
theorem l_X12_findPins_270 {r : zI} (C : zC p l e R s m args below meth c s0 a0 d cy B0 yX12_findPins.cls cX12_findPins 9 none bc bs bc bs 3 73 []) (L : zL) (k169 : Int32 → Int32 → Int32 → Int32 → Int32 → zI → Option zI) (hk169 : ∀ (v1 : Int32) (v2 : Int32) (v3 : Int32) (v4 : Int32) (v5 : Int32) (I : zI), k169 v1 v2 v3 v4 v5 I = some r → zG p l e R s m args below meth c d cy B0 9 bc bs (zQ below s args d cy B0 bc bs (.inl none) zSH zKn bc bs r L) 169 [(0, .ref (B0 + 97)), (1, .int v1), (2, .int v2), (3, .int v3), (4, .int v4), (5, .int v5)] [] zSH zKn bc bs I L) (k205 : Int32 → Int32 → Int32 → Int32 → Int32 → Int32 → Int32 → zI → Option zI) (hk205 : ∀ (v1 : Int32) (v2 : Int32) (v3 : Int32) (v4 : Int32) (v5 : Int32) (v6 : Int32) (v7 : Int32) (I : zI), k205 v1 v2 v3 v4 v5 v6 v7 I = some r → zG p l e R s m args below meth c d cy B0 9 bc bs (zQ below s args d cy B0 bc bs (.inl none) zSH zKn bc bs r L) 205 [(0, .ref (B0 + 97)), (1, .int v1), (2, .int v2), (3, .int v3), (4, .int v4), (5, .int v5), (6, .int v6), (7, .int v7)] [] zSH zKn bc bs I L) (v1 : Int32) (v2 : Int32) (v3 : Int32) (v4 : Int32) (v5 : Int32) (v6 : Int32) (v7 : Int32) (w1 : Int32) (I : zI) (h : f_X12_findPins_270 k169 k205 v1 v2 v3 v4 v5 v6 v7 w1 I = some r) : zG p l e R s m args below meth c d cy B0 9 bc bs (zQ below s args d cy B0 bc bs (.inl none) zSH zKn bc bs r L) 270 [(0, .ref (B0 + 97)), (1, .int v1), (2, .int v2), (3, .int v3), (4, .int v4), (5, .int v5), (6, .int v6), (7, .int v7)] [.int w1, .ref (B0 + 127)] zSH zKn bc bs I L := by
  unfold f_X12_findPins_270 at h
  refine z_iconst C (v := 1) (by decide) dX12_findPins_270 ?_
  refine z_goto C 275 (by decide) dX12_findPins_271 ?_
  exact l_X12_findPins_275 C L k169 hk169 k205 hk205 v1 v2 v3 v4 v5 v6 v7 w1 (1 : Int32) I h
set_option maxHeartbeats 4000000 in
set_option maxRecDepth 100000 in
theorem l_X12_findPins_274 {r : zI} (C : zC p l e R s m args below meth c s0 a0 d cy B0 yX12_findPins.cls cX12_findPins 9 none bc bs bc bs 3 73 []) (L : zL) (k169 : Int32 → Int32 → Int32 → Int32 → Int32 → zI → Option zI) (hk169 : ∀ (v1 : Int32) (v2 : Int32) (v3 : Int32) (v4 : Int32) (v5 : Int32) (I : zI), k169 v1 v2 v3 v4 v5 I = some r → zG p l e R s m args below meth c d cy B0 9 bc bs (zQ below s args d cy B0 bc bs (.inl none) zSH zKn bc bs r L) 169 [(0, .ref (B0 + 97)), (1, .int v1), (2, .int v2), (3, .int v3), (4, .int v4), (5, .int v5)] [] zSH zKn bc bs I L) (k205 : Int32 → Int32 → Int32 → Int32 → Int32 → Int32 → Int32 → zI → Option zI) (hk205 : ∀ (v1 : Int32) (v2 : Int32) (v3 : Int32) (v4 : Int32) (v5 : Int32) (v6 : Int32) (v7 : Int32) (I : zI), k205 v1 v2 v3 v4 v5 v6 v7 I = some r → zG p l e R s m args below meth c d cy B0 9 bc bs (zQ below s args d cy B0 bc bs (.inl none) zSH zKn bc bs r L) 205 [(0, .ref (B0 + 97)), (1, .int v1), (2, .int v2), (3, .int v3), (4, .int v4), (5, .int v5), (6, .int v6), (7, .int v7)] [] zSH zKn bc bs I L) (v1 : Int32) (v2 : Int32) (v3 : Int32) (v4 : Int32) (v5 : Int32) (v6 : Int32) (v7 : Int32) (w1 : Int32) (I : zI) (h : f_X12_findPins_274 k169 k205 v1 v2 v3 v4 v5 v6 v7 w1 I = some r) : zG p l e R s m args below meth c d cy B0 9 bc bs (zQ below s args d cy B0 bc bs (.inl none) zSH zKn bc bs r L) 274 [(0, .ref (B0 + 97)), (1, .int v1), (2, .int v2), (3, .int v3), (4, .int v4), (5, .int v5), (6, .int v6), (7, .int v7)] [.int w1, .ref (B0 + 127)] zSH zKn bc bs I L := by
  unfold f_X12_findPins_274 at h
  refine z_iconst C (v := 0) (by decide) dX12_findPins_274 ?_
  exact l_X12_findPins_275 C L k169 hk169 k205 hk205 v1 v2 v3 v4 v5 v6 v7 w1 (0 : Int32) I h
set_option maxHeartbeats 4000000 in
set_option maxRecDepth 100000 in
theorem l_X12_findPins_205 {r : zI} (C : zC p l e R s m args below meth c s0 a0 d cy B0 yX12_findPins.cls cX12_findPins 9 none bc bs bc bs 3 73 []) (L : zL) (k169 : Int32 → Int32 → Int32 → Int32 → Int32 → zI → Option zI) (hk169 : ∀ (v1 : Int32) (v2 : Int32) (v3 : Int32) (v4 : Int32) (v5 : Int32) (I : zI), k169 v1 v2 v3 v4 v5 I = some r → zG p l e R s m args below meth c d cy B0 9 bc bs (zQ below s args d cy B0 bc bs (.inl none) zSH zKn bc bs r L) 169 [(0, .ref (B0 + 97)), (1, .int v1), (2, .int v2), (3, .int v3), (4, .int v4), (5, .int v5)] [] zSH zKn bc bs I L) (k205 : Int32 → Int32 → Int32 → Int32 → Int32 → Int32 → Int32 → zI → Option zI) (hk205 : ∀ (v1 : Int32) (v2 : Int32) (v3 : Int32) (v4 : Int32) (v5 : Int32) (v6 : Int32) (v7 : Int32) (I : zI), k205 v1 v2 v3 v4 v5 v6 v7 I = some r → zG p l e R s m args below meth c d cy B0 9 bc bs (zQ below s args d cy B0 bc bs (.inl none) zSH zKn bc bs r L) 205 [(0, .ref (B0 + 97)), (1, .int v1), (2, .int v2), (3, .int v3), (4, .int v4), (5, .int v5), (6, .int v6), (7, .int v7)] [] zSH zKn bc bs I L) (v1 : Int32) (v2 : Int32) (v3 : Int32) (v4 : Int32) (v5 : Int32) (v6 : Int32) (v7 : Int32) (I : zI) (h : f_X12_findPins_205 k169 k205 v1 v2 v3 v4 v5 v6 v7 I = some r) : zG p l e R s m args below meth c d cy B0 9 bc bs (zQ below s args d cy B0 bc bs (.inl none) zSH zKn bc bs r L) 205 [(0, .ref (B0 + 97)), (1, .int v1), (2, .int v2), (3, .int v3), (4, .int v4), (5, .int v5), (6, .int v6), (7, .int v7)] [] zSH zKn bc bs I L := by
  unfold f_X12_findPins_205 at h
  refine z_iload C 7 rfl dX12_findPins_205 ?_
  refine z_aload_n C rfl 0 rfl dX12_findPins_207 ?_
  refine z_getr C zc_12 dX12_findPins_208 33 97 120 rfl (by decide) (by decide) q_1202 rfl rfl ?_
  refine z_aload_n C rfl 0 rfl dX12_findPins_211 ?_
  refine z_getr C zc_12 dX12_findPins_212 20 97 109 rfl (by decide) (by decide) q_1189 rfl rfl ?_
  refine z_iload C 6 rfl dX12_findPins_215 ?_
  obtain ⟨hb30, h⟩ := zck_e h
  refine z_iaload C dX12_findPins_217 rfl rfl (by decide) (zbd_in hb30) ?_
  obtain ⟨x31, ex31, h⟩ := zlt_e h
  refine z_eqi C ex31 ?_
  obtain ⟨hb32, h⟩ := zck_e h
  refine z_iaload C dX12_findPins_218 rfl rfl (by decide) (zbd_in hb32) ?_
  refine z_icmp_ge C 282 (by decide) dX12_findPins_219 (fun hc => ?_) (fun hc => ?_)
  · have h := zif_t hc h
    obtain ⟨x33, ex33, h⟩ := zlt_e h
    refine z_iinc C (j := 5) (v := x33) (lv' := [(5, .int x33), (0, .ref (B0 + 97)), (1, .int v1), (2, .int v2), (3, .int v3), (4, .int v4), (6, .int v6), (7, .int v7)]) rfl (by rw [ex33]; rfl) (by decide) rfl dX12_findPins_282 ?_
    refine z_goto C 169 (by decide) dX12_findPins_285 ?_
    refine z_lv [1, 2, 3, 4, 5, 0] (lv' := [(0, .ref (B0 + 97)), (1, .int v1), (2, .int v2), (3, .int v3), (4, .int v4), (5, .int x33)]) rfl ?_
    exact hk169 v1 v2 v3 v4 x33 I h
  · have h := zif_f hc h
    refine z_aload_n C rfl 0 rfl dX12_findPins_222 ?_
    refine z_getr C zc_12 dX12_findPins_223 43 97 127 rfl (by decide) (by decide) q_1212 rfl rfl ?_
    refine z_iload_n C rfl 1 rfl dX12_findPins_226 ?_
    refine z_aload_n C rfl 0 rfl dX12_findPins_227 ?_
    refine z_getr C zc_12 dX12_findPins_228 43 97 127 rfl (by decide) (by decide) q_1212 rfl rfl ?_
    refine z_iload_n C rfl 1 rfl dX12_findPins_231 ?_
    obtain ⟨hb34, h⟩ := zck_e h
    refine z_zaload C dX12_findPins_232 rfl rfl (by decide) (zbd_in hb34) ?_
    refine z_if_ne C 270 (by decide) dX12_findPins_233 (fun hc => ?_) (fun hc => ?_)
    · have h := zif_f hc h
      exact l_X12_findPins_270 C L k169 hk169 k205 hk205 v1 v2 v3 v4 v5 v6 v7 v1 I h
    · have h := zif_t hc h
      refine z_aload_n C rfl 0 rfl dX12_findPins_236 ?_
      refine z_getr C zc_12 dX12_findPins_237 56 97 132 rfl (by decide) (by decide) q_1225 rfl rfl ?_
      refine z_iload C 7 rfl dX12_findPins_240 ?_
      obtain ⟨hb35, h⟩ := zck_e h
      refine z_zaload C dX12_findPins_242 rfl rfl (by decide) (zbd_in hb35) ?_
      refine z_if_eq C 274 (by decide) dX12_findPins_243 (fun hc => ?_) (fun hc => ?_)
      · have h := zif_t hc h
        exact l_X12_findPins_274 C L k169 hk169 k205 hk205 v1 v2 v3 v4 v5 v6 v7 v1 I h
      · have h := zif_f hc h
        refine z_aload_n C rfl 0 rfl dX12_findPins_246 ?_
        refine z_iload_n C rfl 1 rfl dX12_findPins_247 ?_
        refine z_aload_n C rfl 0 rfl dX12_findPins_248 ?_
        refine z_getr C zc_12 dX12_findPins_249 26 97 115 rfl (by decide) (by decide) q_1195 rfl rfl ?_
        refine z_iload_n C rfl 2 rfl dX12_findPins_252 ?_
        obtain ⟨hb36, h⟩ := zck_e h
        refine z_iaload C dX12_findPins_253 rfl rfl (by decide) (zbd_in hb36) ?_
        refine z_aload_n C rfl 0 rfl dX12_findPins_254 ?_
        refine z_getr C zc_12 dX12_findPins_255 34 97 121 rfl (by decide) (by decide) q_1203 rfl rfl ?_
        refine z_iload C 6 rfl dX12_findPins_258 ?_
        obtain ⟨hb37, h⟩ := zck_e h
        refine z_iaload C dX12_findPins_260 rfl rfl (by decide) (zbd_in hb37) ?_
        refine z_iload C 7 rfl dX12_findPins_261 ?_
        refine z_iadd C dX12_findPins_263 ?_
        obtain ⟨x38, ex38, h⟩ := zlt_e h
        refine z_eqi C ex38 ?_
        obtain ⟨x40, hg39, h⟩ := zb1_e h
        refine z_callV C zc_12 rfl (by decide) dX12_findPins_264 yy_X12_isHad (c_X12_isHad C.2.2.2.2.1  v1 (I 115 v2.toNatClampNeg) x38 I L hg39) q_1497 q_1499 q_69 (by decide) (by decide) rfl rfl (Nat.le_of_ble_eq_true rfl) ⟨Nat.le_refl _, Nat.le_refl _, Nat.le_refl _, Nat.le_refl _⟩ ?_
        refine z_if_ne C 274 (by decide) dX12_findPins_267 (fun hc => ?_) (fun hc => ?_)
        · have h := zif_f hc h
          exact l_X12_findPins_274 C L k169 hk169 k205 hk205 v1 v2 v3 v4 v5 v6 v7 v1 I h
        · have h := zif_t hc h
          exact l_X12_findPins_270 C L k169 hk169 k205 hk205 v1 v2 v3 v4 v5 v6 v7 v1 I h
set_option maxHeartbeats 4000000 in
set_option maxRecDepth 100000 in
theorem L_X12_findPins_205 {r : zI} (C : zC p l e R s m args below meth c s0 a0 d cy B0 yX12_findPins.cls cX12_findPins 9 none bc bs bc bs 3 73 []) (L : zL) (k169 : Int32 → Int32 → Int32 → Int32 → Int32 → zI → Option zI) (hk169 : ∀ (v1 : Int32) (v2 : Int32) (v3 : Int32) (v4 : Int32) (v5 : Int32) (I : zI), k169 v1 v2 v3 v4 v5 I = some r → zG p l e R s m args below meth c d cy B0 9 bc bs (zQ below s args d cy B0 bc bs (.inl none) zSH zKn bc bs r L) 169 [(0, .ref (B0 + 97)), (1, .int v1), (2, .int v2), (3, .int v3), (4, .int v4), (5, .int v5)] [] zSH zKn bc bs I L) (v1 : Int32) (v2 : Int32) (v3 : Int32) (v4 : Int32) (v5 : Int32) (v6 : Int32) (v7 : Int32) (I : zI) (h : zlp8 (f_X12_findPins_205 k169) zF v1 v2 v3 v4 v5 v6 v7 I = some r) : zG p l e R s m args below meth c d cy B0 9 bc bs (zQ below s args d cy B0 bc bs (.inl none) zSH zKn bc bs r L) 205 [(0, .ref (B0 + 97)), (1, .int v1), (2, .int v2), (3, .int v3), (4, .int v4), (5, .int v5), (6, .int v6), (7, .int v7)] [] zSH zKn bc bs I L :=
 zlp8_e (fun (v1 : Int32) (v2 : Int32) (v3 : Int32) (v4 : Int32) (v5 : Int32) (v6 : Int32) (v7 : Int32) (I : zI) => zG p l e R s m args below meth c d cy B0 9 bc bs (zQ below s args d cy B0 bc bs (.inl none) zSH zKn bc bs r L) 205 [(0, .ref (B0 + 97)), (1, .int v1), (2, .int v2), (3, .int v3), (4, .int v4), (5, .int v5), (6, .int v6), (7, .int v7)] [] zSH zKn bc bs I L) (fun k9 hk9 v1 v2 v3 v4 v5 v6 v7 I h => l_X12_findPins_205 C L k169 hk169 k9 hk9 v1 v2 v3 v4 v5 v6 v7 I h) zF v1 v2 v3 v4 v5 v6 v7 I h
set_option maxHeartbeats 4000000 in
set_option maxRecDepth 100000 in
theorem l_X12_findPins_169 {r : zI} (C : zC p l e R s m args below meth c s0 a0 d cy B0 yX12_findPins.cls cX12_findPins 9 none bc bs bc bs 3 73 []) (L : zL) (k169 : Int32 → Int32 → Int32 → Int32 → Int32 → zI → Option zI) (hk169 : ∀ (v1 : Int32) (v2 : Int32) (v3 : Int32) (v4 : Int32) (v5 : Int32) (I : zI), k169 v1 v2 v3 v4 v5 I = some r → zG p l e R s m args below meth c d cy B0 9 bc bs (zQ below s args d cy B0 bc bs (.inl none) zSH zKn bc bs r L) 169 [(0, .ref (B0 + 97)), (1, .int v1), (2, .int v2), (3, .int v3), (4, .int v4), (5, .int v5)] [] zSH zKn bc bs I L) (v1 : Int32) (v2 : Int32) (v3 : Int32) (v4 : Int32) (v5 : Int32) (I : zI) (h : f_X12_findPins_169 k169 v1 v2 v3 v4 v5 I = some r) : zG p l e R s m args below meth c d cy B0 9 bc bs (zQ below s args d cy B0 bc bs (.inl none) zSH zKn bc bs r L) 169 [(0, .ref (B0 + 97)), (1, .int v1), (2, .int v2), (3, .int v3), (4, .int v4), (5, .int v5)] [] zSH zKn bc bs I L := by
  unfold f_X12_findPins_169 at h
  refine z_iload C 5 rfl dX12_findPins_169 ?_
  refine z_aload_n C rfl 0 rfl dX12_findPins_171 ?_
  refine z_getr C zc_12 dX12_findPins_172 26 97 115 rfl (by decide) (by decide) q_1195 rfl rfl ?_
  refine z_iload_n C rfl 2 rfl dX12_findPins_175 ?_
  obtain ⟨hb13, h⟩ := zck_e h
  refine z_iaload C dX12_findPins_176 rfl rfl (by decide) (zbd_in hb13) ?_
  refine z_icmp_ge C 288 (by decide) dX12_findPins_177 (fun hc => ?_) (fun hc => ?_)
  · have h := zif_t hc h
    obtain rfl := Option.some.inj h
    exact z_vret C dX12_findPins_288 rfl rfl
  · have h := zif_f hc h
    refine z_aload_n C rfl 0 rfl dX12_findPins_180 ?_
    refine z_getr C zc_12 dX12_findPins_181 27 97 116 rfl (by decide) (by decide) q_1196 rfl rfl ?_
    refine z_iconst C (v := 4) (by decide) dX12_findPins_184 ?_
    refine z_iload_n C rfl 2 rfl dX12_findPins_185 ?_
    refine z_imul C dX12_findPins_186 ?_
    refine z_iload C 5 rfl dX12_findPins_187 ?_
    refine z_iadd C dX12_findPins_189 ?_
    obtain ⟨x14, ex14, h⟩ := zlt_e h
    refine z_eqi C ex14 ?_
    obtain ⟨hb15, h⟩ := zck_e h
    refine z_iaload C dX12_findPins_190 rfl rfl (by decide) (zbd_in hb15) ?_
    obtain ⟨x16, ex16, h⟩ := zlt_e h
    refine z_eqi C ex16 ?_
    refine z_istore C (lv' := [(6, .int x16), (0, .ref (B0 + 97)), (1, .int v1), (2, .int v2), (3, .int v3), (4, .int v4), (5, .int v5)]) (by decide) rfl dX12_findPins_191 ?_
    refine z_aload_n C rfl 1 rfl dX12_findPins_193 ?_
    refine z_iload C 0 rfl dX12_findPins_194 ?_
    refine z_iload C 5 rfl dX12_findPins_196 ?_
    refine z_iload_n C rfl 4 rfl dX12_findPins_198 ?_
    obtain ⟨I18, hg17, h⟩ := zb1_e h
    refine z_callV C zc_12 rfl (by decide) dX12_findPins_199 yy_X12_touch (c_X12_touch C.2.2.2.2.1  x16 v4 v3 I L hg17) q_1493 q_1495 q_68 (by decide) (by decide) rfl rfl (Nat.le_of_ble_eq_true rfl) ⟨Nat.le_refl _, Nat.le_refl _, Nat.le_refl _, Nat.le_refl _⟩ ?_
    refine z_iconst C (v := 0) (by decide) dX12_findPins_202 ?_
    refine z_istore C (lv' := [(7, .int (0 : Int32)), (6, .int x16), (0, .ref (B0 + 97)), (1, .int v1), (2, .int v2), (3, .int v3), (4, .int v4), (5, .int v5)]) (by decide) rfl dX12_findPins_203 ?_
    refine z_lv [2, 3, 4, 5, 6, 7, 1, 0] (lv' := [(0, .ref (B0 + 97)), (1, .int v1), (2, .int v2), (3, .int v3), (4, .int v4), (5, .int v5), (6, .int x16), (7, .int (0 : Int32))]) rfl ?_
    exact L_X12_findPins_205 C L k169 hk169 v1 v2 v3 v4 v5 x16 (0 : Int32) I18 h
set_option maxHeartbeats 4000000 in
set_option maxRecDepth 100000 in
theorem L_X12_findPins_169 {r : zI} (C : zC p l e R s m args below meth c s0 a0 d cy B0 yX12_findPins.cls cX12_findPins 9 none bc bs bc bs 3 73 []) (L : zL) (v1 : Int32) (v2 : Int32) (v3 : Int32) (v4 : Int32) (v5 : Int32) (I : zI) (h : zlp6 (f_X12_findPins_169) zF v1 v2 v3 v4 v5 I = some r) : zG p l e R s m args below meth c d cy B0 9 bc bs (zQ below s args d cy B0 bc bs (.inl none) zSH zKn bc bs r L) 169 [(0, .ref (B0 + 97)), (1, .int v1), (2, .int v2), (3, .int v3), (4, .int v4), (5, .int v5)] [] zSH zKn bc bs I L :=
 zlp6_e (fun (v1 : Int32) (v2 : Int32) (v3 : Int32) (v4 : Int32) (v5 : Int32) (I : zI) => zG p l e R s m args below meth c d cy B0 9 bc bs (zQ below s args d cy B0 bc bs (.inl none) zSH zKn bc bs r L) 169 [(0, .ref (B0 + 97)), (1, .int v1), (2, .int v2), (3, .int v3), (4, .int v4), (5, .int v5)] [] zSH zKn bc bs I L) (fun k9 hk9 v1 v2 v3 v4 v5 I h => l_X12_findPins_169 C L k9 hk9 v1 v2 v3 v4 v5 I h) zF v1 v2 v3 v4 v5 I h
set_option maxHeartbeats 4000000 in
set_option maxRecDepth 100000 in
theorem l_X12_findPins_11 {r : zI} (C : zC p l e R s m args below meth c s0 a0 d cy B0 yX12_findPins.cls cX12_findPins 9 none bc bs bc bs 3 73 []) (L : zL) (k11 : Int32 → Int32 → Int32 → Int32 → Int32 → zI → Option zI) (hk11 : ∀ (v1 : Int32) (v2 : Int32) (v3 : Int32) (v4 : Int32) (v5 : Int32) (I : zI), k11 v1 v2 v3 v4 v5 I = some r → zG p l e R s m args below meth c d cy B0 9 bc bs (zQ below s args d cy B0 bc bs (.inl none) zSH zKn bc bs r L) 11 [(0, .ref (B0 + 97)), (1, .int v1), (2, .int v2), (3, .int v3), (4, .int v4), (5, .int v5)] [] zSH zKn bc bs I L) (v1 : Int32) (v2 : Int32) (v3 : Int32) (v4 : Int32) (v5 : Int32) (I : zI) (h : f_X12_findPins_11 k11 v1 v2 v3 v4 v5 I = some r) : zG p l e R s m args below meth c d cy B0 9 bc bs (zQ below s args d cy B0 bc bs (.inl none) zSH zKn bc bs r L) 11 [(0, .ref (B0 + 97)), (1, .int v1), (2, .int v2), (3, .int v3), (4, .int v4), (5, .int v5)] [] zSH zKn bc bs I L := by
  unfold f_X12_findPins_11 at h
  refine z_iload C 5 rfl dX12_findPins_11 ?_
  refine z_aload_n C rfl 0 rfl dX12_findPins_13 ?_
  refine z_getr C zc_12 dX12_findPins_14 26 97 115 rfl (by decide) (by decide) q_1195 rfl rfl ?_
  refine z_iload_n C rfl 2 rfl dX12_findPins_17 ?_
  obtain ⟨hb3, h⟩ := zck_e h
  refine z_iaload C dX12_findPins_18 rfl rfl (by decide) (zbd_in hb3) ?_
  refine z_icmp_ge C 166 (by decide) dX12_findPins_19 (fun hc => ?_) (fun hc => ?_)
  · have h := zif_t hc h
    refine z_iconst C (v := 0) (by decide) dX12_findPins_166 ?_
    refine z_istore C (lv' := [(5, .int (0 : Int32)), (0, .ref (B0 + 97)), (1, .int v1), (2, .int v2), (3, .int v3), (4, .int v4)]) (by decide) rfl dX12_findPins_167 ?_
    refine z_lv [1, 2, 3, 4, 5, 0] (lv' := [(0, .ref (B0 + 97)), (1, .int v1), (2, .int v2), (3, .int v3), (4, .int v4), (5, .int (0 : Int32))]) rfl ?_
    exact L_X12_findPins_169 C L v1 v2 v3 v4 (0 : Int32) I h
  · have h := zif_f hc h
    refine z_aload_n C rfl 0 rfl dX12_findPins_22 ?_
    refine z_getr C zc_12 dX12_findPins_23 27 97 116 rfl (by decide) (by decide) q_1196 rfl rfl ?_
    refine z_iconst C (v := 4) (by decide) dX12_findPins_26 ?_
    refine z_iload_n C rfl 2 rfl dX12_findPins_27 ?_
    refine z_imul C dX12_findPins_28 ?_
    refine z_iload C 5 rfl dX12_findPins_29 ?_
    refine z_iadd C dX12_findPins_31 ?_
    obtain ⟨x4, ex4, h⟩ := zlt_e h
    refine z_eqi C ex4 ?_
    obtain ⟨hb5, h⟩ := zck_e h
    refine z_iaload C dX12_findPins_32 rfl rfl (by decide) (zbd_in hb5) ?_
    obtain ⟨x6, ex6, h⟩ := zlt_e h
    refine z_eqi C ex6 ?_
    refine z_istore C (lv' := [(6, .int x6), (0, .ref (B0 + 97)), (1, .int v1), (2, .int v2), (3, .int v3), (4, .int v4), (5, .int v5)]) (by decide) rfl dX12_findPins_33 ?_
    refine z_aload_n C rfl 1 rfl dX12_findPins_35 ?_
    refine z_iload C 0 rfl dX12_findPins_36 ?_
    refine z_iload C 5 rfl dX12_findPins_38 ?_
    refine z_iload_n C rfl 4 rfl dX12_findPins_40 ?_
    obtain ⟨I8, hg7, h⟩ := zb1_e h
    refine z_callV C zc_12 rfl (by decide) dX12_findPins_41 yy_X12_touch (c_X12_touch C.2.2.2.2.1  x6 v4 v3 I L hg7) q_1493 q_1495 q_68 (by decide) (by decide) rfl rfl (Nat.le_of_ble_eq_true rfl) ⟨Nat.le_refl _, Nat.le_refl _, Nat.le_refl _, Nat.le_refl _⟩ ?_
    refine z_iconst C (v := -1) (by decide) dX12_findPins_44 ?_
    refine z_istore C (lv' := [(7, .int (-1 : Int32)), (6, .int x6), (0, .ref (B0 + 97)), (1, .int v1), (2, .int v2), (3, .int v3), (4, .int v4), (5, .int v5)]) (by decide) rfl dX12_findPins_45 ?_
    refine z_aload_n C rfl 2 rfl dX12_findPins_47 ?_
    refine z_getr C zc_12 dX12_findPins_48 33 97 120 rfl (by decide) (by decide) q_1202 rfl rfl ?_
    refine z_aload_n C rfl 2 rfl dX12_findPins_51 ?_
    refine z_getr C zc_12 dX12_findPins_52 20 97 109 rfl (by decide) (by decide) q_1189 rfl rfl ?_
    refine z_iload C 1 rfl dX12_findPins_55 ?_
    obtain ⟨hb9, h⟩ := zck_e h
    refine z_iaload C dX12_findPins_57 rfl rfl (by decide) (zbd_in hb9) ?_
    obtain ⟨x10, ex10, h⟩ := zlt_e h
    refine z_eqi C ex10 ?_
    obtain ⟨hb11, h⟩ := zck_e h
    refine z_iaload C dX12_findPins_58 rfl rfl (by decide) (zbd_in hb11) ?_
    refine z_iconst C (v := 1) (by decide) dX12_findPins_59 ?_
    refine z_isub C dX12_findPins_60 ?_
    obtain ⟨x12, ex12, h⟩ := zlt_e h
    refine z_eqi C ex12 ?_
    refine z_istore C (lv' := [(8, .int x12), (7, .int (-1 : Int32)), (6, .int x6), (0, .ref (B0 + 97)), (1, .int v1), (2, .int v2), (3, .int v3), (4, .int v4), (5, .int v5)]) (by decide) rfl dX12_findPins_61 ?_
    refine z_lv [3, 4, 5, 6, 7, 8, 2, 1, 0] (lv' := [(0, .ref (B0 + 97)), (1, .int v1), (2, .int v2), (3, .int v3), (4, .int v4), (5, .int v5), (6, .int x6), (7, .int (-1 : Int32)), (8, .int x12)]) rfl ?_
    exact L_X12_findPins_63 C L k11 hk11 v1 v2 v3 v4 v5 x6 (-1 : Int32) x12 I8 h
set_option maxHeartbeats 4000000 in
set_option maxRecDepth 100000 in
theorem L_X12_findPins_11 {r : zI} (C : zC p l e R s m args below meth c s0 a0 d cy B0 yX12_findPins.cls cX12_findPins 9 none bc bs bc bs 3 73 []) (L : zL) (v1 : Int32) (v2 : Int32) (v3 : Int32) (v4 : Int32) (v5 : Int32) (I : zI) (h : zlp6 (f_X12_findPins_11) zF v1 v2 v3 v4 v5 I = some r) : zG p l e R s m args below meth c d cy B0 9 bc bs (zQ below s args d cy B0 bc bs (.inl none) zSH zKn bc bs r L) 11 [(0, .ref (B0 + 97)), (1, .int v1), (2, .int v2), (3, .int v3), (4, .int v4), (5, .int v5)] [] zSH zKn bc bs I L :=
 zlp6_e (fun (v1 : Int32) (v2 : Int32) (v3 : Int32) (v4 : Int32) (v5 : Int32) (I : zI) => zG p l e R s m args below meth c d cy B0 9 bc bs (zQ below s args d cy B0 bc bs (.inl none) zSH zKn bc bs r L) 11 [(0, .ref (B0 + 97)), (1, .int v1), (2, .int v2), (3, .int v3), (4, .int v4), (5, .int v5)] [] zSH zKn bc bs I L) (fun k9 hk9 v1 v2 v3 v4 v5 I h => l_X12_findPins_11 C L k9 hk9 v1 v2 v3 v4 v5 I h) zF v1 v2 v3 v4 v5 I h
set_option maxHeartbeats 4000000 in
set_option maxRecDepth 100000 in
theorem c_X12_findPins {r : zI} (hE : zE0 l s0 a0 d cy B0) (a1 : Int32) (a2 : Int32) (a3 : Int32) (I : zI) (L : zL) (h : f_X12_findPins a1 a2 a3 I = some r) : zM l s0 d cy B0 yX12_findPins cX12_findPins 9 none 3 73 [.ref (B0 + 97), .int a1, .int a2, .int a3] zSH zKn bc bs I L (.inl none) zSH zKn bc bs r L := by
  refine z_meth yy_X12_findPins hE (Nat.le_of_ble_eq_true rfl) (fun p e R s m args below meth c C => ?_)
  show zG p l e R s m args below meth c d cy B0 9 bc bs (zQ below s args d cy B0 bc bs (.inl none) zSH zKn bc bs r L) 0 [(0, .ref (B0 + 97)), (1, .int a1), (2, .int a2), (3, .int a3)] [] zSH zKn bc bs I L
  unfold f_X12_findPins at h
  refine z_aload_n C rfl 0 rfl dX12_findPins_0 ?_
  refine z_getr C zc_12 dX12_findPins_1 25 97 114 rfl (by decide) (by decide) q_1194 rfl rfl ?_
  refine z_iload_n C rfl 2 rfl dX12_findPins_4 ?_
  obtain ⟨hb1, h⟩ := zck_e h
  refine z_iaload C dX12_findPins_5 rfl rfl (by decide) (zbd_in hb1) ?_
  obtain ⟨x2, ex2, h⟩ := zlt_e h
  refine z_eqi C ex2 ?_
  refine z_istore C (lv' := [(4, .int x2), (0, .ref (B0 + 97)), (1, .int a1), (2, .int a2), (3, .int a3)]) (by decide) rfl dX12_findPins_6 ?_
  refine z_iconst C (v := 0) (by decide) dX12_findPins_8 ?_
  refine z_istore C (lv' := [(5, .int (0 : Int32)), (4, .int x2), (0, .ref (B0 + 97)), (1, .int a1), (2, .int a2), (3, .int a3)]) (by decide) rfl dX12_findPins_9 ?_
  refine z_lv [2, 3, 4, 5, 1, 0] (lv' := [(0, .ref (B0 + 97)), (1, .int a1), (2, .int a2), (3, .int a3), (4, .int x2), (5, .int (0 : Int32))]) rfl ?_
  exact L_X12_findPins_11 C L a1 a2 a3 x2 (0 : Int32) I h
theorem q_1211 : (Cond.fieldLink "DeviceFindModel" (98 : Nat) "DeviceFindModel" "deviceAt" "[I") ∈ lw_tbl := List.mem_of_getElem? (i := 1211) (by decide +kernel)
theorem q_1214 : (Cond.fieldLink "DeviceFindModel" (107 : Nat) "DeviceFindModel" "sizes" "[J") ∈ lw_tbl := List.mem_of_getElem? (i := 1214) (by decide +kernel)
theorem q_1504 : (Cond.code ({ cls := "DeviceFindModel", name := "measure", desc := "(III)V" } : Jvm.MethodName) prog_14_method_41_code (11 : Nat) (Option.none : Option Jvm.ClassFile.FieldType)) ∈ lw_tbl := List.mem_of_getElem? (i := 1504) (by decide +kernel)
theorem yy_X12_measure : zY yX12_measure cX12_measure 11 none 3 := ⟨q_1504, q_88, by decide +kernel, by decide +kernel, by decide +kernel⟩
noncomputable def f_X12_measure_216 (k35 : Int32 → Int32 → Int32 → Int32 → Int32 → Int32 → zI → zL → Option (zI × zL)) (k105 : Int32 → Int32 → Int32 → Int32 → Int32 → Int32 → Int32 → zI → zL → Option (zI × zL)) (v1 : Int32) (v3 : Int32) (v4 : Int32) (v5 : Int32) (v6 : Int32) (v7 : Int32) (v8 : Int32) (w1 : Int32) (w2 : Int64) (w3 : Int64) (I : zI) (L : zL) : Option (zI × zL) :=
  zck (zbd w1 900) (zlt (zul L 129 w1.toNatClampNeg (w2 + w3)) (fun L35 => zlt (v8 + 1) (fun x36 => k105 v1 v3 v4 v5 v6 v7 x36 I L35)))
noncomputable def f_X12_measure_215 (k35 : Int32 → Int32 → Int32 → Int32 → Int32 → Int32 → zI → zL → Option (zI × zL)) (k105 : Int32 → Int32 → Int32 → Int32 → Int32 → Int32 → Int32 → zI → zL → Option (zI × zL)) (v1 : Int32) (v3 : Int32) (v4 : Int32) (v5 : Int32) (v6 : Int32) (v7 : Int32) (v8 : Int32) (w1 : Int32) (w2 : Int64) (I : zI) (L : zL) : Option (zI × zL) :=
  f_X12_measure_216 k35 k105 v1 v3 v4 v5 v6 v7 v8 w1 w2 (0 : Int64) I L
noncomputable def f_X12_measure_168 (k35 : Int32 → Int32 → Int32 → Int32 → Int32 → Int32 → zI → zL → Option (zI × zL)) (k105 : Int32 → Int32 → Int32 → Int32 → Int32 → Int32 → Int32 → zI → zL → Option (zI × zL)) (v1 : Int32) (v3 : Int32) (v4 : Int32) (v5 : Int32) (v6 : Int32) (v7 : Int32) (v8 : Int32) (v9 : Int32) (v10 : Int32) (w1 : Int32) (w2 : Int64) (w3 : Int64) (I : zI) (L : zL) : Option (zI × zL) :=
  zck (zbd w1 900) (zlt (zul L 129 w1.toNatClampNeg (w2 + w3)) (fun L29 => zlt (((3 : Int32) * v1) + (2 : Int32)) (fun x30 => zck (zbd x30 900) (if v10 = 0 then (if v9 = (-1 : Int32) then (f_X12_measure_215 k35 k105 v1 v3 v4 v5 v6 v7 v8 x30 (L29 129 x30.toNatClampNeg) I L29) else (if v6 = (-1 : Int32) then (f_X12_measure_215 k35 k105 v1 v3 v4 v5 v6 v7 v8 x30 (L29 129 x30.toNatClampNeg) I L29) else (zb1 (f_X12_nodeAt v5 v9 I) (fun x33 => if x33 = v6 then (f_X12_measure_216 k35 k105 v1 v3 v4 v5 v6 v7 v8 x30 (L29 129 x30.toNatClampNeg) (1 : Int64) I L29) else (f_X12_measure_215 k35 k105 v1 v3 v4 v5 v6 v7 v8 x30 (L29 129 x30.toNatClampNeg) I L29))))) else (f_X12_measure_215 k35 k105 v1 v3 v4 v5 v6 v7 v8 x30 (L29 129 x30.toNatClampNeg) I L29)))))
noncomputable def f_X12_measure_145 (k35 : Int32 → Int32 → Int32 → Int32 → Int32 → Int32 → zI → zL → Option (zI × zL)) (k105 : Int32 → Int32 → Int32 → Int32 → Int32 → Int32 → Int32 → zI → zL → Option (zI × zL)) (v1 : Int32) (v3 : Int32) (v4 : Int32) (v5 : Int32) (v6 : Int32) (v7 : Int32) (v8 : Int32) (v9 : Int32) (w0 : Int32) (I : zI) (L : zL) : Option (zI × zL) :=
  zlt (((3 : Int32) * v1) + (1 : Int32)) (fun x26 => zck (zbd x26 900) (if w0 = 0 then (f_X12_measure_168 k35 k105 v1 v3 v4 v5 v6 v7 v8 v9 w0 x26 (L 129 x26.toNatClampNeg) (1 : Int64) I L) else (f_X12_measure_168 k35 k105 v1 v3 v4 v5 v6 v7 v8 v9 w0 x26 (L 129 x26.toNatClampNeg) (0 : Int64) I L)))
noncomputable def f_X12_measure_144 (k35 : Int32 → Int32 → Int32 → Int32 → Int32 → Int32 → zI → zL → Option (zI × zL)) (k105 : Int32 → Int32 → Int32 → Int32 → Int32 → Int32 → Int32 → zI → zL → Option (zI × zL)) (v1 : Int32) (v3 : Int32) (v4 : Int32) (v5 : Int32) (v6 : Int32) (v7 : Int32) (v8 : Int32) (v9 : Int32) (I : zI) (L : zL) : Option (zI × zL) :=
  f_X12_measure_145 k35 k105 v1 v3 v4 v5 v6 v7 v8 v9 (0 : Int32) I L
noncomputable def f_X12_measure_224 (k35 : Int32 → Int32 → Int32 → Int32 → Int32 → Int32 → zI → zL → Option (zI × zL)) (v1 : Int32) (v3 : Int32) (v4 : Int32) (v5 : Int32) (v6 : Int32) (v7 : Int32) (I : zI) (L : zL) : Option (zI × zL) :=
  zlt (v7 + 1) (fun x21 => k35 v1 v3 v4 v5 v6 x21 I L)
noncomputable def f_X12_measure_105 (k35 : Int32 → Int32 → Int32 → Int32 → Int32 → Int32 → zI → zL → Option (zI × zL)) (k105 : Int32 → Int32 → Int32 → Int32 → Int32 → Int32 → Int32 → zI → zL → Option (zI × zL)) (v1 : Int32) (v3 : Int32) (v4 : Int32) (v5 : Int32) (v6 : Int32) (v7 : Int32) (v8 : Int32) (I : zI) (L : zL) : Option (zI × zL) :=
  if (4 : Int32) ≤ v8 then (f_X12_measure_224 k35 v1 v3 v4 v5 v6 v7 I L) else (zb1 (f_X12_beside v7 v8) (fun x23 => if x23 = (-1 : Int32) then (f_X12_measure_144 k35 k105 v1 v3 v4 v5 v6 v7 v8 x23 I L) else (zlt (v4 + x23) (fun x24 => zck (zbd x24 98304) (if (I 119 x24.toNatClampNeg) = v3 then (f_X12_measure_145 k35 k105 v1 v3 v4 v5 v6 v7 v8 x23 (1 : Int32) I L) else (f_X12_measure_144 k35 k105 v1 v3 v4 v5 v6 v7 v8 x23 I L))))))
noncomputable def f_X12_measure_89 (k35 : Int32 → Int32 → Int32 → Int32 → Int32 → Int32 → zI → zL → Option (zI × zL)) (v1 : Int32) (v3 : Int32) (v4 : Int32) (v5 : Int32) (v6 : Int32) (v7 : Int32) (w1 : Int32) (w2 : Int32) (I : zI) (L : zL) : Option (zI × zL) :=
  zck (zbd w1 300) (zlt (zu I 126 w1.toNatClampNeg w2) (fun I15 => zlt ((3 : Int32) * v1) (fun x16 => zck (zbd x16 900) (zlt ((L 129 x16.toNatClampNeg) + (1 : Int64)) (fun x18 => zck (zbd x16 900) (zlt (zul L 129 x16.toNatClampNeg x18) (fun L20 => zlp9 (f_X12_measure_105 k35) zF v1 v3 v4 v5 v6 v7 (0 : Int32) I15 L20)))))))
noncomputable def f_X12_measure_35 (k35 : Int32 → Int32 → Int32 → Int32 → Int32 → Int32 → zI → zL → Option (zI × zL)) (v1 : Int32) (v3 : Int32) (v4 : Int32) (v5 : Int32) (v6 : Int32) (v7 : Int32) (I : zI) (L : zL) : Option (zI × zL) :=
  if (4096 : Int32) ≤ v7 then (some (I, L)) else (zlt (v4 + v7) (fun x9 => zck (zbd x9 98304) (if (I 119 x9.toNatClampNeg) = v3 then (zlt ((3 : Int32) * v1) (fun x11 => zck (zbd x11 900) (if (L 129 x11.toNatClampNeg) = (0 : Int64) then (f_X12_measure_89 k35 v1 v3 v4 v5 v6 v7 v1 v7 I L) else (zck (zbd v1 300) (f_X12_measure_89 k35 v1 v3 v4 v5 v6 v7 v1 (I 126 v1.toNatClampNeg) I L))))) else (f_X12_measure_224 k35 v1 v3 v4 v5 v6 v7 I L))))
noncomputable def f_X12_measure (a1 : Int32) (a2 : Int32) (a3 : Int32) (I : zI) (L : zL) : Option (zI × zL) :=
  zck (zbd a2 16) (zlt ((4096 : Int32) * (I 114 a2.toNatClampNeg)) (fun x2 => zlt ((4 : Int32) * a2) (fun x3 => zck (zbd x3 64) (zlt (I 116 x3.toNatClampNeg) (fun x5 => zlt ((4 : Int32) * a1) (fun x6 => zck (zbd x6 1200) (zlt (I 128 x6.toNatClampNeg) (fun x8 => zlp8 (f_X12_measure_35) zF a1 a3 x2 x5 x8 (0 : Int32) I L))))))))
set_option maxHeartbeats 4000000 in
set_option maxRecDepth 100000 in
theorem l_X12_measure_216 {r : zI × zL} (C : zC p l e R s m args below meth c s0 a0 d cy B0 yX12_measure.cls cX12_measure 11 none bc bs bc bs 2 46 []) (k35 : Int32 → Int32 → Int32 → Int32 → Int32 → Int32 → zI → zL → Option (zI × zL)) (hk35 : ∀ (v1 : Int32) (v3 : Int32) (v4 : Int32) (v5 : Int32) (v6 : Int32) (v7 : Int32) (I : zI) (L : zL), k35 v1 v3 v4 v5 v6 v7 I L = some r → zG p l e R s m args below meth c d cy B0 11 bc bs (zQ below s args d cy B0 bc bs (.inl none) zSH zKn bc bs r.1 r.2) 35 [(0, .ref (B0 + 97)), (1, .int v1), (3, .int v3), (4, .int v4), (5, .int v5), (6, .int v6), (7, .int v7)] [] zSH zKn bc bs I L) (k105 : Int32 → Int32 → Int32 → Int32 → Int32 → Int32 → Int32 → zI → zL → Option (zI × zL)) (hk105 : ∀ (v1 : Int32) (v3 : Int32) (v4 : Int32) (v5 : Int32) (v6 : Int32) (v7 : Int32) (v8 : Int32) (I : zI) (L : zL), k105 v1 v3 v4 v5 v6 v7 v8 I L = some r → zG p l e R s m args below meth c d cy B0 11 bc bs (zQ below s args d cy B0 bc bs (.inl none) zSH zKn bc bs r.1 r.2) 105 [(0, .ref (B0 + 97)), (1, .int v1), (3, .int v3), (4, .int v4), (5, .int v5), (6, .int v6), (7, .int v7), (8, .int v8)] [] zSH zKn bc bs I L) (v1 : Int32) (v3 : Int32) (v4 : Int32) (v5 : Int32) (v6 : Int32) (v7 : Int32) (v8 : Int32) (w1 : Int32) (w2 : Int64) (w3 : Int64) (I : zI) (L : zL) (h : f_X12_measure_216 k35 k105 v1 v3 v4 v5 v6 v7 v8 w1 w2 w3 I L = some r) : zG p l e R s m args below meth c d cy B0 11 bc bs (zQ below s args d cy B0 bc bs (.inl none) zSH zKn bc bs r.1 r.2) 216 [(0, .ref (B0 + 97)), (1, .int v1), (3, .int v3), (4, .int v4), (5, .int v5), (6, .int v6), (7, .int v7), (8, .int v8)] [.long w3, .long w2, .int w1, .ref (B0 + 129)] zSH zKn bc bs I L := by
  unfold f_X12_measure_216 at h
  refine z_ladd C dX12_measure_216 ?_
  obtain ⟨hb34, h⟩ := zck_e h
  refine z_lastore C dX12_measure_217 rfl rfl (by decide) (zbd_in hb34) ?_
  obtain ⟨L35, eL35, h⟩ := zlt_e h
  refine z_eqL C eL35 ?_
  obtain ⟨x36, ex36, h⟩ := zlt_e h
  refine z_iinc C (j := 7) (v := x36) (lv' := [(8, .int x36), (0, .ref (B0 + 97)), (1, .int v1), (3, .int v3), (4, .int v4), (5, .int v5), (6, .int v6), (7, .int v7)]) rfl (by rw [ex36]; rfl) (by decide) rfl dX12_measure_218 ?_
  refine z_goto C 105 (by decide) dX12_measure_221 ?_
  refine z_lv [1, 2, 3, 4, 5, 6, 7, 0] (lv' := [(0, .ref (B0 + 97)), (1, .int v1), (3, .int v3), (4, .int v4), (5, .int v5), (6, .int v6), (7, .int v7), (8, .int x36)]) rfl ?_
  exact hk105 v1 v3 v4 v5 v6 v7 x36 I L35 h
set_option maxHeartbeats 4000000 in
set_option maxRecDepth 100000 in
theorem l_X12_measure_215 {r : zI × zL} (C : zC p l e R s m args below meth c s0 a0 d cy B0 yX12_measure.cls cX12_measure 11 none bc bs bc bs 2 46 []) (k35 : Int32 → Int32 → Int32 → Int32 → Int32 → Int32 → zI → zL → Option (zI × zL)) (hk35 : ∀ (v1 : Int32) (v3 : Int32) (v4 : Int32) (v5 : Int32) (v6 : Int32) (v7 : Int32) (I : zI) (L : zL), k35 v1 v3 v4 v5 v6 v7 I L = some r → zG p l e R s m args below meth c d cy B0 11 bc bs (zQ below s args d cy B0 bc bs (.inl none) zSH zKn bc bs r.1 r.2) 35 [(0, .ref (B0 + 97)), (1, .int v1), (3, .int v3), (4, .int v4), (5, .int v5), (6, .int v6), (7, .int v7)] [] zSH zKn bc bs I L) (k105 : Int32 → Int32 → Int32 → Int32 → Int32 → Int32 → Int32 → zI → zL → Option (zI × zL)) (hk105 : ∀ (v1 : Int32) (v3 : Int32) (v4 : Int32) (v5 : Int32) (v6 : Int32) (v7 : Int32) (v8 : Int32) (I : zI) (L : zL), k105 v1 v3 v4 v5 v6 v7 v8 I L = some r → zG p l e R s m args below meth c d cy B0 11 bc bs (zQ below s args d cy B0 bc bs (.inl none) zSH zKn bc bs r.1 r.2) 105 [(0, .ref (B0 + 97)), (1, .int v1), (3, .int v3), (4, .int v4), (5, .int v5), (6, .int v6), (7, .int v7), (8, .int v8)] [] zSH zKn bc bs I L) (v1 : Int32) (v3 : Int32) (v4 : Int32) (v5 : Int32) (v6 : Int32) (v7 : Int32) (v8 : Int32) (w1 : Int32) (w2 : Int64) (I : zI) (L : zL) (h : f_X12_measure_215 k35 k105 v1 v3 v4 v5 v6 v7 v8 w1 w2 I L = some r) : zG p l e R s m args below meth c d cy B0 11 bc bs (zQ below s args d cy B0 bc bs (.inl none) zSH zKn bc bs r.1 r.2) 215 [(0, .ref (B0 + 97)), (1, .int v1), (3, .int v3), (4, .int v4), (5, .int v5), (6, .int v6), (7, .int v7), (8, .int v8)] [.long w2, .int w1, .ref (B0 + 129)] zSH zKn bc bs I L := by
  unfold f_X12_measure_215 at h
  refine z_lconst C (v := 0) (by decide) dX12_measure_215 ?_
  exact l_X12_measure_216 C k35 hk35 k105 hk105 v1 v3 v4 v5 v6 v7 v8 w1 w2 (0 : Int64) I L h
set_option maxHeartbeats 4000000 in
set_option maxRecDepth 100000 in
theorem l_X12_measure_168 {r : zI × zL} (C : zC p l e R s m args below meth c s0 a0 d cy B0 yX12_measure.cls cX12_measure 11 none bc bs bc bs 2 46 []) (k35 : Int32 → Int32 → Int32 → Int32 → Int32 → Int32 → zI → zL → Option (zI × zL)) (hk35 : ∀ (v1 : Int32) (v3 : Int32) (v4 : Int32) (v5 : Int32) (v6 : Int32) (v7 : Int32) (I : zI) (L : zL), k35 v1 v3 v4 v5 v6 v7 I L = some r → zG p l e R s m args below meth c d cy B0 11 bc bs (zQ below s args d cy B0 bc bs (.inl none) zSH zKn bc bs r.1 r.2) 35 [(0, .ref (B0 + 97)), (1, .int v1), (3, .int v3), (4, .int v4), (5, .int v5), (6, .int v6), (7, .int v7)] [] zSH zKn bc bs I L) (k105 : Int32 → Int32 → Int32 → Int32 → Int32 → Int32 → Int32 → zI → zL → Option (zI × zL)) (hk105 : ∀ (v1 : Int32) (v3 : Int32) (v4 : Int32) (v5 : Int32) (v6 : Int32) (v7 : Int32) (v8 : Int32) (I : zI) (L : zL), k105 v1 v3 v4 v5 v6 v7 v8 I L = some r → zG p l e R s m args below meth c d cy B0 11 bc bs (zQ below s args d cy B0 bc bs (.inl none) zSH zKn bc bs r.1 r.2) 105 [(0, .ref (B0 + 97)), (1, .int v1), (3, .int v3), (4, .int v4), (5, .int v5), (6, .int v6), (7, .int v7), (8, .int v8)] [] zSH zKn bc bs I L) (v1 : Int32) (v3 : Int32) (v4 : Int32) (v5 : Int32) (v6 : Int32) (v7 : Int32) (v8 : Int32) (v9 : Int32) (v10 : Int32) (w1 : Int32) (w2 : Int64) (w3 : Int64) (I : zI) (L : zL) (h : f_X12_measure_168 k35 k105 v1 v3 v4 v5 v6 v7 v8 v9 v10 w1 w2 w3 I L = some r) : zG p l e R s m args below meth c d cy B0 11 bc bs (zQ below s args d cy B0 bc bs (.inl none) zSH zKn bc bs r.1 r.2) 168 [(0, .ref (B0 + 97)), (1, .int v1), (3, .int v3), (4, .int v4), (5, .int v5), (6, .int v6), (7, .int v7), (8, .int v8), (9, .int v9), (10, .int v10)] [.long w3, .long w2, .int w1, .ref (B0 + 129)] zSH zKn bc bs I L := by
  unfold f_X12_measure_168 at h
  refine z_ladd C dX12_measure_168 ?_
  obtain ⟨hb28, h⟩ := zck_e h
  refine z_lastore C dX12_measure_169 rfl rfl (by decide) (zbd_in hb28) ?_
  obtain ⟨L29, eL29, h⟩ := zlt_e h
  refine z_eqL C eL29 ?_
  refine z_aload_n C rfl 0 rfl dX12_measure_170 ?_
  refine z_getr C zc_12 dX12_measure_171 45 97 129 rfl (by decide) (by decide) q_1214 rfl rfl ?_
  refine z_iconst C (v := 3) (by decide) dX12_measure_174 ?_
  refine z_iload_n C rfl 1 rfl dX12_measure_175 ?_
  refine z_imul C dX12_measure_176 ?_
  refine z_iconst C (v := 2) (by decide) dX12_measure_177 ?_
  refine z_iadd C dX12_measure_178 ?_
  obtain ⟨x30, ex30, h⟩ := zlt_e h
  refine z_eqi C ex30 ?_
  refine z_dup2_11 C rfl rfl dX12_measure_179 ?_
  obtain ⟨hb31, h⟩ := zck_e h
  refine z_laload C dX12_measure_180 rfl rfl (by decide) (zbd_in hb31) ?_
  refine z_iload C 9 rfl dX12_measure_181 ?_
  refine z_if_ne C 215 (by decide) dX12_measure_183 (fun hc => ?_) (fun hc => ?_)
  · have h := zif_f hc h
    refine z_lv [0, 1, 2, 3, 4, 5, 6, 7] (lv' := [(0, .ref (B0 + 97)), (1, .int v1), (3, .int v3), (4, .int v4), (5, .int v5), (6, .int v6), (7, .int v7), (8, .int v8)]) rfl ?_
    exact l_X12_measure_215 C k35 hk35 k105 hk105 v1 v3 v4 v5 v6 v7 v8 x30 (L29 129 x30.toNatClampNeg) I L29 h
  · have h := zif_t hc h
    refine z_iload C 8 rfl dX12_measure_186 ?_
    refine z_iconst C (v := -1) (by decide) dX12_measure_188 ?_
    refine z_icmp_eq C 215 (by decide) dX12_measure_189 (fun hc => ?_) (fun hc => ?_)
    · have h := zif_t hc h
      refine z_lv [0, 1, 2, 3, 4, 5, 6, 7] (lv' := [(0, .ref (B0 + 97)), (1, .int v1), (3, .int v3), (4, .int v4), (5, .int v5), (6, .int v6), (7, .int v7), (8, .int v8)]) rfl ?_
      exact l_X12_measure_215 C k35 hk35 k105 hk105 v1 v3 v4 v5 v6 v7 v8 x30 (L29 129 x30.toNatClampNeg) I L29 h
    · have h := zif_f hc h
      refine z_iload C 5 rfl dX12_measure_192 ?_
      refine z_iconst C (v := -1) (by decide) dX12_measure_194 ?_
      refine z_icmp_eq C 215 (by decide) dX12_measure_195 (fun hc => ?_) (fun hc => ?_)
      · have h := zif_t hc h
        refine z_lv [0, 1, 2, 3, 4, 5, 6, 7] (lv' := [(0, .ref (B0 + 97)), (1, .int v1), (3, .int v3), (4, .int v4), (5, .int v5), (6, .int v6), (7, .int v7), (8, .int v8)]) rfl ?_
        exact l_X12_measure_215 C k35 hk35 k105 hk105 v1 v3 v4 v5 v6 v7 v8 x30 (L29 129 x30.toNatClampNeg) I L29 h
      · have h := zif_f hc h
        refine z_aload_n C rfl 0 rfl dX12_measure_198 ?_
        refine z_iload C 4 rfl dX12_measure_199 ?_
        refine z_iload C 8 rfl dX12_measure_201 ?_
        obtain ⟨x33, hg32, h⟩ := zb1_e h
        refine z_callV C zc_12 rfl (by decide) dX12_measure_203 yy_X12_nodeAt (c_X12_nodeAt C.2.2.2.2.1  v5 v9 I L29 hg32) q_1485 q_1487 q_66 (by decide) (by decide) rfl rfl (Nat.le_of_ble_eq_true rfl) ⟨Nat.le_refl _, Nat.le_refl _, Nat.le_refl _, Nat.le_refl _⟩ ?_
        refine z_iload C 5 rfl dX12_measure_206 ?_
        refine z_icmp_ne C 215 (by decide) dX12_measure_208 (fun hc => ?_) (fun hc => ?_)
        · have h := zif_f hc h
          refine z_lv [0, 1, 2, 3, 4, 5, 6, 7] (lv' := [(0, .ref (B0 + 97)), (1, .int v1), (3, .int v3), (4, .int v4), (5, .int v5), (6, .int v6), (7, .int v7), (8, .int v8)]) rfl ?_
          exact l_X12_measure_215 C k35 hk35 k105 hk105 v1 v3 v4 v5 v6 v7 v8 x30 (L29 129 x30.toNatClampNeg) I L29 h
        · have h := zif_t hc h
          refine z_lconst C (v := 1) (by decide) dX12_measure_211 ?_
          refine z_goto C 216 (by decide) dX12_measure_212 ?_
          refine z_lv [0, 1, 2, 3, 4, 5, 6, 7] (lv' := [(0, .ref (B0 + 97)), (1, .int v1), (3, .int v3), (4, .int v4), (5, .int v5), (6, .int v6), (7, .int v7), (8, .int v8)]) rfl ?_
          exact l_X12_measure_216 C k35 hk35 k105 hk105 v1 v3 v4 v5 v6 v7 v8 x30 (L29 129 x30.toNatClampNeg) (1 : Int64) I L29 h
set_option maxHeartbeats 4000000 in
set_option maxRecDepth 100000 in
theorem l_X12_measure_145 {r : zI × zL} (C : zC p l e R s m args below meth c s0 a0 d cy B0 yX12_measure.cls cX12_measure 11 none bc bs bc bs 2 46 []) (k35 : Int32 → Int32 → Int32 → Int32 → Int32 → Int32 → zI → zL → Option (zI × zL)) (hk35 : ∀ (v1 : Int32) (v3 : Int32) (v4 : Int32) (v5 : Int32) (v6 : Int32) (v7 : Int32) (I : zI) (L : zL), k35 v1 v3 v4 v5 v6 v7 I L = some r → zG p l e R s m args below meth c d cy B0 11 bc bs (zQ below s args d cy B0 bc bs (.inl none) zSH zKn bc bs r.1 r.2) 35 [(0, .ref (B0 + 97)), (1, .int v1), (3, .int v3), (4, .int v4), (5, .int v5), (6, .int v6), (7, .int v7)] [] zSH zKn bc bs I L) (k105 : Int32 → Int32 → Int32 → Int32 → Int32 → Int32 → Int32 → zI → zL → Option (zI × zL)) (hk105 : ∀ (v1 : Int32) (v3 : Int32) (v4 : Int32) (v5 : Int32) (v6 : Int32) (v7 : Int32) (v8 : Int32) (I : zI) (L : zL), k105 v1 v3 v4 v5 v6 v7 v8 I L = some r → zG p l e R s m args below meth c d cy B0 11 bc bs (zQ below s args d cy B0 bc bs (.inl none) zSH zKn bc bs r.1 r.2) 105 [(0, .ref (B0 + 97)), (1, .int v1), (3, .int v3), (4, .int v4), (5, .int v5), (6, .int v6), (7, .int v7), (8, .int v8)] [] zSH zKn bc bs I L) (v1 : Int32) (v3 : Int32) (v4 : Int32) (v5 : Int32) (v6 : Int32) (v7 : Int32) (v8 : Int32) (v9 : Int32) (w0 : Int32) (I : zI) (L : zL) (h : f_X12_measure_145 k35 k105 v1 v3 v4 v5 v6 v7 v8 v9 w0 I L = some r) : zG p l e R s m args below meth c d cy B0 11 bc bs (zQ below s args d cy B0 bc bs (.inl none) zSH zKn bc bs r.1 r.2) 145 [(0, .ref (B0 + 97)), (1, .int v1), (3, .int v3), (4, .int v4), (5, .int v5), (6, .int v6), (7, .int v7), (8, .int v8), (9, .int v9)] [.int w0] zSH zKn bc bs I L := by
  unfold f_X12_measure_145 at h
  refine z_istore C (lv' := [(10, .int w0), (0, .ref (B0 + 97)), (1, .int v1), (3, .int v3), (4, .int v4), (5, .int v5), (6, .int v6), (7, .int v7), (8, .int v8), (9, .int v9)]) (by decide) rfl dX12_measure_145 ?_
  refine z_aload_n C rfl 1 rfl dX12_measure_147 ?_
  refine z_getr C zc_12 dX12_measure_148 45 97 129 rfl (by decide) (by decide) q_1214 rfl rfl ?_
  refine z_iconst C (v := 3) (by decide) dX12_measure_151 ?_
  refine z_iload_n C rfl 2 rfl dX12_measure_152 ?_
  refine z_imul C dX12_measure_153 ?_
  refine z_iconst C (v := 1) (by decide) dX12_measure_154 ?_
  refine z_iadd C dX12_measure_155 ?_
  obtain ⟨x26, ex26, h⟩ := zlt_e h
  refine z_eqi C ex26 ?_
  refine z_dup2_11 C rfl rfl dX12_measure_156 ?_
  obtain ⟨hb27, h⟩ := zck_e h
  refine z_laload C dX12_measure_157 rfl rfl (by decide) (zbd_in hb27) ?_
  refine z_iload C 0 rfl dX12_measure_158 ?_
  refine z_if_eq C 167 (by decide) dX12_measure_160 (fun hc => ?_) (fun hc => ?_)
  · have h := zif_t hc h
    refine z_lconst C (v := 1) (by decide) dX12_measure_167 ?_
    refine z_lv [1, 2, 3, 4, 5, 6, 7, 8, 9, 0] (lv' := [(0, .ref (B0 + 97)), (1, .int v1), (3, .int v3), (4, .int v4), (5, .int v5), (6, .int v6), (7, .int v7), (8, .int v8), (9, .int v9), (10, .int w0)]) rfl ?_
    exact l_X12_measure_168 C k35 hk35 k105 hk105 v1 v3 v4 v5 v6 v7 v8 v9 w0 x26 (L 129 x26.toNatClampNeg) (1 : Int64) I L h
  · have h := zif_f hc h
    refine z_lconst C (v := 0) (by decide) dX12_measure_163 ?_
    refine z_goto C 168 (by decide) dX12_measure_164 ?_
    refine z_lv [1, 2, 3, 4, 5, 6, 7, 8, 9, 0] (lv' := [(0, .ref (B0 + 97)), (1, .int v1), (3, .int v3), (4, .int v4), (5, .int v5), (6, .int v6), (7, .int v7), (8, .int v8), (9, .int v9), (10, .int w0)]) rfl ?_
    exact l_X12_measure_168 C k35 hk35 k105 hk105 v1 v3 v4 v5 v6 v7 v8 v9 w0 x26 (L 129 x26.toNatClampNeg) (0 : Int64) I L h
set_option maxHeartbeats 4000000 in
set_option maxRecDepth 100000 in
theorem l_X12_measure_144 {r : zI × zL} (C : zC p l e R s m args below meth c s0 a0 d cy B0 yX12_measure.cls cX12_measure 11 none bc bs bc bs 2 46 []) (k35 : Int32 → Int32 → Int32 → Int32 → Int32 → Int32 → zI → zL → Option (zI × zL)) (hk35 : ∀ (v1 : Int32) (v3 : Int32) (v4 : Int32) (v5 : Int32) (v6 : Int32) (v7 : Int32) (I : zI) (L : zL), k35 v1 v3 v4 v5 v6 v7 I L = some r → zG p l e R s m args below meth c d cy B0 11 bc bs (zQ below s args d cy B0 bc bs (.inl none) zSH zKn bc bs r.1 r.2) 35 [(0, .ref (B0 + 97)), (1, .int v1), (3, .int v3), (4, .int v4), (5, .int v5), (6, .int v6), (7, .int v7)] [] zSH zKn bc bs I L) (k105 : Int32 → Int32 → Int32 → Int32 → Int32 → Int32 → Int32 → zI → zL → Option (zI × zL)) (hk105 : ∀ (v1 : Int32) (v3 : Int32) (v4 : Int32) (v5 : Int32) (v6 : Int32) (v7 : Int32) (v8 : Int32) (I : zI) (L : zL), k105 v1 v3 v4 v5 v6 v7 v8 I L = some r → zG p l e R s m args below meth c d cy B0 11 bc bs (zQ below s args d cy B0 bc bs (.inl none) zSH zKn bc bs r.1 r.2) 105 [(0, .ref (B0 + 97)), (1, .int v1), (3, .int v3), (4, .int v4), (5, .int v5), (6, .int v6), (7, .int v7), (8, .int v8)] [] zSH zKn bc bs I L) (v1 : Int32) (v3 : Int32) (v4 : Int32) (v5 : Int32) (v6 : Int32) (v7 : Int32) (v8 : Int32) (v9 : Int32) (I : zI) (L : zL) (h : f_X12_measure_144 k35 k105 v1 v3 v4 v5 v6 v7 v8 v9 I L = some r) : zG p l e R s m args below meth c d cy B0 11 bc bs (zQ below s args d cy B0 bc bs (.inl none) zSH zKn bc bs r.1 r.2) 144 [(0, .ref (B0 + 97)), (1, .int v1), (3, .int v3), (4, .int v4), (5, .int v5), (6, .int v6), (7, .int v7), (8, .int v8), (9, .int v9)] [] zSH zKn bc bs I L := by
  unfold f_X12_measure_144 at h
  refine z_iconst C (v := 0) (by decide) dX12_measure_144 ?_
  exact l_X12_measure_145 C k35 hk35 k105 hk105 v1 v3 v4 v5 v6 v7 v8 v9 (0 : Int32) I L h
set_option maxHeartbeats 4000000 in
set_option maxRecDepth 100000 in
theorem l_X12_measure_224 {r : zI × zL} (C : zC p l e R s m args below meth c s0 a0 d cy B0 yX12_measure.cls cX12_measure 11 none bc bs bc bs 2 46 []) (k35 : Int32 → Int32 → Int32 → Int32 → Int32 → Int32 → zI → zL → Option (zI × zL)) (hk35 : ∀ (v1 : Int32) (v3 : Int32) (v4 : Int32) (v5 : Int32) (v6 : Int32) (v7 : Int32) (I : zI) (L : zL), k35 v1 v3 v4 v5 v6 v7 I L = some r → zG p l e R s m args below meth c d cy B0 11 bc bs (zQ below s args d cy B0 bc bs (.inl none) zSH zKn bc bs r.1 r.2) 35 [(0, .ref (B0 + 97)), (1, .int v1), (3, .int v3), (4, .int v4), (5, .int v5), (6, .int v6), (7, .int v7)] [] zSH zKn bc bs I L) (v1 : Int32) (v3 : Int32) (v4 : Int32) (v5 : Int32) (v6 : Int32) (v7 : Int32) (I : zI) (L : zL) (h : f_X12_measure_224 k35 v1 v3 v4 v5 v6 v7 I L = some r) : zG p l e R s m args below meth c d cy B0 11 bc bs (zQ below s args d cy B0 bc bs (.inl none) zSH zKn bc bs r.1 r.2) 224 [(0, .ref (B0 + 97)), (1, .int v1), (3, .int v3), (4, .int v4), (5, .int v5), (6, .int v6), (7, .int v7)] [] zSH zKn bc bs I L := by
  unfold f_X12_measure_224 at h
  obtain ⟨x21, ex21, h⟩ := zlt_e h
  refine z_iinc C (j := 6) (v := x21) (lv' := [(7, .int x21), (0, .ref (B0 + 97)), (1, .int v1), (3, .int v3), (4, .int v4), (5, .int v5), (6, .int v6)]) rfl (by rw [ex21]; rfl) (by decide) rfl dX12_measure_224 ?_
  refine z_goto C 35 (by decide) dX12_measure_227 ?_
  refine z_lv [1, 2, 3, 4, 5, 6, 0] (lv' := [(0, .ref (B0 + 97)), (1, .int v1), (3, .int v3), (4, .int v4), (5, .int v5), (6, .int v6), (7, .int x21)]) rfl ?_
  exact hk35 v1 v3 v4 v5 v6 x21 I L h
set_option maxHeartbeats 4000000 in
set_option maxRecDepth 100000 in
theorem l_X12_measure_105 {r : zI × zL} (C : zC p l e R s m args below meth c s0 a0 d cy B0 yX12_measure.cls cX12_measure 11 none bc bs bc bs 2 46 []) (k35 : Int32 → Int32 → Int32 → Int32 → Int32 → Int32 → zI → zL → Option (zI × zL)) (hk35 : ∀ (v1 : Int32) (v3 : Int32) (v4 : Int32) (v5 : Int32) (v6 : Int32) (v7 : Int32) (I : zI) (L : zL), k35 v1 v3 v4 v5 v6 v7 I L = some r → zG p l e R s m args below meth c d cy B0 11 bc bs (zQ below s args d cy B0 bc bs (.inl none) zSH zKn bc bs r.1 r.2) 35 [(0, .ref (B0 + 97)), (1, .int v1), (3, .int v3), (4, .int v4), (5, .int v5), (6, .int v6), (7, .int v7)] [] zSH zKn bc bs I L) (k105 : Int32 → Int32 → Int32 → Int32 → Int32 → Int32 → Int32 → zI → zL → Option (zI × zL)) (hk105 : ∀ (v1 : Int32) (v3 : Int32) (v4 : Int32) (v5 : Int32) (v6 : Int32) (v7 : Int32) (v8 : Int32) (I : zI) (L : zL), k105 v1 v3 v4 v5 v6 v7 v8 I L = some r → zG p l e R s m args below meth c d cy B0 11 bc bs (zQ below s args d cy B0 bc bs (.inl none) zSH zKn bc bs r.1 r.2) 105 [(0, .ref (B0 + 97)), (1, .int v1), (3, .int v3), (4, .int v4), (5, .int v5), (6, .int v6), (7, .int v7), (8, .int v8)] [] zSH zKn bc bs I L) (v1 : Int32) (v3 : Int32) (v4 : Int32) (v5 : Int32) (v6 : Int32) (v7 : Int32) (v8 : Int32) (I : zI) (L : zL) (h : f_X12_measure_105 k35 k105 v1 v3 v4 v5 v6 v7 v8 I L = some r) : zG p l e R s m args below meth c d cy B0 11 bc bs (zQ below s args d cy B0 bc bs (.inl none) zSH zKn bc bs r.1 r.2) 105 [(0, .ref (B0 + 97)), (1, .int v1), (3, .int v3), (4, .int v4), (5, .int v5), (6, .int v6), (7, .int v7), (8, .int v8)] [] zSH zKn bc bs I L := by
  unfold f_X12_measure_105 at h
  refine z_iload C 7 rfl dX12_measure_105 ?_
  refine z_iconst C (v := 4) (by decide) dX12_measure_107 ?_
  refine z_icmp_ge C 224 (by decide) dX12_measure_108 (fun hc => ?_) (fun hc => ?_)
  · have h := zif_t hc h
    refine z_lv [0, 1, 2, 3, 4, 5, 6] (lv' := [(0, .ref (B0 + 97)), (1, .int v1), (3, .int v3), (4, .int v4), (5, .int v5), (6, .int v6), (7, .int v7)]) rfl ?_
    exact l_X12_measure_224 C k35 hk35 v1 v3 v4 v5 v6 v7 I L h
  · have h := zif_f hc h
    refine z_iload C 6 rfl dX12_measure_111 ?_
    refine z_iload C 7 rfl dX12_measure_113 ?_
    obtain ⟨x23, hg22, h⟩ := zb1_e h
    refine z_callS C dX12_measure_115 yy_X12_beside (c_X12_beside C.2.2.2.2.1  v7 v8 I L hg22) q_1473 q_1474 (by decide) (by decide) rfl rfl (Nat.le_of_ble_eq_true rfl) ⟨Nat.le_refl _, Nat.le_refl _, Nat.le_refl _, Nat.le_refl _⟩ ?_
    refine z_istore C (lv' := [(9, .int x23), (0, .ref (B0 + 97)), (1, .int v1), (3, .int v3), (4, .int v4), (5, .int v5), (6, .int v6), (7, .int v7), (8, .int v8)]) (by decide) rfl dX12_measure_118 ?_
    refine z_iload C 0 rfl dX12_measure_120 ?_
    refine z_iconst C (v := -1) (by decide) dX12_measure_122 ?_
    refine z_icmp_eq C 144 (by decide) dX12_measure_123 (fun hc => ?_) (fun hc => ?_)
    · have h := zif_t hc h
      refine z_lv [1, 2, 3, 4, 5, 6, 7, 8, 0] (lv' := [(0, .ref (B0 + 97)), (1, .int v1), (3, .int v3), (4, .int v4), (5, .int v5), (6, .int v6), (7, .int v7), (8, .int v8), (9, .int x23)]) rfl ?_
      exact l_X12_measure_144 C k35 hk35 k105 hk105 v1 v3 v4 v5 v6 v7 v8 x23 I L h
    · have h := zif_f hc h
      refine z_aload_n C rfl 1 rfl dX12_measure_126 ?_
      refine z_getr C zc_12 dX12_measure_127 32 97 119 rfl (by decide) (by decide) q_1201 rfl rfl ?_
      refine z_iload C 4 rfl dX12_measure_130 ?_
      refine z_iload C 0 rfl dX12_measure_132 ?_
      refine z_iadd C dX12_measure_134 ?_
      obtain ⟨x24, ex24, h⟩ := zlt_e h
      refine z_eqi C ex24 ?_
      obtain ⟨hb25, h⟩ := zck_e h
      refine z_iaload C dX12_measure_135 rfl rfl (by decide) (zbd_in hb25) ?_
      refine z_iload_n C rfl 3 rfl dX12_measure_136 ?_
      refine z_icmp_ne C 144 (by decide) dX12_measure_137 (fun hc => ?_) (fun hc => ?_)
      · have h := zif_f hc h
        refine z_lv [1, 2, 3, 4, 5, 6, 7, 8, 0] (lv' := [(0, .ref (B0 + 97)), (1, .int v1), (3, .int v3), (4, .int v4), (5, .int v5), (6, .int v6), (7, .int v7), (8, .int v8), (9, .int x23)]) rfl ?_
        exact l_X12_measure_144 C k35 hk35 k105 hk105 v1 v3 v4 v5 v6 v7 v8 x23 I L h
      · have h := zif_t hc h
        refine z_iconst C (v := 1) (by decide) dX12_measure_140 ?_
        refine z_goto C 145 (by decide) dX12_measure_141 ?_
        refine z_lv [1, 2, 3, 4, 5, 6, 7, 8, 0] (lv' := [(0, .ref (B0 + 97)), (1, .int v1), (3, .int v3), (4, .int v4), (5, .int v5), (6, .int v6), (7, .int v7), (8, .int v8), (9, .int x23)]) rfl ?_
        exact l_X12_measure_145 C k35 hk35 k105 hk105 v1 v3 v4 v5 v6 v7 v8 x23 (1 : Int32) I L h
set_option maxHeartbeats 4000000 in
set_option maxRecDepth 100000 in
theorem L_X12_measure_105 {r : zI × zL} (C : zC p l e R s m args below meth c s0 a0 d cy B0 yX12_measure.cls cX12_measure 11 none bc bs bc bs 2 46 []) (k35 : Int32 → Int32 → Int32 → Int32 → Int32 → Int32 → zI → zL → Option (zI × zL)) (hk35 : ∀ (v1 : Int32) (v3 : Int32) (v4 : Int32) (v5 : Int32) (v6 : Int32) (v7 : Int32) (I : zI) (L : zL), k35 v1 v3 v4 v5 v6 v7 I L = some r → zG p l e R s m args below meth c d cy B0 11 bc bs (zQ below s args d cy B0 bc bs (.inl none) zSH zKn bc bs r.1 r.2) 35 [(0, .ref (B0 + 97)), (1, .int v1), (3, .int v3), (4, .int v4), (5, .int v5), (6, .int v6), (7, .int v7)] [] zSH zKn bc bs I L) (v1 : Int32) (v3 : Int32) (v4 : Int32) (v5 : Int32) (v6 : Int32) (v7 : Int32) (v8 : Int32) (I : zI) (L : zL) (h : zlp9 (f_X12_measure_105 k35) zF v1 v3 v4 v5 v6 v7 v8 I L = some r) : zG p l e R s m args below meth c d cy B0 11 bc bs (zQ below s args d cy B0 bc bs (.inl none) zSH zKn bc bs r.1 r.2) 105 [(0, .ref (B0 + 97)), (1, .int v1), (3, .int v3), (4, .int v4), (5, .int v5), (6, .int v6), (7, .int v7), (8, .int v8)] [] zSH zKn bc bs I L :=
 zlp9_e (fun (v1 : Int32) (v3 : Int32) (v4 : Int32) (v5 : Int32) (v6 : Int32) (v7 : Int32) (v8 : Int32) (I : zI) (L : zL) => zG p l e R s m args below meth c d cy B0 11 bc bs (zQ below s args d cy B0 bc bs (.inl none) zSH zKn bc bs r.1 r.2) 105 [(0, .ref (B0 + 97)), (1, .int v1), (3, .int v3), (4, .int v4), (5, .int v5), (6, .int v6), (7, .int v7), (8, .int v8)] [] zSH zKn bc bs I L) (fun k9 hk9 v1 v3 v4 v5 v6 v7 v8 I L h => l_X12_measure_105 C k35 hk35 k9 hk9 v1 v3 v4 v5 v6 v7 v8 I L h) zF v1 v3 v4 v5 v6 v7 v8 I L h
set_option maxHeartbeats 4000000 in
set_option maxRecDepth 100000 in
theorem l_X12_measure_89 {r : zI × zL} (C : zC p l e R s m args below meth c s0 a0 d cy B0 yX12_measure.cls cX12_measure 11 none bc bs bc bs 2 46 []) (k35 : Int32 → Int32 → Int32 → Int32 → Int32 → Int32 → zI → zL → Option (zI × zL)) (hk35 : ∀ (v1 : Int32) (v3 : Int32) (v4 : Int32) (v5 : Int32) (v6 : Int32) (v7 : Int32) (I : zI) (L : zL), k35 v1 v3 v4 v5 v6 v7 I L = some r → zG p l e R s m args below meth c d cy B0 11 bc bs (zQ below s args d cy B0 bc bs (.inl none) zSH zKn bc bs r.1 r.2) 35 [(0, .ref (B0 + 97)), (1, .int v1), (3, .int v3), (4, .int v4), (5, .int v5), (6, .int v6), (7, .int v7)] [] zSH zKn bc bs I L) (v1 : Int32) (v3 : Int32) (v4 : Int32) (v5 : Int32) (v6 : Int32) (v7 : Int32) (w1 : Int32) (w2 : Int32) (I : zI) (L : zL) (h : f_X12_measure_89 k35 v1 v3 v4 v5 v6 v7 w1 w2 I L = some r) : zG p l e R s m args below meth c d cy B0 11 bc bs (zQ below s args d cy B0 bc bs (.inl none) zSH zKn bc bs r.1 r.2) 89 [(0, .ref (B0 + 97)), (1, .int v1), (3, .int v3), (4, .int v4), (5, .int v5), (6, .int v6), (7, .int v7)] [.int w2, .int w1, .ref (B0 + 126)] zSH zKn bc bs I L := by
  unfold f_X12_measure_89 at h
  obtain ⟨hb14, h⟩ := zck_e h
  refine z_iastore C dX12_measure_89 rfl rfl (by decide) (zbd_in hb14) ?_
  obtain ⟨I15, eI15, h⟩ := zlt_e h
  refine z_eqI C eI15 ?_
  refine z_aload_n C rfl 0 rfl dX12_measure_90 ?_
  refine z_getr C zc_12 dX12_measure_91 45 97 129 rfl (by decide) (by decide) q_1214 rfl rfl ?_
  refine z_iconst C (v := 3) (by decide) dX12_measure_94 ?_
  refine z_iload_n C rfl 1 rfl dX12_measure_95 ?_
  refine z_imul C dX12_measure_96 ?_
  obtain ⟨x16, ex16, h⟩ := zlt_e h
  refine z_eqi C ex16 ?_
  refine z_dup2_11 C rfl rfl dX12_measure_97 ?_
  obtain ⟨hb17, h⟩ := zck_e h
  refine z_laload C dX12_measure_98 rfl rfl (by decide) (zbd_in hb17) ?_
  refine z_lconst C (v := 1) (by decide) dX12_measure_99 ?_
  refine z_ladd C dX12_measure_100 ?_
  obtain ⟨x18, ex18, h⟩ := zlt_e h
  refine z_eql C ex18 ?_
  obtain ⟨hb19, h⟩ := zck_e h
  refine z_lastore C dX12_measure_101 rfl rfl (by decide) (zbd_in hb19) ?_
  obtain ⟨L20, eL20, h⟩ := zlt_e h
  refine z_eqL C eL20 ?_
  refine z_iconst C (v := 0) (by decide) dX12_measure_102 ?_
  refine z_istore C (lv' := [(8, .int (0 : Int32)), (0, .ref (B0 + 97)), (1, .int v1), (3, .int v3), (4, .int v4), (5, .int v5), (6, .int v6), (7, .int v7)]) (by decide) rfl dX12_measure_103 ?_
  refine z_lv [1, 2, 3, 4, 5, 6, 7, 0] (lv' := [(0, .ref (B0 + 97)), (1, .int v1), (3, .int v3), (4, .int v4), (5, .int v5), (6, .int v6), (7, .int v7), (8, .int (0 : Int32))]) rfl ?_
  exact L_X12_measure_105 C k35 hk35 v1 v3 v4 v5 v6 v7 (0 : Int32) I15 L20 h
set_option maxHeartbeats 4000000 in
set_option maxRecDepth 100000 in
theorem l_X12_measure_35 {r : zI × zL} (C : zC p l e R s m args below meth c s0 a0 d cy B0 yX12_measure.cls cX12_measure 11 none bc bs bc bs 2 46 []) (k35 : Int32 → Int32 → Int32 → Int32 → Int32 → Int32 → zI → zL → Option (zI × zL)) (hk35 : ∀ (v1 : Int32) (v3 : Int32) (v4 : Int32) (v5 : Int32) (v6 : Int32) (v7 : Int32) (I : zI) (L : zL), k35 v1 v3 v4 v5 v6 v7 I L = some r → zG p l e R s m args below meth c d cy B0 11 bc bs (zQ below s args d cy B0 bc bs (.inl none) zSH zKn bc bs r.1 r.2) 35 [(0, .ref (B0 + 97)), (1, .int v1), (3, .int v3), (4, .int v4), (5, .int v5), (6, .int v6), (7, .int v7)] [] zSH zKn bc bs I L) (v1 : Int32) (v3 : Int32) (v4 : Int32) (v5 : Int32) (v6 : Int32) (v7 : Int32) (I : zI) (L : zL) (h : f_X12_measure_35 k35 v1 v3 v4 v5 v6 v7 I L = some r) : zG p l e R s m args below meth c d cy B0 11 bc bs (zQ below s args d cy B0 bc bs (.inl none) zSH zKn bc bs r.1 r.2) 35 [(0, .ref (B0 + 97)), (1, .int v1), (3, .int v3), (4, .int v4), (5, .int v5), (6, .int v6), (7, .int v7)] [] zSH zKn bc bs I L := by
  unfold f_X12_measure_35 at h
  refine z_iload C 6 rfl dX12_measure_35 ?_
  refine z_sipush C (v := 4096) (by decide) dX12_measure_37 ?_
  refine z_icmp_ge C 230 (by decide) dX12_measure_40 (fun hc => ?_) (fun hc => ?_)
  · have h := zif_t hc h
    obtain rfl := Option.some.inj h
    exact z_vret C dX12_measure_230 rfl rfl
  · have h := zif_f hc h
    refine z_aload_n C rfl 0 rfl dX12_measure_43 ?_
    refine z_getr C zc_12 dX12_measure_44 32 97 119 rfl (by decide) (by decide) q_1201 rfl rfl ?_
    refine z_iload C 3 rfl dX12_measure_47 ?_
    refine z_iload C 6 rfl dX12_measure_49 ?_
    refine z_iadd C dX12_measure_51 ?_
    obtain ⟨x9, ex9, h⟩ := zlt_e h
    refine z_eqi C ex9 ?_
    obtain ⟨hb10, h⟩ := zck_e h
    refine z_iaload C dX12_measure_52 rfl rfl (by decide) (zbd_in hb10) ?_
    refine z_iload_n C rfl 2 rfl dX12_measure_53 ?_
    refine z_icmp_eq C 60 (by decide) dX12_measure_54 (fun hc => ?_) (fun hc => ?_)
    · have h := zif_t hc h
      refine z_aload_n C rfl 0 rfl dX12_measure_60 ?_
      refine z_getr C zc_12 dX12_measure_61 42 97 126 rfl (by decide) (by decide) q_1211 rfl rfl ?_
      refine z_iload_n C rfl 1 rfl dX12_measure_64 ?_
      refine z_aload_n C rfl 0 rfl dX12_measure_65 ?_
      refine z_getr C zc_12 dX12_measure_66 45 97 129 rfl (by decide) (by decide) q_1214 rfl rfl ?_
      refine z_iconst C (v := 3) (by decide) dX12_measure_69 ?_
      refine z_iload_n C rfl 1 rfl dX12_measure_70 ?_
      refine z_imul C dX12_measure_71 ?_
      obtain ⟨x11, ex11, h⟩ := zlt_e h
      refine z_eqi C ex11 ?_
      obtain ⟨hb12, h⟩ := zck_e h
      refine z_laload C dX12_measure_72 rfl rfl (by decide) (zbd_in hb12) ?_
      refine z_lconst C (v := 0) (by decide) dX12_measure_73 ?_
      refine z_lif_ne C 83 (by decide) dX12_measure_74 dX12_measure_75 (fun hc => ?_) (fun hc => ?_)
      · have h := zif_f hc h
        refine z_aload_n C rfl 0 rfl dX12_measure_83 ?_
        refine z_getr C zc_12 dX12_measure_84 42 97 126 rfl (by decide) (by decide) q_1211 rfl rfl ?_
        refine z_iload_n C rfl 1 rfl dX12_measure_87 ?_
        obtain ⟨hb13, h⟩ := zck_e h
        refine z_iaload C dX12_measure_88 rfl rfl (by decide) (zbd_in hb13) ?_
        exact l_X12_measure_89 C k35 hk35 v1 v3 v4 v5 v6 v7 v1 (I 126 v1.toNatClampNeg) I L h
      · have h := zif_t hc h
        refine z_iload C 6 rfl dX12_measure_78 ?_
        refine z_goto C 89 (by decide) dX12_measure_80 ?_
        exact l_X12_measure_89 C k35 hk35 v1 v3 v4 v5 v6 v7 v1 v7 I L h
    · have h := zif_f hc h
      refine z_goto C 224 (by decide) dX12_measure_57 ?_
      exact l_X12_measure_224 C k35 hk35 v1 v3 v4 v5 v6 v7 I L h
set_option maxHeartbeats 4000000 in
set_option maxRecDepth 100000 in
theorem L_X12_measure_35 {r : zI × zL} (C : zC p l e R s m args below meth c s0 a0 d cy B0 yX12_measure.cls cX12_measure 11 none bc bs bc bs 2 46 []) (v1 : Int32) (v3 : Int32) (v4 : Int32) (v5 : Int32) (v6 : Int32) (v7 : Int32) (I : zI) (L : zL) (h : zlp8 (f_X12_measure_35) zF v1 v3 v4 v5 v6 v7 I L = some r) : zG p l e R s m args below meth c d cy B0 11 bc bs (zQ below s args d cy B0 bc bs (.inl none) zSH zKn bc bs r.1 r.2) 35 [(0, .ref (B0 + 97)), (1, .int v1), (3, .int v3), (4, .int v4), (5, .int v5), (6, .int v6), (7, .int v7)] [] zSH zKn bc bs I L :=
 zlp8_e (fun (v1 : Int32) (v3 : Int32) (v4 : Int32) (v5 : Int32) (v6 : Int32) (v7 : Int32) (I : zI) (L : zL) => zG p l e R s m args below meth c d cy B0 11 bc bs (zQ below s args d cy B0 bc bs (.inl none) zSH zKn bc bs r.1 r.2) 35 [(0, .ref (B0 + 97)), (1, .int v1), (3, .int v3), (4, .int v4), (5, .int v5), (6, .int v6), (7, .int v7)] [] zSH zKn bc bs I L) (fun k9 hk9 v1 v3 v4 v5 v6 v7 I L h => l_X12_measure_35 C k9 hk9 v1 v3 v4 v5 v6 v7 I L h) zF v1 v3 v4 v5 v6 v7 I L h
set_option maxHeartbeats 4000000 in
set_option maxRecDepth 100000 in
theorem c_X12_measure {r : zI × zL} (hE : zE0 l s0 a0 d cy B0) (a1 : Int32) (a2 : Int32) (a3 : Int32) (I : zI) (L : zL) (h : f_X12_measure a1 a2 a3 I L = some r) : zM l s0 d cy B0 yX12_measure cX12_measure 11 none 2 46 [.ref (B0 + 97), .int a1, .int a2, .int a3] zSH zKn bc bs I L (.inl none) zSH zKn bc bs r.1 r.2 := by
  refine z_meth yy_X12_measure hE (Nat.le_of_ble_eq_true rfl) (fun p e R s m args below meth c C => ?_)
  show zG p l e R s m args below meth c d cy B0 11 bc bs (zQ below s args d cy B0 bc bs (.inl none) zSH zKn bc bs r.1 r.2) 0 [(0, .ref (B0 + 97)), (1, .int a1), (2, .int a2), (3, .int a3)] [] zSH zKn bc bs I L
  unfold f_X12_measure at h
  refine z_sipush C (v := 4096) (by decide) dX12_measure_0 ?_
  refine z_aload_n C rfl 0 rfl dX12_measure_3 ?_
  refine z_getr C zc_12 dX12_measure_4 25 97 114 rfl (by decide) (by decide) q_1194 rfl rfl ?_
  refine z_iload_n C rfl 2 rfl dX12_measure_7 ?_
  obtain ⟨hb1, h⟩ := zck_e h
  refine z_iaload C dX12_measure_8 rfl rfl (by decide) (zbd_in hb1) ?_
  refine z_imul C dX12_measure_9 ?_
  obtain ⟨x2, ex2, h⟩ := zlt_e h
  refine z_eqi C ex2 ?_
  refine z_istore C (lv' := [(4, .int x2), (0, .ref (B0 + 97)), (1, .int a1), (2, .int a2), (3, .int a3)]) (by decide) rfl dX12_measure_10 ?_
  refine z_aload_n C rfl 1 rfl dX12_measure_12 ?_
  refine z_getr C zc_12 dX12_measure_13 27 97 116 rfl (by decide) (by decide) q_1196 rfl rfl ?_
  refine z_iconst C (v := 4) (by decide) dX12_measure_16 ?_
  refine z_iload_n C rfl 3 rfl dX12_measure_17 ?_
  refine z_imul C dX12_measure_18 ?_
  obtain ⟨x3, ex3, h⟩ := zlt_e h
  refine z_eqi C ex3 ?_
  obtain ⟨hb4, h⟩ := zck_e h
  refine z_iaload C dX12_measure_19 rfl rfl (by decide) (zbd_in hb4) ?_
  obtain ⟨x5, ex5, h⟩ := zlt_e h
  refine z_eqi C ex5 ?_
  refine z_istore C (lv' := [(5, .int x5), (4, .int x2), (0, .ref (B0 + 97)), (1, .int a1), (2, .int a2), (3, .int a3)]) (by decide) rfl dX12_measure_20 ?_
  refine z_aload_n C rfl 2 rfl dX12_measure_22 ?_
  refine z_getr C zc_12 dX12_measure_23 44 97 128 rfl (by decide) (by decide) q_1213 rfl rfl ?_
  refine z_iconst C (v := 4) (by decide) dX12_measure_26 ?_
  refine z_iload_n C rfl 3 rfl dX12_measure_27 ?_
  refine z_imul C dX12_measure_28 ?_
  obtain ⟨x6, ex6, h⟩ := zlt_e h
  refine z_eqi C ex6 ?_
  obtain ⟨hb7, h⟩ := zck_e h
  refine z_iaload C dX12_measure_29 rfl rfl (by decide) (zbd_in hb7) ?_
  obtain ⟨x8, ex8, h⟩ := zlt_e h
  refine z_eqi C ex8 ?_
  refine z_istore C (lv' := [(6, .int x8), (5, .int x5), (4, .int x2), (0, .ref (B0 + 97)), (1, .int a1), (2, .int a2), (3, .int a3)]) (by decide) rfl dX12_measure_30 ?_
  refine z_iconst C (v := 0) (by decide) dX12_measure_32 ?_
  refine z_istore C (lv' := [(7, .int (0 : Int32)), (6, .int x8), (5, .int x5), (4, .int x2), (0, .ref (B0 + 97)), (1, .int a1), (2, .int a2), (3, .int a3)]) (by decide) rfl dX12_measure_33 ?_
  refine z_lv [4, 5, 7, 3, 2, 1, 0] (lv' := [(0, .ref (B0 + 97)), (1, .int a1), (3, .int a3), (4, .int x2), (5, .int x5), (6, .int x8), (7, .int (0 : Int32))]) rfl ?_
  exact L_X12_measure_35 C  a1 a3 x2 x5 x8 (0 : Int32) I L h
end Zp05_20_walk
