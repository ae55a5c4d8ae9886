section Zp05_17_walk
variable {p : Program} {l : Launch} {e : Env} {R : Room} {s : State} {m : MethodId} {args : Array Value} {below : List Frame} {meth : Method} {c : Code} {s0 : State} {a0 : Array Value} {d : va_G} {cy : Nat → ClassId} {B0 : Nat} {bc bs : Nat}
theorem q_1431 : (Cond.code ({ cls := "DeviceFindModel", name := "readWire", desc := "()V" } : Jvm.MethodName) prog_14_method_25_code (4 : Nat) (Option.none : Option Jvm.ClassFile.FieldType)) ∈ lw_tbl := List.mem_of_getElem? (i := 1431) (by decide +kernel)
theorem yy_X12_readWire : zY yX12_readWire cX12_readWire 4 none 0 := ⟨q_1431, q_88, by decide +kernel, by decide +kernel, by decide +kernel⟩
noncomputable def f_X12_readWire_66 (k36 : Int32 → Int32 → Int32 → zI → zL → Option zI) (v1 : Int32) (v3 : Int32) (w0 : Int32) (I : zI) (L : zL) : Option zI :=
  zlt (v3 + 1) (fun x18 => k36 v1 w0 x18 I L)
noncomputable def f_X12_readWire_65 (k36 : Int32 → Int32 → Int32 → zI → zL → Option zI) (v1 : Int32) (v3 : Int32) (I : zI) (L : zL) : Option zI :=
  f_X12_readWire_66 k36 v1 v3 (0 : Int32) I L
noncomputable def f_X12_readWire_118 (I : zI) (L : zL) : Option zI :=
  some I
noncomputable def f_X12_readWire_36 (k36 : Int32 → Int32 → Int32 → zI → zL → Option zI) (v1 : Int32) (v2 : Int32) (v3 : Int32) (I : zI) (L : zL) : Option zI :=
  if (I 97 51) ≤ v3 then (zb1 (f_X12_take v2 I) (fun I6 => zb1 (f_X12_is (59 : Int32) I6) (fun x8 => zb1 (f_X12_take x8 I6) (fun I10 => if (I10 97 49) = 0 then (f_X12_readWire_118 I10 L) else (zlt ((8 : Int32) + (I10 97 51)) (fun x11 => zck (zbd x11 16) (zlt (zu I10 109 x11.toNatClampNeg v1) (fun I13 => zlt ((I13 97 51) + (1 : Int32)) (fun x14 => zlt (zu I13 97 51 x14) (fun I15 => f_X12_readWire_118 I15 L)))))))))) else (if v2 = 0 then (f_X12_readWire_65 k36 v1 v3 I L) else (zlt ((8 : Int32) + v3) (fun x16 => zck (zbd x16 16) (if (I 109 x16.toNatClampNeg) = v1 then (f_X12_readWire_65 k36 v1 v3 I L) else (f_X12_readWire_66 k36 v1 v3 (1 : Int32) I L)))))
noncomputable def f_X12_readWire_33 (v1 : Int32) (w0 : Int32) (I : zI) (L : zL) : Option zI :=
  zlp5 (f_X12_readWire_36) zF v1 w0 (0 : Int32) I L
noncomputable def f_X12_readWire_15 (w1 : Int32) (I : zI) (L : zL) : Option zI :=
  zb1 (f_X12_take w1 I) (fun I2 => zb1 (f_X12_layerAt I2 L) (fun x4 => if x4 = (-1 : Int32) then (f_X12_readWire_33 x4 (0 : Int32) I2 L) else (f_X12_readWire_33 x4 (1 : Int32) I2 L)))
noncomputable def f_X12_readWire (I : zI) (L : zL) : Option zI :=
  if (8 : Int32) ≤ (I 97 51) then (f_X12_readWire_15 (0 : Int32) I L) else (f_X12_readWire_15 (1 : Int32) I L)
set_option maxHeartbeats 4000000 in
set_option maxRecDepth 100000 in
theorem l_X12_readWire_66 {r : zI} (C : zC p l e R s m args below meth c s0 a0 d cy B0 yX12_readWire.cls cX12_readWire 4 none bc bs bc bs 3 67 []) (k36 : Int32 → Int32 → Int32 → zI → zL → Option zI) (hk36 : ∀ (v1 : Int32) (v2 : Int32) (v3 : Int32) (I : zI) (L : zL), k36 v1 v2 v3 I L = some r → zG p l e R s m args below meth c d cy B0 4 bc bs (zQ below s args d cy B0 bc bs (.inl none) zSH zKn bc bs r L) 36 [(0, .ref (B0 + 97)), (1, .int v1), (2, .int v2), (3, .int v3)] [] zSH zKn bc bs I L) (v1 : Int32) (v3 : Int32) (w0 : Int32) (I : zI) (L : zL) (h : f_X12_readWire_66 k36 v1 v3 w0 I L = some r) : zG p l e R s m args below meth c d cy B0 4 bc bs (zQ below s args d cy B0 bc bs (.inl none) zSH zKn bc bs r L) 66 [(0, .ref (B0 + 97)), (1, .int v1), (3, .int v3)] [.int w0] zSH zKn bc bs I L := by
  unfold f_X12_readWire_66 at h
  refine z_istore_n C (lv' := [(2, .int w0), (0, .ref (B0 + 97)), (1, .int v1), (3, .int v3)]) rfl (by decide) rfl dX12_readWire_66 ?_
  obtain ⟨x18, ex18, h⟩ := zlt_e h
  refine z_iinc C (j := 3) (v := x18) (lv' := [(3, .int x18), (2, .int w0), (0, .ref (B0 + 97)), (1, .int v1)]) rfl (by rw [ex18]; rfl) (by decide) rfl dX12_readWire_67 ?_
  refine z_goto C 36 (by decide) dX12_readWire_70 ?_
  refine z_lv [2, 3, 1, 0] (lv' := [(0, .ref (B0 + 97)), (1, .int v1), (2, .int w0), (3, .int x18)]) rfl ?_
  exact hk36 v1 w0 x18 I L h
set_option maxHeartbeats 4000000 in
set_option maxRecDepth 100000 in
theorem l_X12_readWire_65 {r : zI} (C : zC p l e R s m args below meth c s0 a0 d cy B0 yX12_readWire.cls cX12_readWire 4 none bc bs bc bs 3 67 []) (k36 : Int32 → Int32 → Int32 → zI → zL → Option zI) (hk36 : ∀ (v1 : Int32) (v2 : Int32) (v3 : Int32) (I : zI) (L : zL), k36 v1 v2 v3 I L = some r → zG p l e R s m args below meth c d cy B0 4 bc bs (zQ below s args d cy B0 bc bs (.inl none) zSH zKn bc bs r L) 36 [(0, .ref (B0 + 97)), (1, .int v1), (2, .int v2), (3, .int v3)] [] zSH zKn bc bs I L) (v1 : Int32) (v3 : Int32) (I : zI) (L : zL) (h : f_X12_readWire_65 k36 v1 v3 I L = some r) : zG p l e R s m args below meth c d cy B0 4 bc bs (zQ below s args d cy B0 bc bs (.inl none) zSH zKn bc bs r L) 65 [(0, .ref (B0 + 97)), (1, .int v1), (3, .int v3)] [] zSH zKn bc bs I L := by
  unfold f_X12_readWire_65 at h
  refine z_iconst C (v := 0) (by decide) dX12_readWire_65 ?_
  exact l_X12_readWire_66 C k36 hk36 v1 v3 (0 : Int32) I L h
set_option maxHeartbeats 4000000 in
set_option maxRecDepth 100000 in
theorem l_X12_readWire_118 {r : zI} (C : zC p l e R s m args below meth c s0 a0 d cy B0 yX12_readWire.cls cX12_readWire 4 none bc bs bc bs 3 67 []) (I : zI) (L : zL) (h : f_X12_readWire_118 I L = some r) : zG p l e R s m args below meth c d cy B0 4 bc bs (zQ below s args d cy B0 bc bs (.inl none) zSH zKn bc bs r L) 118 [] [] zSH zKn bc bs I L := by
  unfold f_X12_readWire_118 at h
  obtain rfl := Option.some.inj h
  exact z_vret C dX12_readWire_118 rfl rfl
set_option maxHeartbeats 4000000 in
set_option maxRecDepth 100000 in
theorem l_X12_readWire_36 {r : zI} (C : zC p l e R s m args below meth c s0 a0 d cy B0 yX12_readWire.cls cX12_readWire 4 none bc bs bc bs 3 67 []) (k36 : Int32 → Int32 → Int32 → zI → zL → Option zI) (hk36 : ∀ (v1 : Int32) (v2 : Int32) (v3 : Int32) (I : zI) (L : zL), k36 v1 v2 v3 I L = some r → zG p l e R s m args below meth c d cy B0 4 bc bs (zQ below s args d cy B0 bc bs (.inl none) zSH zKn bc bs r L) 36 [(0, .ref (B0 + 97)), (1, .int v1), (2, .int v2), (3, .int v3)] [] zSH zKn bc bs I L) (v1 : Int32) (v2 : Int32) (v3 : Int32) (I : zI) (L : zL) (h : f_X12_readWire_36 k36 v1 v2 v3 I L = some r) : zG p l e R s m args below meth c d cy B0 4 bc bs (zQ below s args d cy B0 bc bs (.inl none) zSH zKn bc bs r L) 36 [(0, .ref (B0 + 97)), (1, .int v1), (2, .int v2), (3, .int v3)] [] zSH zKn bc bs I L := by
  unfold f_X12_readWire_36 at h
  refine z_iload_n C rfl 3 rfl dX12_readWire_36 ?_
  refine z_aload_n C rfl 0 rfl dX12_readWire_37 ?_
  refine z_geti C zc_12 dX12_readWire_38 51 97 rfl (by decide) (by decide) q_1220 rfl ?_
  refine z_icmp_ge C 73 (by decide) dX12_readWire_41 (fun hc => ?_) (fun hc => ?_)
  · have h := zif_t hc h
    refine z_aload_n C rfl 0 rfl dX12_readWire_73 ?_
    refine z_iload_n C rfl 2 rfl dX12_readWire_74 ?_
    obtain ⟨I6, hg5, h⟩ := zb1_e h
    refine z_callV C zc_12 rfl (by decide) dX12_readWire_75 yy_X12_take (c_X12_take C.2.2.2.2.1  v2 I L hg5) q_1404 q_1406 q_48 (by decide) (by decide) rfl rfl (Nat.le_of_ble_eq_true rfl) ⟨Nat.le_refl _, Nat.le_refl _, Nat.le_refl _, Nat.le_refl _⟩ ?_
    refine z_aload_n C rfl 0 rfl dX12_readWire_78 ?_
    refine z_aload_n C rfl 0 rfl dX12_readWire_79 ?_
    refine z_bipush C (v := 59) (by decide) dX12_readWire_80 ?_
    obtain ⟨x8, hg7, h⟩ := zb1_e h
    refine z_callV C zc_12 rfl (by decide) dX12_readWire_82 yy_X12_is (c_X12_is C.2.2.2.2.1  (59 : Int32) I6 L hg7) q_1416 q_1418 q_51 (by decide) (by decide) rfl rfl (Nat.le_of_ble_eq_true rfl) ⟨Nat.le_refl _, Nat.le_refl _, Nat.le_refl _, Nat.le_refl _⟩ ?_
    obtain ⟨I10, hg9, h⟩ := zb1_e h
    refine z_callV C zc_12 rfl (by decide) dX12_readWire_85 yy_X12_take (c_X12_take C.2.2.2.2.1  x8 I6 L hg9) q_1404 q_1406 q_48 (by decide) (by decide) rfl rfl (Nat.le_of_ble_eq_true rfl) ⟨Nat.le_refl _, Nat.le_refl _, Nat.le_refl _, Nat.le_refl _⟩ ?_
    refine z_aload_n C rfl 0 rfl dX12_readWire_88 ?_
    refine z_geti C zc_12 dX12_readWire_89 49 97 rfl (by decide) (by decide) q_1218 rfl ?_
    refine z_if_eq C 118 (by decide) dX12_readWire_92 (fun hc => ?_) (fun hc => ?_)
    · have h := zif_t hc h
      refine z_lv [] (lv' := []) rfl ?_
      exact l_X12_readWire_118 C  I10 L h
    · have h := zif_f hc h
      refine z_aload_n C rfl 0 rfl dX12_readWire_95 ?_
      refine z_getr C zc_12 dX12_readWire_96 20 97 109 rfl (by decide) (by decide) q_1189 rfl rfl ?_
      refine z_bipush C (v := 8) (by decide) dX12_readWire_99 ?_
      refine z_aload_n C rfl 0 rfl dX12_readWire_101 ?_
      refine z_geti C zc_12 dX12_readWire_102 51 97 rfl (by decide) (by decide) q_1220 rfl ?_
      refine z_iadd C dX12_readWire_105 ?_
      obtain ⟨x11, ex11, h⟩ := zlt_e h
      refine z_eqi C ex11 ?_
      refine z_iload_n C rfl 1 rfl dX12_readWire_106 ?_
      obtain ⟨hb12, h⟩ := zck_e h
      refine z_iastore C dX12_readWire_107 rfl rfl (by decide) (zbd_in hb12) ?_
      obtain ⟨I13, eI13, h⟩ := zlt_e h
      refine z_eqI C eI13 ?_
      refine z_aload_n C rfl 0 rfl dX12_readWire_108 ?_
      refine z_dup C rfl dX12_readWire_109 ?_
      refine z_geti C zc_12 dX12_readWire_110 51 97 rfl (by decide) (by decide) q_1220 rfl ?_
      refine z_iconst C (v := 1) (by decide) dX12_readWire_113 ?_
      refine z_iadd C dX12_readWire_114 ?_
      obtain ⟨x14, ex14, h⟩ := zlt_e h
      refine z_eqi C ex14 ?_
      refine z_puti C zc_12 dX12_readWire_115 51 97 rfl (by decide) (by decide) rfl q_1220 rfl rfl rfl ?_
      obtain ⟨I15, eI15, h⟩ := zlt_e h
      refine z_eqI C eI15 ?_
      refine z_lv [] (lv' := []) rfl ?_
      exact l_X12_readWire_118 C  I15 L h
  · have h := zif_f hc h
    refine z_iload_n C rfl 2 rfl dX12_readWire_44 ?_
    refine z_if_eq C 65 (by decide) dX12_readWire_45 (fun hc => ?_) (fun hc => ?_)
    · have h := zif_t hc h
      refine z_lv [0, 1, 3] (lv' := [(0, .ref (B0 + 97)), (1, .int v1), (3, .int v3)]) rfl ?_
      exact l_X12_readWire_65 C k36 hk36 v1 v3 I L h
    · have h := zif_f hc h
      refine z_aload_n C rfl 0 rfl dX12_readWire_48 ?_
      refine z_getr C zc_12 dX12_readWire_49 20 97 109 rfl (by decide) (by decide) q_1189 rfl rfl ?_
      refine z_bipush C (v := 8) (by decide) dX12_readWire_52 ?_
      refine z_iload_n C rfl 3 rfl dX12_readWire_54 ?_
      refine z_iadd C dX12_readWire_55 ?_
      obtain ⟨x16, ex16, h⟩ := zlt_e h
      refine z_eqi C ex16 ?_
      obtain ⟨hb17, h⟩ := zck_e h
      refine z_iaload C dX12_readWire_56 rfl rfl (by decide) (zbd_in hb17) ?_
      refine z_iload_n C rfl 1 rfl dX12_readWire_57 ?_
      refine z_icmp_eq C 65 (by decide) dX12_readWire_58 (fun hc => ?_) (fun hc => ?_)
      · have h := zif_t hc h
        refine z_lv [0, 1, 3] (lv' := [(0, .ref (B0 + 97)), (1, .int v1), (3, .int v3)]) rfl ?_
        exact l_X12_readWire_65 C k36 hk36 v1 v3 I L h
      · have h := zif_f hc h
        refine z_iconst C (v := 1) (by decide) dX12_readWire_61 ?_
        refine z_goto C 66 (by decide) dX12_readWire_62 ?_
        refine z_lv [0, 1, 3] (lv' := [(0, .ref (B0 + 97)), (1, .int v1), (3, .int v3)]) rfl ?_
        exact l_X12_readWire_66 C k36 hk36 v1 v3 (1 : Int32) I L h
set_option maxHeartbeats 4000000 in
set_option maxRecDepth 100000 in
theorem L_X12_readWire_36 {r : zI} (C : zC p l e R s m args below meth c s0 a0 d cy B0 yX12_readWire.cls cX12_readWire 4 none bc bs bc bs 3 67 []) (v1 : Int32) (v2 : Int32) (v3 : Int32) (I : zI) (L : zL) (h : zlp5 (f_X12_readWire_36) zF v1 v2 v3 I L = some r) : zG p l e R s m args below meth c d cy B0 4 bc bs (zQ below s args d cy B0 bc bs (.inl none) zSH zKn bc bs r L) 36 [(0, .ref (B0 + 97)), (1, .int v1), (2, .int v2), (3, .int v3)] [] zSH zKn bc bs I L :=
 zlp5_e (fun (v1 : Int32) (v2 : Int32) (v3 : Int32) (I : zI) (L : zL) => zG p l e R s m args below meth c d cy B0 4 bc bs (zQ below s args d cy B0 bc bs (.inl none) zSH zKn bc bs r L) 36 [(0, .ref (B0 + 97)), (1, .int v1), (2, .int v2), (3, .int v3)] [] zSH zKn bc bs I L) (fun k9 hk9 v1 v2 v3 I L h => l_X12_readWire_36 C k9 hk9 v1 v2 v3 I L h) zF v1 v2 v3 I L h
set_option maxHeartbeats 4000000 in
set_option maxRecDepth 100000 in
theorem l_X12_readWire_33 {r : zI} (C : zC p l e R s m args below meth c s0 a0 d cy B0 yX12_readWire.cls cX12_readWire 4 none bc bs bc bs 3 67 []) (v1 : Int32) (w0 : Int32) (I : zI) (L : zL) (h : f_X12_readWire_33 v1 w0 I L = some r) : zG p l e R s m args below meth c d cy B0 4 bc bs (zQ below s args d cy B0 bc bs (.inl none) zSH zKn bc bs r L) 33 [(0, .ref (B0 + 97)), (1, .int v1)] [.int w0] zSH zKn bc bs I L := by
  unfold f_X12_readWire_33 at h
  refine z_istore_n C (lv' := [(2, .int w0), (0, .ref (B0 + 97)), (1, .int v1)]) rfl (by decide) rfl dX12_readWire_33 ?_
  refine z_iconst C (v := 0) (by decide) dX12_readWire_34 ?_
  refine z_istore_n C (lv' := [(3, .int (0 : Int32)), (2, .int w0), (0, .ref (B0 + 97)), (1, .int v1)]) rfl (by decide) rfl dX12_readWire_35 ?_
  refine z_lv [2, 3, 1, 0] (lv' := [(0, .ref (B0 + 97)), (1, .int v1), (2, .int w0), (3, .int (0 : Int32))]) rfl ?_
  exact L_X12_readWire_36 C  v1 w0 (0 : Int32) I L h
set_option maxHeartbeats 4000000 in
set_option maxRecDepth 100000 in
theorem l_X12_readWire_15 {r : zI} (C : zC p l e R s m args below meth c s0 a0 d cy B0 yX12_readWire.cls cX12_readWire 4 none bc bs bc bs 3 67 []) (w1 : Int32) (I : zI) (L : zL) (h : f_X12_readWire_15 w1 I L = some r) : zG p l e R s m args below meth c d cy B0 4 bc bs (zQ below s args d cy B0 bc bs (.inl none) zSH zKn bc bs r L) 15 [(0, .ref (B0 + 97))] [.int w1, .ref (B0 + 97)] zSH zKn bc bs I L := by
  unfold f_X12_readWire_15 at h
  obtain ⟨I2, hg1, h⟩ := zb1_e h
  refine z_callV C zc_12 rfl (by decide) dX12_readWire_15 yy_X12_take (c_X12_take C.2.2.2.2.1  w1 I L hg1) q_1404 q_1406 q_48 (by decide) (by decide) rfl rfl (Nat.le_of_ble_eq_true rfl) ⟨Nat.le_refl _, Nat.le_refl _, Nat.le_refl _, Nat.le_refl _⟩ ?_
  refine z_aload_n C rfl 0 rfl dX12_readWire_18 ?_
  obtain ⟨x4, hg3, h⟩ := zb1_e h
  refine z_callV C zc_12 rfl (by decide) dX12_readWire_19 yy_X12_layerAt (c_X12_layerAt C.2.2.2.2.1  I2 L hg3) q_1412 q_1414 q_50 (by decide) (by decide) rfl rfl (Nat.le_of_ble_eq_true rfl) ⟨Nat.le_refl _, Nat.le_refl _, Nat.le_refl _, Nat.le_refl _⟩ ?_
  refine z_istore_n C (lv' := [(1, .int x4), (0, .ref (B0 + 97))]) rfl (by decide) rfl dX12_readWire_22 ?_
  refine z_iload_n C rfl 0 rfl dX12_readWire_23 ?_
  refine z_iconst C (v := -1) (by decide) dX12_readWire_24 ?_
  refine z_icmp_eq C 32 (by decide) dX12_readWire_25 (fun hc => ?_) (fun hc => ?_)
  · have h := zif_t hc h
    refine z_iconst C (v := 0) (by decide) dX12_readWire_32 ?_
    refine z_lv [1, 0] (lv' := [(0, .ref (B0 + 97)), (1, .int x4)]) rfl ?_
    exact l_X12_readWire_33 C  x4 (0 : Int32) I2 L h
  · have h := zif_f hc h
    refine z_iconst C (v := 1) (by decide) dX12_readWire_28 ?_
    refine z_goto C 33 (by decide) dX12_readWire_29 ?_
    refine z_lv [1, 0] (lv' := [(0, .ref (B0 + 97)), (1, .int x4)]) rfl ?_
    exact l_X12_readWire_33 C  x4 (1 : Int32) I2 L h
set_option maxHeartbeats 4000000 in
set_option maxRecDepth 100000 in
theorem c_X12_readWire {r : zI} (hE : zE0 l s0 a0 d cy B0) (I : zI) (L : zL) (h : f_X12_readWire I L = some r) : zM l s0 d cy B0 yX12_readWire cX12_readWire 4 none 3 67 [.ref (B0 + 97)] zSH zKn bc bs I L (.inl none) zSH zKn bc bs r L := by
  refine z_meth yy_X12_readWire hE (Nat.le_of_ble_eq_true rfl) (fun p e R s m args below meth c C => ?_)
  show zG p l e R s m args below meth c d cy B0 4 bc bs (zQ below s args d cy B0 bc bs (.inl none) zSH zKn bc bs r L) 0 [(0, .ref (B0 + 97))] [] zSH zKn bc bs I L
  unfold f_X12_readWire at h
  refine z_aload_n C rfl 0 rfl dX12_readWire_0 ?_
  refine z_aload_n C rfl 0 rfl dX12_readWire_1 ?_
  refine z_geti C zc_12 dX12_readWire_2 51 97 rfl (by decide) (by decide) q_1220 rfl ?_
  refine z_bipush C (v := 8) (by decide) dX12_readWire_5 ?_
  refine z_icmp_ge C 14 (by decide) dX12_readWire_7 (fun hc => ?_) (fun hc => ?_)
  · have h := zif_t hc h
    refine z_iconst C (v := 0) (by decide) dX12_readWire_14 ?_
    exact l_X12_readWire_15 C  (0 : Int32) I L h
  · have h := zif_f hc h
    refine z_iconst C (v := 1) (by decide) dX12_readWire_10 ?_
    refine z_goto C 15 (by decide) dX12_readWire_11 ?_
    exact l_X12_readWire_15 C  (1 : Int32) I L h
theorem q_56 : Cond.selects "DeviceFindModel" ⟨"DeviceFindModel", "takeWire", "()I"⟩ ⟨"DeviceFindModel", "takeWire", "()I"⟩ ∈ lw_tbl := List.mem_of_getElem? (i := 56) (by decide +kernel)
theorem q_1190 : (Cond.fieldLink "DeviceFindModel" (47 : Nat) "DeviceFindModel" "joinA" "[I") ∈ lw_tbl := List.mem_of_getElem? (i := 1190) (by decide +kernel)
theorem q_1191 : (Cond.fieldLink "DeviceFindModel" (50 : Nat) "DeviceFindModel" "joinB" "[I") ∈ lw_tbl := List.mem_of_getElem? (i := 1191) (by decide +kernel)
theorem q_1192 : (Cond.fieldLink "DeviceFindModel" (53 : Nat) "DeviceFindModel" "joinBy" "[I") ∈ lw_tbl := List.mem_of_getElem? (i := 1192) (by decide +kernel)
theorem q_1221 : (Cond.fieldLink "DeviceFindModel" (205 : Nat) "DeviceFindModel" "newJoins" "I") ∈ lw_tbl := List.mem_of_getElem? (i := 1221) (by decide +kernel)
theorem q_1435 : (Cond.code ({ cls := "DeviceFindModel", name := "readJoin", desc := "()V" } : Jvm.MethodName) prog_14_method_26_code (4 : Nat) (Option.none : Option Jvm.ClassFile.FieldType)) ∈ lw_tbl := List.mem_of_getElem? (i := 1435) (by decide +kernel)
theorem q_1436 : (Cond.methodLink "DeviceFindModel" (208 : Nat) ({ cls := "DeviceFindModel", name := "takeWire", desc := "()I" } : Jvm.MethodName)) ∈ lw_tbl := List.mem_of_getElem? (i := 1436) (by decide +kernel)
theorem q_1438 : (Cond.instanceMethod ({ cls := "DeviceFindModel", name := "takeWire", desc := "()I" } : Jvm.MethodName)) ∈ lw_tbl := List.mem_of_getElem? (i := 1438) (by decide +kernel)
theorem yy_X12_readJoin : zY yX12_readJoin cX12_readJoin 4 none 0 := ⟨q_1435, q_88, by decide +kernel, by decide +kernel, by decide +kernel⟩
noncomputable def f_X12_readJoin_126 (I : zI) (L : zL) : Option zI :=
  some I
noncomputable def f_X12_readJoin_52 (v1 : Int32) (v2 : Int32) (w1 : Int32) (I : zI) (L : zL) : Option zI :=
  zb1 (f_X12_take w1 I) (fun I14 => zb2 (f_X12_takeLayer I14 L) (fun x16 I17 => zb1 (f_X12_is (59 : Int32) I17) (fun x19 => zb1 (f_X12_take x19 I17) (fun I21 => if (I21 97 49) = 0 then (f_X12_readJoin_126 I21 L) else (zlt ((16 : Int32) + (I21 97 52)) (fun x22 => zck (zbd x22 32) (zlt (zu I21 110 x22.toNatClampNeg v1) (fun I24 => zlt ((16 : Int32) + (I24 97 52)) (fun x25 => zck (zbd x25 32) (zlt (zu I24 111 x25.toNatClampNeg v2) (fun I27 => zlt ((16 : Int32) + (I27 97 52)) (fun x28 => zck (zbd x28 32) (zlt (zu I27 112 x28.toNatClampNeg x16) (fun I30 => zlt ((I30 97 52) + (1 : Int32)) (fun x31 => zlt (zu I30 97 52 x31) (fun I32 => f_X12_readJoin_126 I32 L))))))))))))))))
noncomputable def f_X12_readJoin_15 (w1 : Int32) (I : zI) (L : zL) : Option zI :=
  zb1 (f_X12_take w1 I) (fun I2 => zb2 (f_X12_takeWire I2 L) (fun x4 I5 => zb2 (f_X12_takeWire I5 L) (fun x7 I8 => zb1 (f_X12_name I8) (fun x10 => zb1 (f_X12_word (98 : Int32) (121 : Int32) (0 : Int32) (0 : Int32) (0 : Int32)) (fun x12 => if x10 = x12 then (f_X12_readJoin_52 x4 x7 (1 : Int32) I8 L) else (f_X12_readJoin_52 x4 x7 (0 : Int32) I8 L))))))
noncomputable def f_X12_readJoin (I : zI) (L : zL) : Option zI :=
  if (16 : Int32) ≤ (I 97 52) then (f_X12_readJoin_15 (0 : Int32) I L) else (f_X12_readJoin_15 (1 : Int32) I L)
set_option maxHeartbeats 4000000 in
set_option maxRecDepth 100000 in
theorem l_X12_readJoin_126 {r : zI} (C : zC p l e R s m args below meth c s0 a0 d cy B0 yX12_readJoin.cls cX12_readJoin 4 none bc bs bc bs 4 90 []) (I : zI) (L : zL) (h : f_X12_readJoin_126 I L = some r) : zG p l e R s m args below meth c d cy B0 4 bc bs (zQ below s args d cy B0 bc bs (.inl none) zSH zKn bc bs r L) 126 [] [] zSH zKn bc bs I L := by
  unfold f_X12_readJoin_126 at h
  obtain rfl := Option.some.inj h
  exact z_vret C dX12_readJoin_126 rfl rfl
set_option maxHeartbeats 4000000 in
set_option maxRecDepth 100000 in
theorem l_X12_readJoin_52 {r : zI} (C : zC p l e R s m args below meth c s0 a0 d cy B0 yX12_readJoin.cls cX12_readJoin 4 none bc bs bc bs 4 90 []) (v1 : Int32) (v2 : Int32) (w1 : Int32) (I : zI) (L : zL) (h : f_X12_readJoin_52 v1 v2 w1 I L = some r) : zG p l e R s m args below meth c d cy B0 4 bc bs (zQ below s args d cy B0 bc bs (.inl none) zSH zKn bc bs r L) 52 [(0, .ref (B0 + 97)), (1, .int v1), (2, .int v2)] [.int w1, .ref (B0 + 97)] zSH zKn bc bs I L := by
  unfold f_X12_readJoin_52 at h
  obtain ⟨I14, hg13, h⟩ := zb1_e h
  refine z_callV C zc_12 rfl (by decide) dX12_readJoin_52 yy_X12_take (c_X12_take C.2.2.2.2.1  w1 I L hg13) q_1404 q_1406 q_48 (by decide) (by decide) rfl rfl (Nat.le_of_ble_eq_true rfl) ⟨Nat.le_refl _, Nat.le_refl _, Nat.le_refl _, Nat.le_refl _⟩ ?_
  refine z_aload_n C rfl 0 rfl dX12_readJoin_55 ?_
  obtain ⟨x16, I17, hg15, h⟩ := zb2_e h
  refine z_callV C zc_12 rfl (by decide) dX12_readJoin_56 yy_X12_takeLayer (c_X12_takeLayer C.2.2.2.2.1  I14 L hg15) q_1424 q_1426 q_53 (by decide) (by decide) rfl rfl (Nat.le_of_ble_eq_true rfl) ⟨Nat.le_refl _, Nat.le_refl _, Nat.le_refl _, Nat.le_refl _⟩ ?_
  refine z_istore_n C (lv' := [(3, .int x16), (0, .ref (B0 + 97)), (1, .int v1), (2, .int v2)]) rfl (by decide) rfl dX12_readJoin_59 ?_
  refine z_aload_n C rfl 1 rfl dX12_readJoin_60 ?_
  refine z_aload_n C rfl 1 rfl dX12_readJoin_61 ?_
  refine z_bipush C (v := 59) (by decide) dX12_readJoin_62 ?_
  obtain ⟨x19, hg18, h⟩ := zb1_e h
  refine z_callV C zc_12 rfl (by decide) dX12_readJoin_64 yy_X12_is (c_X12_is C.2.2.2.2.1  (59 : Int32) I17 L hg18) q_1416 q_1418 q_51 (by decide) (by decide) rfl rfl (Nat.le_of_ble_eq_true rfl) ⟨Nat.le_refl _, Nat.le_refl _, Nat.le_refl _, Nat.le_refl _⟩ ?_
  obtain ⟨I21, hg20, h⟩ := zb1_e h
  refine z_callV C zc_12 rfl (by decide) dX12_readJoin_67 yy_X12_take (c_X12_take C.2.2.2.2.1  x19 I17 L hg20) q_1404 q_1406 q_48 (by decide) (by decide) rfl rfl (Nat.le_of_ble_eq_true rfl) ⟨Nat.le_refl _, Nat.le_refl _, Nat.le_refl _, Nat.le_refl _⟩ ?_
  refine z_aload_n C rfl 1 rfl dX12_readJoin_70 ?_
  refine z_geti C zc_12 dX12_readJoin_71 49 97 rfl (by decide) (by decide) q_1218 rfl ?_
  refine z_if_eq C 126 (by decide) dX12_readJoin_74 (fun hc => ?_) (fun hc => ?_)
  · have h := zif_t hc h
    refine z_lv [] (lv' := []) rfl ?_
    exact l_X12_readJoin_126 C  I21 L h
  · have h := zif_f hc h
    refine z_aload_n C rfl 1 rfl dX12_readJoin_77 ?_
    refine z_getr C zc_12 dX12_readJoin_78 21 97 110 rfl (by decide) (by decide) q_1190 rfl rfl ?_
    refine z_bipush C (v := 16) (by decide) dX12_readJoin_81 ?_
    refine z_aload_n C rfl 1 rfl dX12_readJoin_83 ?_
    refine z_geti C zc_12 dX12_readJoin_84 52 97 rfl (by decide) (by decide) q_1221 rfl ?_
    refine z_iadd C dX12_readJoin_87 ?_
    obtain ⟨x22, ex22, h⟩ := zlt_e h
    refine z_eqi C ex22 ?_
    refine z_iload_n C rfl 2 rfl dX12_readJoin_88 ?_
    obtain ⟨hb23, h⟩ := zck_e h
    refine z_iastore C dX12_readJoin_89 rfl rfl (by decide) (zbd_in hb23) ?_
    obtain ⟨I24, eI24, h⟩ := zlt_e h
    refine z_eqI C eI24 ?_
    refine z_aload_n C rfl 1 rfl dX12_readJoin_90 ?_
    refine z_getr C zc_12 dX12_readJoin_91 22 97 111 rfl (by decide) (by decide) q_1191 rfl rfl ?_
    refine z_bipush C (v := 16) (by decide) dX12_readJoin_94 ?_
    refine z_aload_n C rfl 1 rfl dX12_readJoin_96 ?_
    refine z_geti C zc_12 dX12_readJoin_97 52 97 rfl (by decide) (by decide) q_1221 rfl ?_
    refine z_iadd C dX12_readJoin_100 ?_
    obtain ⟨x25, ex25, h⟩ := zlt_e h
    refine z_eqi C ex25 ?_
    refine z_iload_n C rfl 3 rfl dX12_readJoin_101 ?_
    obtain ⟨hb26, h⟩ := zck_e h
    refine z_iastore C dX12_readJoin_102 rfl rfl (by decide) (zbd_in hb26) ?_
    obtain ⟨I27, eI27, h⟩ := zlt_e h
    refine z_eqI C eI27 ?_
    refine z_aload_n C rfl 1 rfl dX12_readJoin_103 ?_
    refine z_getr C zc_12 dX12_readJoin_104 23 97 112 rfl (by decide) (by decide) q_1192 rfl rfl ?_
    refine z_bipush C (v := 16) (by decide) dX12_readJoin_107 ?_
    refine z_aload_n C rfl 1 rfl dX12_readJoin_109 ?_
    refine z_geti C zc_12 dX12_readJoin_110 52 97 rfl (by decide) (by decide) q_1221 rfl ?_
    refine z_iadd C dX12_readJoin_113 ?_
    obtain ⟨x28, ex28, h⟩ := zlt_e h
    refine z_eqi C ex28 ?_
    refine z_iload_n C rfl 0 rfl dX12_readJoin_114 ?_
    obtain ⟨hb29, h⟩ := zck_e h
    refine z_iastore C dX12_readJoin_115 rfl rfl (by decide) (zbd_in hb29) ?_
    obtain ⟨I30, eI30, h⟩ := zlt_e h
    refine z_eqI C eI30 ?_
    refine z_aload_n C rfl 1 rfl dX12_readJoin_116 ?_
    refine z_dup C rfl dX12_readJoin_117 ?_
    refine z_geti C zc_12 dX12_readJoin_118 52 97 rfl (by decide) (by decide) q_1221 rfl ?_
    refine z_iconst C (v := 1) (by decide) dX12_readJoin_121 ?_
    refine z_iadd C dX12_readJoin_122 ?_
    obtain ⟨x31, ex31, h⟩ := zlt_e h
    refine z_eqi C ex31 ?_
    refine z_puti C zc_12 dX12_readJoin_123 52 97 rfl (by decide) (by decide) rfl q_1221 rfl rfl rfl ?_
    obtain ⟨I32, eI32, h⟩ := zlt_e h
    refine z_eqI C eI32 ?_
    refine z_lv [] (lv' := []) rfl ?_
    exact l_X12_readJoin_126 C  I32 L h
set_option maxHeartbeats 4000000 in
set_option maxRecDepth 100000 in
theorem l_X12_readJoin_15 {r : zI} (C : zC p l e R s m args below meth c s0 a0 d cy B0 yX12_readJoin.cls cX12_readJoin 4 none bc bs bc bs 4 90 []) (w1 : Int32) (I : zI) (L : zL) (h : f_X12_readJoin_15 w1 I L = some r) : zG p l e R s m args below meth c d cy B0 4 bc bs (zQ below s args d cy B0 bc bs (.inl none) zSH zKn bc bs r L) 15 [(0, .ref (B0 + 97))] [.int w1, .ref (B0 + 97)] zSH zKn bc bs I L := by
  unfold f_X12_readJoin_15 at h
  obtain ⟨I2, hg1, h⟩ := zb1_e h
  refine z_callV C zc_12 rfl (by decide) dX12_readJoin_15 yy_X12_take (c_X12_take C.2.2.2.2.1  w1 I L hg1) q_1404 q_1406 q_48 (by decide) (by decide) rfl rfl (Nat.le_of_ble_eq_true rfl) ⟨Nat.le_refl _, Nat.le_refl _, Nat.le_refl _, Nat.le_refl _⟩ ?_
  refine z_aload_n C rfl 0 rfl dX12_readJoin_18 ?_
  obtain ⟨x4, I5, hg3, h⟩ := zb2_e h
  refine z_callV C zc_12 rfl (by decide) dX12_readJoin_19 yy_X12_takeWire (c_X12_takeWire C.2.2.2.2.1  I2 L hg3) q_1436 q_1438 q_56 (by decide) (by decide) rfl rfl (Nat.le_of_ble_eq_true rfl) ⟨Nat.le_refl _, Nat.le_refl _, Nat.le_refl _, Nat.le_refl _⟩ ?_
  refine z_istore_n C (lv' := [(1, .int x4), (0, .ref (B0 + 97))]) rfl (by decide) rfl dX12_readJoin_22 ?_
  refine z_aload_n C rfl 1 rfl dX12_readJoin_23 ?_
  obtain ⟨x7, I8, hg6, h⟩ := zb2_e h
  refine z_callV C zc_12 rfl (by decide) dX12_readJoin_24 yy_X12_takeWire (c_X12_takeWire C.2.2.2.2.1  I5 L hg6) q_1436 q_1438 q_56 (by decide) (by decide) rfl rfl (Nat.le_of_ble_eq_true rfl) ⟨Nat.le_refl _, Nat.le_refl _, Nat.le_refl _, Nat.le_refl _⟩ ?_
  refine z_istore_n C (lv' := [(2, .int x7), (1, .int x4), (0, .ref (B0 + 97))]) rfl (by decide) rfl dX12_readJoin_27 ?_
  refine z_aload_n C rfl 2 rfl dX12_readJoin_28 ?_
  refine z_aload_n C rfl 2 rfl dX12_readJoin_29 ?_
  obtain ⟨x10, hg9, h⟩ := zb1_e h
  refine z_callV C zc_12 rfl (by decide) dX12_readJoin_30 yy_X12_name (c_X12_name C.2.2.2.2.1  I8 L hg9) q_1391 q_1393 q_46 (by decide) (by decide) rfl rfl (Nat.le_of_ble_eq_true rfl) ⟨Nat.le_refl _, Nat.le_refl _, Nat.le_refl _, Nat.le_refl _⟩ ?_
  refine z_bipush C (v := 98) (by decide) dX12_readJoin_33 ?_
  refine z_bipush C (v := 121) (by decide) dX12_readJoin_35 ?_
  refine z_iconst C (v := 0) (by decide) dX12_readJoin_37 ?_
  refine z_iconst C (v := 0) (by decide) dX12_readJoin_38 ?_
  refine z_iconst C (v := 0) (by decide) dX12_readJoin_39 ?_
  obtain ⟨x12, hg11, h⟩ := zb1_e h
  refine z_callS C dX12_readJoin_40 yy_X12_word (c_X12_word C.2.2.2.2.1  (98 : Int32) (121 : Int32) (0 : Int32) (0 : Int32) (0 : Int32) I8 L hg11) q_1397 q_1398 (by decide) (by decide) rfl rfl (Nat.le_of_ble_eq_true rfl) ⟨Nat.le_refl _, Nat.le_refl _, Nat.le_refl _, Nat.le_refl _⟩ ?_
  refine z_lif_ne C 51 (by decide) dX12_readJoin_43 dX12_readJoin_44 (fun hc => ?_) (fun hc => ?_)
  · have h := zif_f hc h
    refine z_iconst C (v := 0) (by decide) dX12_readJoin_51 ?_
    refine z_lv [2, 1, 0] (lv' := [(0, .ref (B0 + 97)), (1, .int x4), (2, .int x7)]) rfl ?_
    exact l_X12_readJoin_52 C  x4 x7 (0 : Int32) I8 L h
  · have h := zif_t hc h
    refine z_iconst C (v := 1) (by decide) dX12_readJoin_47 ?_
    refine z_goto C 52 (by decide) dX12_readJoin_48 ?_
    refine z_lv [2, 1, 0] (lv' := [(0, .ref (B0 + 97)), (1, .int x4), (2, .int x7)]) rfl ?_
    exact l_X12_readJoin_52 C  x4 x7 (1 : Int32) I8 L h
set_option maxHeartbeats 4000000 in
set_option maxRecDepth 100000 in
theorem c_X12_readJoin {r : zI} (hE : zE0 l s0 a0 d cy B0) (I : zI) (L : zL) (h : f_X12_readJoin I L = some r) : zM l s0 d cy B0 yX12_readJoin cX12_readJoin 4 none 4 90 [.ref (B0 + 97)] zSH zKn bc bs I L (.inl none) zSH zKn bc bs r L := by
  refine z_meth yy_X12_readJoin hE (Nat.le_of_ble_eq_true rfl) (fun p e R s m args below meth c C => ?_)
  show zG p l e R s m args below meth c d cy B0 4 bc bs (zQ below s args d cy B0 bc bs (.inl none) zSH zKn bc bs r L) 0 [(0, .ref (B0 + 97))] [] zSH zKn bc bs I L
  unfold f_X12_readJoin at h
  refine z_aload_n C rfl 0 rfl dX12_readJoin_0 ?_
  refine z_aload_n C rfl 0 rfl dX12_readJoin_1 ?_
  refine z_geti C zc_12 dX12_readJoin_2 52 97 rfl (by decide) (by decide) q_1221 rfl ?_
  refine z_bipush C (v := 16) (by decide) dX12_readJoin_5 ?_
  refine z_icmp_ge C 14 (by decide) dX12_readJoin_7 (fun hc => ?_) (fun hc => ?_)
  · have h := zif_t hc h
    refine z_iconst C (v := 0) (by decide) dX12_readJoin_14 ?_
    exact l_X12_readJoin_15 C  (0 : Int32) I L h
  · have h := zif_f hc h
    refine z_iconst C (v := 1) (by decide) dX12_readJoin_10 ?_
    refine z_goto C 15 (by decide) dX12_readJoin_11 ?_
    exact l_X12_readJoin_15 C  (1 : Int32) I L h
theorem q_1193 : (Cond.fieldLink "DeviceFindModel" (56 : Nat) "DeviceFindModel" "kindNames" "[J") ∈ lw_tbl := List.mem_of_getElem? (i := 1193) (by decide +kernel)
theorem q_1194 : (Cond.fieldLink "DeviceFindModel" (59 : Nat) "DeviceFindModel" "kindOn" "[I") ∈ lw_tbl := List.mem_of_getElem? (i := 1194) (by decide +kernel)
theorem q_1195 : (Cond.fieldLink "DeviceFindModel" (62 : Nat) "DeviceFindModel" "pinCount" "[I") ∈ lw_tbl := List.mem_of_getElem? (i := 1195) (by decide +kernel)
theorem q_1196 : (Cond.fieldLink "DeviceFindModel" (65 : Nat) "DeviceFindModel" "pinWire" "[I") ∈ lw_tbl := List.mem_of_getElem? (i := 1196) (by decide +kernel)
theorem q_1222 : (Cond.fieldLink "DeviceFindModel" (211 : Nat) "DeviceFindModel" "newKinds" "I") ∈ lw_tbl := List.mem_of_getElem? (i := 1222) (by decide +kernel)
theorem q_1444 : (Cond.code ({ cls := "DeviceFindModel", name := "readDevice", desc := "()V" } : Jvm.MethodName) prog_14_method_27_code (6 : Nat) (Option.none : Option Jvm.ClassFile.FieldType)) ∈ lw_tbl := List.mem_of_getElem? (i := 1444) (by decide +kernel)
theorem yy_X12_readDevice : zY yX12_readDevice cX12_readDevice 6 none 0 := ⟨q_1444, q_88, by decide +kernel, by decide +kernel, by decide +kernel⟩
noncomputable def f_X12_readDevice_71 (k38 : Int64 → Int32 → Int32 → zI → zL → Option (zI × zL)) (v1 : Int64) (v4 : Int32) (w0 : Int32) (I : zI) (L : zL) : Option (zI × zL) :=
  zlt (v4 + 1) (fun x22 => k38 v1 w0 x22 I L)
noncomputable def f_X12_readDevice_70 (k38 : Int64 → Int32 → Int32 → zI → zL → Option (zI × zL)) (v1 : Int64) (v4 : Int32) (I : zI) (L : zL) : Option (zI × zL) :=
  f_X12_readDevice_71 k38 v1 v4 (0 : Int32) I L
noncomputable def f_X12_readDevice_158 (k131 : Int64 → Int32 → Int32 → zI → zL → Option (zI × zL)) (v1 : Int64) (v4 : Int32) (v5 : Int32) (I : zI) (L : zL) : Option (zI × zL) :=
  zlt ((8 : Int32) + (I 97 53)) (fun x40 => zlt (((4 : Int32) * x40) + v5) (fun x41 => zb2 (f_X12_takeWire I L) (fun x43 I44 => zck (zbd x41 64) (zlt (zu I44 116 x41.toNatClampNeg x43) (fun I46 => zlt (v5 + 1) (fun x47 => k131 v1 v4 x47 I46 L))))))
noncomputable def f_X12_readDevice_253 (I : zI) (L : zL) : Option (zI × zL) :=
  some (I, L)
noncomputable def f_X12_readDevice_185 (v1 : Int64) (v4 : Int32) (v5 : Int32) (I : zI) (L : zL) : Option (zI × zL) :=
  zb1 (f_X12_is (59 : Int32) I) (fun x26 => zb1 (f_X12_take x26 I) (fun I28 => if (I28 97 49) = 0 then (f_X12_readDevice_253 I28 L) else (zlt ((8 : Int32) + (I28 97 53)) (fun x29 => zck (zbd x29 16) (zlt (zul L 113 x29.toNatClampNeg v1) (fun L31 => zlt ((8 : Int32) + (I28 97 53)) (fun x32 => zck (zbd x32 16) (zlt (zu I28 114 x32.toNatClampNeg v4) (fun I34 => zlt ((8 : Int32) + (I34 97 53)) (fun x35 => zck (zbd x35 16) (zlt (zu I34 115 x35.toNatClampNeg v5) (fun I37 => zlt ((I37 97 53) + (1 : Int32)) (fun x38 => zlt (zu I37 97 53 x38) (fun I39 => f_X12_readDevice_253 I39 L31))))))))))))))
noncomputable def f_X12_readDevice_131 (k131 : Int64 → Int32 → Int32 → zI → zL → Option (zI × zL)) (v1 : Int64) (v4 : Int32) (v5 : Int32) (I : zI) (L : zL) : Option (zI × zL) :=
  if (I 97 49) = 0 then (f_X12_readDevice_185 v1 v4 v5 I L) else (if v5 = 0 then (f_X12_readDevice_158 k131 v1 v4 v5 I L) else (zb1 (f_X12_is (59 : Int32) I) (fun x24 => if x24 = 0 then (if (4 : Int32) ≤ v5 then (f_X12_readDevice_185 v1 v4 v5 I L) else (f_X12_readDevice_158 k131 v1 v4 v5 I L)) else (f_X12_readDevice_185 v1 v4 v5 I L))))
noncomputable def f_X12_readDevice_125 (v1 : Int64) (v4 : Int32) (w1 : Int32) (I : zI) (L : zL) : Option (zI × zL) :=
  zb1 (f_X12_take w1 I) (fun I21 => zlp5 (f_X12_readDevice_131) zF v1 v4 (0 : Int32) I21 L)
noncomputable def f_X12_readDevice_38 (k38 : Int64 → Int32 → Int32 → zI → zL → Option (zI × zL)) (v1 : Int64) (v3 : Int32) (v4 : Int32) (I : zI) (L : zL) : Option (zI × zL) :=
  if (I 97 53) ≤ v4 then (zb1 (f_X12_take v3 I) (fun I6 => zb1 (f_X12_is (61 : Int32) I6) (fun x8 => zb1 (f_X12_take x8 I6) (fun I10 => zb2 (f_X12_takeLayer I10 L) (fun x12 I13 => zb1 (f_X12_name I13) (fun x15 => zb1 (f_X12_word (112 : Int32) (105 : Int32) (110 : Int32) (115 : Int32) (0 : Int32)) (fun x17 => if x15 = x17 then (f_X12_readDevice_125 v1 x12 (1 : Int32) I13 L) else (f_X12_readDevice_125 v1 x12 (0 : Int32) I13 L)))))))) else (if v3 = 0 then (f_X12_readDevice_70 k38 v1 v4 I L) else (zlt ((8 : Int32) + v4) (fun x18 => zck (zbd x18 16) (if (L 113 x18.toNatClampNeg) = v1 then (f_X12_readDevice_70 k38 v1 v4 I L) else (f_X12_readDevice_71 k38 v1 v4 (1 : Int32) I L)))))
noncomputable def f_X12_readDevice_34 (v1 : Int64) (w0 : Int32) (I : zI) (L : zL) : Option (zI × zL) :=
  zlp5 (f_X12_readDevice_38) zF v1 w0 (0 : Int32) I L
noncomputable def f_X12_readDevice_15 (w1 : Int32) (I : zI) (L : zL) : Option (zI × zL) :=
  zb1 (f_X12_take w1 I) (fun I2 => zb1 (f_X12_name I2) (fun x4 => if x4 ≤ (0 : Int64) then (f_X12_readDevice_34 x4 (0 : Int32) I2 L) else (f_X12_readDevice_34 x4 (1 : Int32) I2 L)))
noncomputable def f_X12_readDevice (I : zI) (L : zL) : Option (zI × zL) :=
  if (8 : Int32) ≤ (I 97 53) then (f_X12_readDevice_15 (0 : Int32) I L) else (f_X12_readDevice_15 (1 : Int32) I L)
set_option maxHeartbeats 4000000 in
set_option maxRecDepth 100000 in
theorem l_X12_readDevice_71 {r : zI × zL} (C : zC p l e R s m args below meth c s0 a0 d cy B0 yX12_readDevice.cls cX12_readDevice 6 none bc bs bc bs 4 90 []) (k38 : Int64 → Int32 → Int32 → zI → zL → Option (zI × zL)) (hk38 : ∀ (v1 : Int64) (v3 : Int32) (v4 : Int32) (I : zI) (L : zL), k38 v1 v3 v4 I L = some r → zG p l e R s m args below meth c d cy B0 6 bc bs (zQ below s args d cy B0 bc bs (.inl none) zSH zKn bc bs r.1 r.2) 38 [(0, .ref (B0 + 97)), (1, .long v1), (3, .int v3), (4, .int v4)] [] zSH zKn bc bs I L) (v1 : Int64) (v4 : Int32) (w0 : Int32) (I : zI) (L : zL) (h : f_X12_readDevice_71 k38 v1 v4 w0 I L = some r) : zG p l e R s m args below meth c d cy B0 6 bc bs (zQ below s args d cy B0 bc bs (.inl none) zSH zKn bc bs r.1 r.2) 71 [(0, .ref (B0 + 97)), (1, .long v1), (4, .int v4)] [.int w0] zSH zKn bc bs I L := by
  unfold f_X12_readDevice_71 at h
  refine z_istore_n C (lv' := [(3, .int w0), (0, .ref (B0 + 97)), (1, .long v1), (4, .int v4)]) rfl (by decide) rfl dX12_readDevice_71 ?_
  obtain ⟨x22, ex22, h⟩ := zlt_e h
  refine z_iinc C (j := 3) (v := x22) (lv' := [(4, .int x22), (3, .int w0), (0, .ref (B0 + 97)), (1, .long v1)]) rfl (by rw [ex22]; rfl) (by decide) rfl dX12_readDevice_72 ?_
  refine z_goto C 38 (by decide) dX12_readDevice_75 ?_
  refine z_lv [2, 3, 1, 0] (lv' := [(0, .ref (B0 + 97)), (1, .long v1), (3, .int w0), (4, .int x22)]) rfl ?_
  exact hk38 v1 w0 x22 I L h
set_option maxHeartbeats 4000000 in
set_option maxRecDepth 100000 in
theorem l_X12_readDevice_70 {r : zI × zL} (C : zC p l e R s m args below meth c s0 a0 d cy B0 yX12_readDevice.cls cX12_readDevice 6 none bc bs bc bs 4 90 []) (k38 : Int64 → Int32 → Int32 → zI → zL → Option (zI × zL)) (hk38 : ∀ (v1 : Int64) (v3 : Int32) (v4 : Int32) (I : zI) (L : zL), k38 v1 v3 v4 I L = some r → zG p l e R s m args below meth c d cy B0 6 bc bs (zQ below s args d cy B0 bc bs (.inl none) zSH zKn bc bs r.1 r.2) 38 [(0, .ref (B0 + 97)), (1, .long v1), (3, .int v3), (4, .int v4)] [] zSH zKn bc bs I L) (v1 : Int64) (v4 : Int32) (I : zI) (L : zL) (h : f_X12_readDevice_70 k38 v1 v4 I L = some r) : zG p l e R s m args below meth c d cy B0 6 bc bs (zQ below s args d cy B0 bc bs (.inl none) zSH zKn bc bs r.1 r.2) 70 [(0, .ref (B0 + 97)), (1, .long v1), (4, .int v4)] [] zSH zKn bc bs I L := by
  unfold f_X12_readDevice_70 at h
  refine z_iconst C (v := 0) (by decide) dX12_readDevice_70 ?_
  exact l_X12_readDevice_71 C k38 hk38 v1 v4 (0 : Int32) I L h
set_option maxHeartbeats 4000000 in
set_option maxRecDepth 100000 in
theorem l_X12_readDevice_158 {r : zI × zL} (C : zC p l e R s m args below meth c s0 a0 d cy B0 yX12_readDevice.cls cX12_readDevice 6 none bc bs bc bs 4 90 []) (k131 : Int64 → Int32 → Int32 → zI → zL → Option (zI × zL)) (hk131 : ∀ (v1 : Int64) (v4 : Int32) (v5 : Int32) (I : zI) (L : zL), k131 v1 v4 v5 I L = some r → zG p l e R s m args below meth c d cy B0 6 bc bs (zQ below s args d cy B0 bc bs (.inl none) zSH zKn bc bs r.1 r.2) 131 [(0, .ref (B0 + 97)), (1, .long v1), (4, .int v4), (5, .int v5)] [] zSH zKn bc bs I L) (v1 : Int64) (v4 : Int32) (v5 : Int32) (I : zI) (L : zL) (h : f_X12_readDevice_158 k131 v1 v4 v5 I L = some r) : zG p l e R s m args below meth c d cy B0 6 bc bs (zQ below s args d cy B0 bc bs (.inl none) zSH zKn bc bs r.1 r.2) 158 [(0, .ref (B0 + 97)), (1, .long v1), (4, .int v4), (5, .int v5)] [] zSH zKn bc bs I L := by
  unfold f_X12_readDevice_158 at h
  refine z_aload_n C rfl 0 rfl dX12_readDevice_158 ?_
  refine z_getr C zc_12 dX12_readDevice_159 27 97 116 rfl (by decide) (by decide) q_1196 rfl rfl ?_
  refine z_iconst C (v := 4) (by decide) dX12_readDevice_162 ?_
  refine z_bipush C (v := 8) (by decide) dX12_readDevice_163 ?_
  refine z_aload_n C rfl 0 rfl dX12_readDevice_165 ?_
  refine z_geti C zc_12 dX12_readDevice_166 53 97 rfl (by decide) (by decide) q_1222 rfl ?_
  refine z_iadd C dX12_readDevice_169 ?_
  obtain ⟨x40, ex40, h⟩ := zlt_e h
  refine z_eqi C ex40 ?_
  refine z_imul C dX12_readDevice_170 ?_
  refine z_iload C 3 rfl dX12_readDevice_171 ?_
  refine z_iadd C dX12_readDevice_173 ?_
  obtain ⟨x41, ex41, h⟩ := zlt_e h
  refine z_eqi C ex41 ?_
  refine z_aload_n C rfl 0 rfl dX12_readDevice_174 ?_
  obtain ⟨x43, I44, hg42, h⟩ := zb2_e h
  refine z_callV C zc_12 rfl (by decide) dX12_readDevice_175 yy_X12_takeWire (c_X12_takeWire C.2.2.2.2.1  I L hg42) q_1436 q_1438 q_56 (by decide) (by decide) rfl rfl (Nat.le_of_ble_eq_true rfl) ⟨Nat.le_refl _, Nat.le_refl _, Nat.le_refl _, Nat.le_refl _⟩ ?_
  obtain ⟨hb45, h⟩ := zck_e h
  refine z_iastore C dX12_readDevice_178 rfl rfl (by decide) (zbd_in hb45) ?_
  obtain ⟨I46, eI46, h⟩ := zlt_e h
  refine z_eqI C eI46 ?_
  obtain ⟨x47, ex47, h⟩ := zlt_e h
  refine z_iinc C (j := 3) (v := x47) (lv' := [(5, .int x47), (0, .ref (B0 + 97)), (1, .long v1), (4, .int v4)]) rfl (by rw [ex47]; rfl) (by decide) rfl dX12_readDevice_179 ?_
  refine z_goto C 131 (by decide) dX12_readDevice_182 ?_
  refine z_lv [1, 2, 3, 0] (lv' := [(0, .ref (B0 + 97)), (1, .long v1), (4, .int v4), (5, .int x47)]) rfl ?_
  exact hk131 v1 v4 x47 I46 L h
set_option maxHeartbeats 4000000 in
set_option maxRecDepth 100000 in
theorem l_X12_readDevice_253 {r : zI × zL} (C : zC p l e R s m args below meth c s0 a0 d cy B0 yX12_readDevice.cls cX12_readDevice 6 none bc bs bc bs 4 90 []) (I : zI) (L : zL) (h : f_X12_readDevice_253 I L = some r) : zG p l e R s m args below meth c d cy B0 6 bc bs (zQ below s args d cy B0 bc bs (.inl none) zSH zKn bc bs r.1 r.2) 253 [] [] zSH zKn bc bs I L := by
  unfold f_X12_readDevice_253 at h
  obtain rfl := Option.some.inj h
  exact z_vret C dX12_readDevice_253 rfl rfl
set_option maxHeartbeats 4000000 in
set_option maxRecDepth 100000 in
theorem l_X12_readDevice_185 {r : zI × zL} (C : zC p l e R s m args below meth c s0 a0 d cy B0 yX12_readDevice.cls cX12_readDevice 6 none bc bs bc bs 4 90 []) (v1 : Int64) (v4 : Int32) (v5 : Int32) (I : zI) (L : zL) (h : f_X12_readDevice_185 v1 v4 v5 I L = some r) : zG p l e R s m args below meth c d cy B0 6 bc bs (zQ below s args d cy B0 bc bs (.inl none) zSH zKn bc bs r.1 r.2) 185 [(0, .ref (B0 + 97)), (1, .long v1), (4, .int v4), (5, .int v5)] [] zSH zKn bc bs I L := by
  unfold f_X12_readDevice_185 at h
  refine z_aload_n C rfl 0 rfl dX12_readDevice_185 ?_
  refine z_aload_n C rfl 0 rfl dX12_readDevice_186 ?_
  refine z_bipush C (v := 59) (by decide) dX12_readDevice_187 ?_
  obtain ⟨x26, hg25, h⟩ := zb1_e h
  refine z_callV C zc_12 rfl (by decide) dX12_readDevice_189 yy_X12_is (c_X12_is C.2.2.2.2.1  (59 : Int32) I L hg25) q_1416 q_1418 q_51 (by decide) (by decide) rfl rfl (Nat.le_of_ble_eq_true rfl) ⟨Nat.le_refl _, Nat.le_refl _, Nat.le_refl _, Nat.le_refl _⟩ ?_
  obtain ⟨I28, hg27, h⟩ := zb1_e h
  refine z_callV C zc_12 rfl (by decide) dX12_readDevice_192 yy_X12_take (c_X12_take C.2.2.2.2.1  x26 I L hg27) q_1404 q_1406 q_48 (by decide) (by decide) rfl rfl (Nat.le_of_ble_eq_true rfl) ⟨Nat.le_refl _, Nat.le_refl _, Nat.le_refl _, Nat.le_refl _⟩ ?_
  refine z_aload_n C rfl 0 rfl dX12_readDevice_195 ?_
  refine z_geti C zc_12 dX12_readDevice_196 49 97 rfl (by decide) (by decide) q_1218 rfl ?_
  refine z_if_eq C 253 (by decide) dX12_readDevice_199 (fun hc => ?_) (fun hc => ?_)
  · have h := zif_t hc h
    refine z_lv [] (lv' := []) rfl ?_
    exact l_X12_readDevice_253 C  I28 L h
  · have h := zif_f hc h
    refine z_aload_n C rfl 0 rfl dX12_readDevice_202 ?_
    refine z_getr C zc_12 dX12_readDevice_203 24 97 113 rfl (by decide) (by decide) q_1193 rfl rfl ?_
    refine z_bipush C (v := 8) (by decide) dX12_readDevice_206 ?_
    refine z_aload_n C rfl 0 rfl dX12_readDevice_208 ?_
    refine z_geti C zc_12 dX12_readDevice_209 53 97 rfl (by decide) (by decide) q_1222 rfl ?_
    refine z_iadd C dX12_readDevice_212 ?_
    obtain ⟨x29, ex29, h⟩ := zlt_e h
    refine z_eqi C ex29 ?_
    refine z_lload_n C rfl 1 rfl dX12_readDevice_213 ?_
    obtain ⟨hb30, h⟩ := zck_e h
    refine z_lastore C dX12_readDevice_214 rfl rfl (by decide) (zbd_in hb30) ?_
    obtain ⟨L31, eL31, h⟩ := zlt_e h
    refine z_eqL C eL31 ?_
    refine z_aload_n C rfl 0 rfl dX12_readDevice_215 ?_
    refine z_getr C zc_12 dX12_readDevice_216 25 97 114 rfl (by decide) (by decide) q_1194 rfl rfl ?_
    refine z_bipush C (v := 8) (by decide) dX12_readDevice_219 ?_
    refine z_aload_n C rfl 0 rfl dX12_readDevice_221 ?_
    refine z_geti C zc_12 dX12_readDevice_222 53 97 rfl (by decide) (by decide) q_1222 rfl ?_
    refine z_iadd C dX12_readDevice_225 ?_
    obtain ⟨x32, ex32, h⟩ := zlt_e h
    refine z_eqi C ex32 ?_
    refine z_iload C 2 rfl dX12_readDevice_226 ?_
    obtain ⟨hb33, h⟩ := zck_e h
    refine z_iastore C dX12_readDevice_228 rfl rfl (by decide) (zbd_in hb33) ?_
    obtain ⟨I34, eI34, h⟩ := zlt_e h
    refine z_eqI C eI34 ?_
    refine z_aload_n C rfl 0 rfl dX12_readDevice_229 ?_
    refine z_getr C zc_12 dX12_readDevice_230 26 97 115 rfl (by decide) (by decide) q_1195 rfl rfl ?_
    refine z_bipush C (v := 8) (by decide) dX12_readDevice_233 ?_
    refine z_aload_n C rfl 0 rfl dX12_readDevice_235 ?_
    refine z_geti C zc_12 dX12_readDevice_236 53 97 rfl (by decide) (by decide) q_1222 rfl ?_
    refine z_iadd C dX12_readDevice_239 ?_
    obtain ⟨x35, ex35, h⟩ := zlt_e h
    refine z_eqi C ex35 ?_
    refine z_iload C 3 rfl dX12_readDevice_240 ?_
    obtain ⟨hb36, h⟩ := zck_e h
    refine z_iastore C dX12_readDevice_242 rfl rfl (by decide) (zbd_in hb36) ?_
    obtain ⟨I37, eI37, h⟩ := zlt_e h
    refine z_eqI C eI37 ?_
    refine z_aload_n C rfl 0 rfl dX12_readDevice_243 ?_
    refine z_dup C rfl dX12_readDevice_244 ?_
    refine z_geti C zc_12 dX12_readDevice_245 53 97 rfl (by decide) (by decide) q_1222 rfl ?_
    refine z_iconst C (v := 1) (by decide) dX12_readDevice_248 ?_
    refine z_iadd C dX12_readDevice_249 ?_
    obtain ⟨x38, ex38, h⟩ := zlt_e h
    refine z_eqi C ex38 ?_
    refine z_puti C zc_12 dX12_readDevice_250 53 97 rfl (by decide) (by decide) rfl q_1222 rfl rfl rfl ?_
    obtain ⟨I39, eI39, h⟩ := zlt_e h
    refine z_eqI C eI39 ?_
    refine z_lv [] (lv' := []) rfl ?_
    exact l_X12_readDevice_253 C  I39 L31 h
set_option maxHeartbeats 4000000 in
set_option maxRecDepth 100000 in
theorem l_X12_readDevice_131 {r : zI × zL} (C : zC p l e R s m args below meth c s0 a0 d cy B0 yX12_readDevice.cls cX12_readDevice 6 none bc bs bc bs 4 90 []) (k131 : Int64 → Int32 → Int32 → zI → zL → Option (zI × zL)) (hk131 : ∀ (v1 : Int64) (v4 : Int32) (v5 : Int32) (I : zI) (L : zL), k131 v1 v4 v5 I L = some r → zG p l e R s m args below meth c d cy B0 6 bc bs (zQ below s args d cy B0 bc bs (.inl none) zSH zKn bc bs r.1 r.2) 131 [(0, .ref (B0 + 97)), (1, .long v1), (4, .int v4), (5, .int v5)] [] zSH zKn bc bs I L) (v1 : Int64) (v4 : Int32) (v5 : Int32) (I : zI) (L : zL) (h : f_X12_readDevice_131 k131 v1 v4 v5 I L = some r) : zG p l e R s m args below meth c d cy B0 6 bc bs (zQ below s args d cy B0 bc bs (.inl none) zSH zKn bc bs r.1 r.2) 131 [(0, .ref (B0 + 97)), (1, .long v1), (4, .int v4), (5, .int v5)] [] zSH zKn bc bs I L := by
  unfold f_X12_readDevice_131 at h
  refine z_aload_n C rfl 0 rfl dX12_readDevice_131 ?_
  refine z_geti C zc_12 dX12_readDevice_132 49 97 rfl (by decide) (by decide) q_1218 rfl ?_
  refine z_if_eq C 185 (by decide) dX12_readDevice_135 (fun hc => ?_) (fun hc => ?_)
  · have h := zif_t hc h
    exact l_X12_readDevice_185 C  v1 v4 v5 I L h
  · have h := zif_f hc h
    refine z_iload C 3 rfl dX12_readDevice_138 ?_
    refine z_if_eq C 158 (by decide) dX12_readDevice_140 (fun hc => ?_) (fun hc => ?_)
    · have h := zif_t hc h
      exact l_X12_readDevice_158 C k131 hk131 v1 v4 v5 I L h
    · have h := zif_f hc h
      refine z_aload_n C rfl 0 rfl dX12_readDevice_143 ?_
      refine z_bipush C (v := 59) (by decide) dX12_readDevice_144 ?_
      obtain ⟨x24, hg23, h⟩ := zb1_e h
      refine z_callV C zc_12 rfl (by decide) dX12_readDevice_146 yy_X12_is (c_X12_is C.2.2.2.2.1  (59 : Int32) I L hg23) q_1416 q_1418 q_51 (by decide) (by decide) rfl rfl (Nat.le_of_ble_eq_true rfl) ⟨Nat.le_refl _, Nat.le_refl _, Nat.le_refl _, Nat.le_refl _⟩ ?_
      refine z_if_ne C 185 (by decide) dX12_readDevice_149 (fun hc => ?_) (fun hc => ?_)
      · have h := zif_f hc h
        exact l_X12_readDevice_185 C  v1 v4 v5 I L h
      · have h := zif_t hc h
        refine z_iload C 3 rfl dX12_readDevice_152 ?_
        refine z_iconst C (v := 4) (by decide) dX12_readDevice_154 ?_
        refine z_icmp_ge C 185 (by decide) dX12_readDevice_155 (fun hc => ?_) (fun hc => ?_)
        · have h := zif_t hc h
          exact l_X12_readDevice_185 C  v1 v4 v5 I L h
        · have h := zif_f hc h
          exact l_X12_readDevice_158 C k131 hk131 v1 v4 v5 I L h
set_option maxHeartbeats 4000000 in
set_option maxRecDepth 100000 in
theorem L_X12_readDevice_131 {r : zI × zL} (C : zC p l e R s m args below meth c s0 a0 d cy B0 yX12_readDevice.cls cX12_readDevice 6 none bc bs bc bs 4 90 []) (v1 : Int64) (v4 : Int32) (v5 : Int32) (I : zI) (L : zL) (h : zlp5 (f_X12_readDevice_131) zF v1 v4 v5 I L = some r) : zG p l e R s m args below meth c d cy B0 6 bc bs (zQ below s args d cy B0 bc bs (.inl none) zSH zKn bc bs r.1 r.2) 131 [(0, .ref (B0 + 97)), (1, .long v1), (4, .int v4), (5, .int v5)] [] zSH zKn bc bs I L :=
 zlp5_e (fun (v1 : Int64) (v4 : Int32) (v5 : Int32) (I : zI) (L : zL) => zG p l e R s m args below meth c d cy B0 6 bc bs (zQ below s args d cy B0 bc bs (.inl none) zSH zKn bc bs r.1 r.2) 131 [(0, .ref (B0 + 97)), (1, .long v1), (4, .int v4), (5, .int v5)] [] zSH zKn bc bs I L) (fun k9 hk9 v1 v4 v5 I L h => l_X12_readDevice_131 C k9 hk9 v1 v4 v5 I L h) zF v1 v4 v5 I L h
set_option maxHeartbeats 4000000 in
set_option maxRecDepth 100000 in
theorem l_X12_readDevice_125 {r : zI × zL} (C : zC p l e R s m args below meth c s0 a0 d cy B0 yX12_readDevice.cls cX12_readDevice 6 none bc bs bc bs 4 90 []) (v1 : Int64) (v4 : Int32) (w1 : Int32) (I : zI) (L : zL) (h : f_X12_readDevice_125 v1 v4 w1 I L = some r) : zG p l e R s m args below meth c d cy B0 6 bc bs (zQ below s args d cy B0 bc bs (.inl none) zSH zKn bc bs r.1 r.2) 125 [(0, .ref (B0 + 97)), (1, .long v1), (4, .int v4)] [.int w1, .ref (B0 + 97)] zSH zKn bc bs I L := by
  unfold f_X12_readDevice_125 at h
  obtain ⟨I21, hg20, h⟩ := zb1_e h
  refine z_callV C zc_12 rfl (by decide) dX12_readDevice_125 yy_X12_take (c_X12_take C.2.2.2.2.1  w1 I L hg20) q_1404 q_1406 q_48 (by decide) (by decide) rfl rfl (Nat.le_of_ble_eq_true rfl) ⟨Nat.le_refl _, Nat.le_refl _, Nat.le_refl _, Nat.le_refl _⟩ ?_
  refine z_iconst C (v := 0) (by decide) dX12_readDevice_128 ?_
  refine z_istore C (lv' := [(5, .int (0 : Int32)), (0, .ref (B0 + 97)), (1, .long v1), (4, .int v4)]) (by decide) rfl dX12_readDevice_129 ?_
  refine z_lv [1, 2, 3, 0] (lv' := [(0, .ref (B0 + 97)), (1, .long v1), (4, .int v4), (5, .int (0 : Int32))]) rfl ?_
  exact L_X12_readDevice_131 C  v1 v4 (0 : Int32) I21 L h
set_option maxHeartbeats 4000000 in
set_option maxRecDepth 100000 in
theorem l_X12_readDevice_38 {r : zI × zL} (C : zC p l e R s m args below meth c s0 a0 d cy B0 yX12_readDevice.cls cX12_readDevice 6 none bc bs bc bs 4 90 []) (k38 : Int64 → Int32 → Int32 → zI → zL → Option (zI × zL)) (hk38 : ∀ (v1 : Int64) (v3 : Int32) (v4 : Int32) (I : zI) (L : zL), k38 v1 v3 v4 I L = some r → zG p l e R s m args below meth c d cy B0 6 bc bs (zQ below s args d cy B0 bc bs (.inl none) zSH zKn bc bs r.1 r.2) 38 [(0, .ref (B0 + 97)), (1, .long v1), (3, .int v3), (4, .int v4)] [] zSH zKn bc bs I L) (v1 : Int64) (v3 : Int32) (v4 : Int32) (I : zI) (L : zL) (h : f_X12_readDevice_38 k38 v1 v3 v4 I L = some r) : zG p l e R s m args below meth c d cy B0 6 bc bs (zQ below s args d cy B0 bc bs (.inl none) zSH zKn bc bs r.1 r.2) 38 [(0, .ref (B0 + 97)), (1, .long v1), (3, .int v3), (4, .int v4)] [] zSH zKn bc bs I L := by
  unfold f_X12_readDevice_38 at h
  refine z_iload C 3 rfl dX12_readDevice_38 ?_
  refine z_aload_n C rfl 0 rfl dX12_readDevice_40 ?_
  refine z_geti C zc_12 dX12_readDevice_41 53 97 rfl (by decide) (by decide) q_1222 rfl ?_
  refine z_icmp_ge C 78 (by decide) dX12_readDevice_44 (fun hc => ?_) (fun hc => ?_)
  · have h := zif_t hc h
    refine z_aload_n C rfl 0 rfl dX12_readDevice_78 ?_
    refine z_iload_n C rfl 2 rfl dX12_readDevice_79 ?_
    obtain ⟨I6, hg5, h⟩ := zb1_e h
    refine z_callV C zc_12 rfl (by decide) dX12_readDevice_80 yy_X12_take (c_X12_take C.2.2.2.2.1  v3 I L hg5) q_1404 q_1406 q_48 (by decide) (by decide) rfl rfl (Nat.le_of_ble_eq_true rfl) ⟨Nat.le_refl _, Nat.le_refl _, Nat.le_refl _, Nat.le_refl _⟩ ?_
    refine z_aload_n C rfl 0 rfl dX12_readDevice_83 ?_
    refine z_aload_n C rfl 0 rfl dX12_readDevice_84 ?_
    refine z_bipush C (v := 61) (by decide) dX12_readDevice_85 ?_
    obtain ⟨x8, hg7, h⟩ := zb1_e h
    refine z_callV C zc_12 rfl (by decide) dX12_readDevice_87 yy_X12_is (c_X12_is C.2.2.2.2.1  (61 : Int32) I6 L hg7) q_1416 q_1418 q_51 (by decide) (by decide) rfl rfl (Nat.le_of_ble_eq_true rfl) ⟨Nat.le_refl _, Nat.le_refl _, Nat.le_refl _, Nat.le_refl _⟩ ?_
    obtain ⟨I10, hg9, h⟩ := zb1_e h
    refine z_callV C zc_12 rfl (by decide) dX12_readDevice_90 yy_X12_take (c_X12_take C.2.2.2.2.1  x8 I6 L hg9) q_1404 q_1406 q_48 (by decide) (by decide) rfl rfl (Nat.le_of_ble_eq_true rfl) ⟨Nat.le_refl _, Nat.le_refl _, Nat.le_refl _, Nat.le_refl _⟩ ?_
    refine z_aload_n C rfl 0 rfl dX12_readDevice_93 ?_
    obtain ⟨x12, I13, hg11, h⟩ := zb2_e h
    refine z_callV C zc_12 rfl (by decide) dX12_readDevice_94 yy_X12_takeLayer (c_X12_takeLayer C.2.2.2.2.1  I10 L hg11) q_1424 q_1426 q_53 (by decide) (by decide) rfl rfl (Nat.le_of_ble_eq_true rfl) ⟨Nat.le_refl _, Nat.le_refl _, Nat.le_refl _, Nat.le_refl _⟩ ?_
    refine z_istore C (lv' := [(4, .int x12), (0, .ref (B0 + 97)), (1, .long v1), (3, .int v3)]) (by decide) rfl dX12_readDevice_97 ?_
    refine z_aload_n C rfl 1 rfl dX12_readDevice_99 ?_
    refine z_aload_n C rfl 1 rfl dX12_readDevice_100 ?_
    obtain ⟨x15, hg14, h⟩ := zb1_e h
    refine z_callV C zc_12 rfl (by decide) dX12_readDevice_101 yy_X12_name (c_X12_name C.2.2.2.2.1  I13 L hg14) q_1391 q_1393 q_46 (by decide) (by decide) rfl rfl (Nat.le_of_ble_eq_true rfl) ⟨Nat.le_refl _, Nat.le_refl _, Nat.le_refl _, Nat.le_refl _⟩ ?_
    refine z_bipush C (v := 112) (by decide) dX12_readDevice_104 ?_
    refine z_bipush C (v := 105) (by decide) dX12_readDevice_106 ?_
    refine z_bipush C (v := 110) (by decide) dX12_readDevice_108 ?_
    refine z_bipush C (v := 115) (by decide) dX12_readDevice_110 ?_
    refine z_iconst C (v := 0) (by decide) dX12_readDevice_112 ?_
    obtain ⟨x17, hg16, h⟩ := zb1_e h
    refine z_callS C dX12_readDevice_113 yy_X12_word (c_X12_word C.2.2.2.2.1  (112 : Int32) (105 : Int32) (110 : Int32) (115 : Int32) (0 : Int32) I13 L hg16) q_1397 q_1398 (by decide) (by decide) rfl rfl (Nat.le_of_ble_eq_true rfl) ⟨Nat.le_refl _, Nat.le_refl _, Nat.le_refl _, Nat.le_refl _⟩ ?_
    refine z_lif_ne C 124 (by decide) dX12_readDevice_116 dX12_readDevice_117 (fun hc => ?_) (fun hc => ?_)
    · have h := zif_f hc h
      refine z_iconst C (v := 0) (by decide) dX12_readDevice_124 ?_
      refine z_lv [1, 2, 0] (lv' := [(0, .ref (B0 + 97)), (1, .long v1), (4, .int x12)]) rfl ?_
      exact l_X12_readDevice_125 C  v1 x12 (0 : Int32) I13 L h
    · have h := zif_t hc h
      refine z_iconst C (v := 1) (by decide) dX12_readDevice_120 ?_
      refine z_goto C 125 (by decide) dX12_readDevice_121 ?_
      refine z_lv [1, 2, 0] (lv' := [(0, .ref (B0 + 97)), (1, .long v1), (4, .int x12)]) rfl ?_
      exact l_X12_readDevice_125 C  v1 x12 (1 : Int32) I13 L h
  · have h := zif_f hc h
    refine z_iload_n C rfl 2 rfl dX12_readDevice_47 ?_
    refine z_if_eq C 70 (by decide) dX12_readDevice_48 (fun hc => ?_) (fun hc => ?_)
    · have h := zif_t hc h
      refine z_lv [0, 1, 3] (lv' := [(0, .ref (B0 + 97)), (1, .long v1), (4, .int v4)]) rfl ?_
      exact l_X12_readDevice_70 C k38 hk38 v1 v4 I L h
    · have h := zif_f hc h
      refine z_aload_n C rfl 0 rfl dX12_readDevice_51 ?_
      refine z_getr C zc_12 dX12_readDevice_52 24 97 113 rfl (by decide) (by decide) q_1193 rfl rfl ?_
      refine z_bipush C (v := 8) (by decide) dX12_readDevice_55 ?_
      refine z_iload C 3 rfl dX12_readDevice_57 ?_
      refine z_iadd C dX12_readDevice_59 ?_
      obtain ⟨x18, ex18, h⟩ := zlt_e h
      refine z_eqi C ex18 ?_
      obtain ⟨hb19, h⟩ := zck_e h
      refine z_laload C dX12_readDevice_60 rfl rfl (by decide) (zbd_in hb19) ?_
      refine z_lload_n C rfl 1 rfl dX12_readDevice_61 ?_
      refine z_lif_eq C 70 (by decide) dX12_readDevice_62 dX12_readDevice_63 (fun hc => ?_) (fun hc => ?_)
      · have h := zif_t hc h
        refine z_lv [0, 1, 3] (lv' := [(0, .ref (B0 + 97)), (1, .long v1), (4, .int v4)]) rfl ?_
        exact l_X12_readDevice_70 C k38 hk38 v1 v4 I L h
      · have h := zif_f hc h
        refine z_iconst C (v := 1) (by decide) dX12_readDevice_66 ?_
        refine z_goto C 71 (by decide) dX12_readDevice_67 ?_
        refine z_lv [0, 1, 3] (lv' := [(0, .ref (B0 + 97)), (1, .long v1), (4, .int v4)]) rfl ?_
        exact l_X12_readDevice_71 C k38 hk38 v1 v4 (1 : Int32) I L h
set_option maxHeartbeats 4000000 in
set_option maxRecDepth 100000 in
theorem L_X12_readDevice_38 {r : zI × zL} (C : zC p l e R s m args below meth c s0 a0 d cy B0 yX12_readDevice.cls cX12_readDevice 6 none bc bs bc bs 4 90 []) (v1 : Int64) (v3 : Int32) (v4 : Int32) (I : zI) (L : zL) (h : zlp5 (f_X12_readDevice_38) zF v1 v3 v4 I L = some r) : zG p l e R s m args below meth c d cy B0 6 bc bs (zQ below s args d cy B0 bc bs (.inl none) zSH zKn bc bs r.1 r.2) 38 [(0, .ref (B0 + 97)), (1, .long v1), (3, .int v3), (4, .int v4)] [] zSH zKn bc bs I L :=
 zlp5_e (fun (v1 : Int64) (v3 : Int32) (v4 : Int32) (I : zI) (L : zL) => zG p l e R s m args below meth c d cy B0 6 bc bs (zQ below s args d cy B0 bc bs (.inl none) zSH zKn bc bs r.1 r.2) 38 [(0, .ref (B0 + 97)), (1, .long v1), (3, .int v3), (4, .int v4)] [] zSH zKn bc bs I L) (fun k9 hk9 v1 v3 v4 I L h => l_X12_readDevice_38 C k9 hk9 v1 v3 v4 I L h) zF v1 v3 v4 I L h
set_option maxHeartbeats 4000000 in
set_option maxRecDepth 100000 in
theorem l_X12_readDevice_34 {r : zI × zL} (C : zC p l e R s m args below meth c s0 a0 d cy B0 yX12_readDevice.cls cX12_readDevice 6 none bc bs bc bs 4 90 []) (v1 : Int64) (w0 : Int32) (I : zI) (L : zL) (h : f_X12_readDevice_34 v1 w0 I L = some r) : zG p l e R s m args below meth c d cy B0 6 bc bs (zQ below s args d cy B0 bc bs (.inl none) zSH zKn bc bs r.1 r.2) 34 [(0, .ref (B0 + 97)), (1, .long v1)] [.int w0] zSH zKn bc bs I L := by
  unfold f_X12_readDevice_34 at h
  refine z_istore_n C (lv' := [(3, .int w0), (0, .ref (B0 + 97)), (1, .long v1)]) rfl (by decide) rfl dX12_readDevice_34 ?_
  refine z_iconst C (v := 0) (by decide) dX12_readDevice_35 ?_
  refine z_istore C (lv' := [(4, .int (0 : Int32)), (3, .int w0), (0, .ref (B0 + 97)), (1, .long v1)]) (by decide) rfl dX12_readDevice_36 ?_
  refine z_lv [2, 3, 1, 0] (lv' := [(0, .ref (B0 + 97)), (1, .long v1), (3, .int w0), (4, .int (0 : Int32))]) rfl ?_
  exact L_X12_readDevice_38 C  v1 w0 (0 : Int32) I L h
set_option maxHeartbeats 4000000 in
set_option maxRecDepth 100000 in
theorem l_X12_readDevice_15 {r : zI × zL} (C : zC p l e R s m args below meth c s0 a0 d cy B0 yX12_readDevice.cls cX12_readDevice 6 none bc bs bc bs 4 90 []) (w1 : Int32) (I : zI) (L : zL) (h : f_X12_readDevice_15 w1 I L = some r) : zG p l e R s m args below meth c d cy B0 6 bc bs (zQ below s args d cy B0 bc bs (.inl none) zSH zKn bc bs r.1 r.2) 15 [(0, .ref (B0 + 97))] [.int w1, .ref (B0 + 97)] zSH zKn bc bs I L := by
  unfold f_X12_readDevice_15 at h
  obtain ⟨I2, hg1, h⟩ := zb1_e h
  refine z_callV C zc_12 rfl (by decide) dX12_readDevice_15 yy_X12_take (c_X12_take C.2.2.2.2.1  w1 I L hg1) q_1404 q_1406 q_48 (by decide) (by decide) rfl rfl (Nat.le_of_ble_eq_true rfl) ⟨Nat.le_refl _, Nat.le_refl _, Nat.le_refl _, Nat.le_refl _⟩ ?_
  refine z_aload_n C rfl 0 rfl dX12_readDevice_18 ?_
  obtain ⟨x4, hg3, h⟩ := zb1_e h
  refine z_callV C zc_12 rfl (by decide) dX12_readDevice_19 yy_X12_name (c_X12_name C.2.2.2.2.1  I2 L hg3) q_1391 q_1393 q_46 (by decide) (by decide) rfl rfl (Nat.le_of_ble_eq_true rfl) ⟨Nat.le_refl _, Nat.le_refl _, Nat.le_refl _, Nat.le_refl _⟩ ?_
  refine z_lstore_n C (lv' := [(1, .long x4), (0, .ref (B0 + 97))]) rfl (by decide) rfl dX12_readDevice_22 ?_
  refine z_lload_n C rfl 0 rfl dX12_readDevice_23 ?_
  refine z_lconst C (v := 0) (by decide) dX12_readDevice_24 ?_
  refine z_lif_le C 33 (by decide) dX12_readDevice_25 dX12_readDevice_26 (fun hc => ?_) (fun hc => ?_)
  · have h := zif_t hc h
    refine z_iconst C (v := 0) (by decide) dX12_readDevice_33 ?_
    refine z_lv [1, 0] (lv' := [(0, .ref (B0 + 97)), (1, .long x4)]) rfl ?_
    exact l_X12_readDevice_34 C  x4 (0 : Int32) I2 L h
  · have h := zif_f hc h
    refine z_iconst C (v := 1) (by decide) dX12_readDevice_29 ?_
    refine z_goto C 34 (by decide) dX12_readDevice_30 ?_
    refine z_lv [1, 0] (lv' := [(0, .ref (B0 + 97)), (1, .long x4)]) rfl ?_
    exact l_X12_readDevice_34 C  x4 (1 : Int32) I2 L h
set_option maxHeartbeats 4000000 in
set_option maxRecDepth 100000 in
theorem c_X12_readDevice {r : zI × zL} (hE : zE0 l s0 a0 d cy B0) (I : zI) (L : zL) (h : f_X12_readDevice I L = some r) : zM l s0 d cy B0 yX12_readDevice cX12_readDevice 6 none 4 90 [.ref (B0 + 97)] zSH zKn bc bs I L (.inl none) zSH zKn bc bs r.1 r.2 := by
  refine z_meth yy_X12_readDevice hE (Nat.le_of_ble_eq_true rfl) (fun p e R s m args below meth c C => ?_)
  show zG p l e R s m args below meth c d cy B0 6 bc bs (zQ below s args d cy B0 bc bs (.inl none) zSH zKn bc bs r.1 r.2) 0 [(0, .ref (B0 + 97))] [] zSH zKn bc bs I L
  unfold f_X12_readDevice at h
  refine z_aload_n C rfl 0 rfl dX12_readDevice_0 ?_
  refine z_aload_n C rfl 0 rfl dX12_readDevice_1 ?_
  refine z_geti C zc_12 dX12_readDevice_2 53 97 rfl (by decide) (by decide) q_1222 rfl ?_
  refine z_bipush C (v := 8) (by decide) dX12_readDevice_5 ?_
  refine z_icmp_ge C 14 (by decide) dX12_readDevice_7 (fun hc => ?_) (fun hc => ?_)
  · have h := zif_t hc h
    refine z_iconst C (v := 0) (by decide) dX12_readDevice_14 ?_
    exact l_X12_readDevice_15 C  (0 : Int32) I L h
  · have h := zif_f hc h
    refine z_iconst C (v := 1) (by decide) dX12_readDevice_10 ?_
    refine z_goto C 15 (by decide) dX12_readDevice_11 ?_
    exact l_X12_readDevice_15 C  (1 : Int32) I L h
theorem q_47 : Cond.selects "DeviceFindModel" ⟨"DeviceFindModel", "readInput", "()V"⟩ ⟨"DeviceFindModel", "readInput", "()V"⟩ ∈ lw_tbl := List.mem_of_getElem? (i := 47) (by decide +kernel)
theorem q_52 : Cond.selects "DeviceFindModel" ⟨"DeviceFindModel", "readMake", "()V"⟩ ⟨"DeviceFindModel", "readMake", "()V"⟩ ∈ lw_tbl := List.mem_of_getElem? (i := 52) (by decide +kernel)
theorem q_54 : Cond.selects "DeviceFindModel" ⟨"DeviceFindModel", "readWire", "()V"⟩ ⟨"DeviceFindModel", "readWire", "()V"⟩ ∈ lw_tbl := List.mem_of_getElem? (i := 54) (by decide +kernel)
theorem q_55 : Cond.selects "DeviceFindModel" ⟨"DeviceFindModel", "readJoin", "()V"⟩ ⟨"DeviceFindModel", "readJoin", "()V"⟩ ∈ lw_tbl := List.mem_of_getElem? (i := 55) (by decide +kernel)
theorem q_57 : Cond.selects "DeviceFindModel" ⟨"DeviceFindModel", "readDevice", "()V"⟩ ⟨"DeviceFindModel", "readDevice", "()V"⟩ ∈ lw_tbl := List.mem_of_getElem? (i := 57) (by decide +kernel)
theorem q_1390 : (Cond.code ({ cls := "DeviceFindModel", name := "readSentence", desc := "()V" } : Jvm.MethodName) prog_14_method_28_code (3 : Nat) (Option.none : Option Jvm.ClassFile.FieldType)) ∈ lw_tbl := List.mem_of_getElem? (i := 1390) (by decide +kernel)
theorem q_1400 : (Cond.methodLink "DeviceFindModel" (214 : Nat) ({ cls := "DeviceFindModel", name := "readInput", desc := "()V" } : Jvm.MethodName)) ∈ lw_tbl := List.mem_of_getElem? (i := 1400) (by decide +kernel)
theorem q_1402 : (Cond.instanceMethod ({ cls := "DeviceFindModel", name := "readInput", desc := "()V" } : Jvm.MethodName)) ∈ lw_tbl := List.mem_of_getElem? (i := 1402) (by decide +kernel)
theorem q_1420 : (Cond.methodLink "DeviceFindModel" (217 : Nat) ({ cls := "DeviceFindModel", name := "readMake", desc := "()V" } : Jvm.MethodName)) ∈ lw_tbl := List.mem_of_getElem? (i := 1420) (by decide +kernel)
theorem q_1422 : (Cond.instanceMethod ({ cls := "DeviceFindModel", name := "readMake", desc := "()V" } : Jvm.MethodName)) ∈ lw_tbl := List.mem_of_getElem? (i := 1422) (by decide +kernel)
theorem q_1428 : (Cond.methodLink "DeviceFindModel" (220 : Nat) ({ cls := "DeviceFindModel", name := "readWire", desc := "()V" } : Jvm.MethodName)) ∈ lw_tbl := List.mem_of_getElem? (i := 1428) (by decide +kernel)
theorem q_1430 : (Cond.instanceMethod ({ cls := "DeviceFindModel", name := "readWire", desc := "()V" } : Jvm.MethodName)) ∈ lw_tbl := List.mem_of_getElem? (i := 1430) (by decide +kernel)
theorem q_1432 : (Cond.methodLink "DeviceFindModel" (223 : Nat) ({ cls := "DeviceFindModel", name := "readJoin", desc := "()V" } : Jvm.MethodName)) ∈ lw_tbl := List.mem_of_getElem? (i := 1432) (by decide +kernel)
theorem q_1434 : (Cond.instanceMethod ({ cls := "DeviceFindModel", name := "readJoin", desc := "()V" } : Jvm.MethodName)) ∈ lw_tbl := List.mem_of_getElem? (i := 1434) (by decide +kernel)
theorem q_1440 : (Cond.constantLong "DeviceFindModel" (226 : Nat) (5 : Int64)) ∈ lw_tbl := List.mem_of_getElem? (i := 1440) (by decide +kernel)
theorem q_1441 : (Cond.methodLink "DeviceFindModel" (228 : Nat) ({ cls := "DeviceFindModel", name := "readDevice", desc := "()V" } : Jvm.MethodName)) ∈ lw_tbl := List.mem_of_getElem? (i := 1441) (by decide +kernel)
theorem q_1443 : (Cond.instanceMethod ({ cls := "DeviceFindModel", name := "readDevice", desc := "()V" } : Jvm.MethodName)) ∈ lw_tbl := List.mem_of_getElem? (i := 1443) (by decide +kernel)
theorem yy_X12_readSentence : zY yX12_readSentence cX12_readSentence 3 none 0 := ⟨q_1390, q_88, by decide +kernel, by decide +kernel, by decide +kernel⟩
noncomputable def f_X12_readSentence_148 (I : zI) (L : zL) : Option (zI × zL) :=
  some (I, L)
noncomputable def f_X12_readSentence_134 (w1 : Int32) (I : zI) (L : zL) : Option (zI × zL) :=
  zck (zbo w1) (zlt (zu I 97 49 w1) (fun I24 => if (I24 97 49) = 0 then (f_X12_readSentence_148 I24 L) else (zb2 (f_X12_readDevice I24 L) (fun I27 L28 => f_X12_readSentence_148 I27 L28))))
noncomputable def f_X12_readSentence (I : zI) (L : zL) : Option (zI × zL) :=
  zb1 (f_X12_name I) (fun x2 => zb1 (f_X12_word (105 : Int32) (110 : Int32) (112 : Int32) (117 : Int32) (116 : Int32)) (fun x4 => if x2 = x4 then (zb2 (f_X12_readInput I L) (fun I22 L23 => f_X12_readSentence_148 I22 L23)) else (zb1 (f_X12_word (109 : Int32) (97 : Int32) (107 : Int32) (101 : Int32) (0 : Int32)) (fun x6 => if x2 = x6 then (zb2 (f_X12_readMake I L) (fun I19 L20 => f_X12_readSentence_148 I19 L20)) else (zb1 (f_X12_word (119 : Int32) (105 : Int32) (114 : Int32) (101 : Int32) (0 : Int32)) (fun x8 => if x2 = x8 then (zb1 (f_X12_readWire I L) (fun I17 => f_X12_readSentence_148 I17 L)) else (zb1 (f_X12_word (106 : Int32) (111 : Int32) (105 : Int32) (110 : Int32) (0 : Int32)) (fun x10 => if x2 = x10 then (zb1 (f_X12_readJoin I L) (fun I15 => f_X12_readSentence_148 I15 L)) else (zb1 (f_X12_word (100 : Int32) (101 : Int32) (118 : Int32) (105 : Int32) (99 : Int32)) (fun x12 => zlt (((27 : Int64) * x12) + (5 : Int64)) (fun x13 => if x2 = x13 then (f_X12_readSentence_134 (1 : Int32) I L) else (f_X12_readSentence_134 (0 : Int32) I L))))))))))))
set_option maxHeartbeats 4000000 in
set_option maxRecDepth 100000 in
theorem l_X12_readSentence_148 {r : zI × zL} (C : zC p l e R s m args below meth c s0 a0 d cy B0 yX12_readSentence.cls cX12_readSentence 3 none bc bs bc bs 5 115 []) (I : zI) (L : zL) (h : f_X12_readSentence_148 I L = some r) : zG p l e R s m args below meth c d cy B0 3 bc bs (zQ below s args d cy B0 bc bs (.inl none) zSH zKn bc bs r.1 r.2) 148 [] [] zSH zKn bc bs I L := by
  unfold f_X12_readSentence_148 at h
  obtain rfl := Option.some.inj h
  exact z_vret C dX12_readSentence_148 rfl rfl
set_option maxHeartbeats 4000000 in
set_option maxRecDepth 100000 in
theorem l_X12_readSentence_134 {r : zI × zL} (C : zC p l e R s m args below meth c s0 a0 d cy B0 yX12_readSentence.cls cX12_readSentence 3 none bc bs bc bs 5 115 []) (w1 : Int32) (I : zI) (L : zL) (h : f_X12_readSentence_134 w1 I L = some r) : zG p l e R s m args below meth c d cy B0 3 bc bs (zQ below s args d cy B0 bc bs (.inl none) zSH zKn bc bs r.1 r.2) 134 [(0, .ref (B0 + 97))] [.int w1, .ref (B0 + 97)] zSH zKn bc bs I L := by
  unfold f_X12_readSentence_134 at h
  obtain ⟨hb25, h⟩ := zck_e h
  refine z_puti C zc_12 dX12_readSentence_134 49 97 rfl (by decide) (by decide) rfl q_1218 (zbo_n hb25).1 (zbo_n hb25).2 rfl ?_
  obtain ⟨I24, eI24, h⟩ := zlt_e h
  refine z_eqI C eI24 ?_
  refine z_aload_n C rfl 0 rfl dX12_readSentence_137 ?_
  refine z_geti C zc_12 dX12_readSentence_138 49 97 rfl (by decide) (by decide) q_1218 rfl ?_
  refine z_if_eq C 148 (by decide) dX12_readSentence_141 (fun hc => ?_) (fun hc => ?_)
  · have h := zif_t hc h
    refine z_lv [] (lv' := []) rfl ?_
    exact l_X12_readSentence_148 C  I24 L h
  · have h := zif_f hc h
    refine z_aload_n C rfl 0 rfl dX12_readSentence_144 ?_
    obtain ⟨I27, L28, hg26, h⟩ := zb2_e h
    refine z_callV C zc_12 rfl (by decide) dX12_readSentence_145 yy_X12_readDevice (c_X12_readDevice C.2.2.2.2.1  I24 L hg26) q_1441 q_1443 q_57 (by decide) (by decide) rfl rfl (Nat.le_of_ble_eq_true rfl) ⟨Nat.le_refl _, Nat.le_refl _, Nat.le_refl _, Nat.le_refl _⟩ ?_
    refine z_lv [] (lv' := []) rfl ?_
    exact l_X12_readSentence_148 C  I27 L28 h
set_option maxHeartbeats 4000000 in
set_option maxRecDepth 100000 in
theorem c_X12_readSentence {r : zI × zL} (hE : zE0 l s0 a0 d cy B0) (I : zI) (L : zL) (h : f_X12_readSentence I L = some r) : zM l s0 d cy B0 yX12_readSentence cX12_readSentence 3 none 5 115 [.ref (B0 + 97)] zSH zKn bc bs I L (.inl none) zSH zKn bc bs r.1 r.2 := by
  refine z_meth yy_X12_readSentence hE (Nat.le_of_ble_eq_true rfl) (fun p e R s m args below meth c C => ?_)
  show zG p l e R s m args below meth c d cy B0 3 bc bs (zQ below s args d cy B0 bc bs (.inl none) zSH zKn bc bs r.1 r.2) 0 [(0, .ref (B0 + 97))] [] zSH zKn bc bs I L
  unfold f_X12_readSentence at h
  refine z_aload_n C rfl 0 rfl dX12_readSentence_0 ?_
  obtain ⟨x2, hg1, h⟩ := zb1_e h
  refine z_callV C zc_12 rfl (by decide) dX12_readSentence_1 yy_X12_name (c_X12_name C.2.2.2.2.1  I L hg1) q_1391 q_1393 q_46 (by decide) (by decide) rfl rfl (Nat.le_of_ble_eq_true rfl) ⟨Nat.le_refl _, Nat.le_refl _, Nat.le_refl _, Nat.le_refl _⟩ ?_
  refine z_lstore_n C (lv' := [(1, .long x2), (0, .ref (B0 + 97))]) rfl (by decide) rfl dX12_readSentence_4 ?_
  refine z_lload_n C rfl 0 rfl dX12_readSentence_5 ?_
  refine z_bipush C (v := 105) (by decide) dX12_readSentence_6 ?_
  refine z_bipush C (v := 110) (by decide) dX12_readSentence_8 ?_
  refine z_bipush C (v := 112) (by decide) dX12_readSentence_10 ?_
  refine z_bipush C (v := 117) (by decide) dX12_readSentence_12 ?_
  refine z_bipush C (v := 116) (by decide) dX12_readSentence_14 ?_
  obtain ⟨x4, hg3, h⟩ := zb1_e h
  refine z_callS C dX12_readSentence_16 yy_X12_word (c_X12_word C.2.2.2.2.1  (105 : Int32) (110 : Int32) (112 : Int32) (117 : Int32) (116 : Int32) I L hg3) q_1397 q_1398 (by decide) (by decide) rfl rfl (Nat.le_of_ble_eq_true rfl) ⟨Nat.le_refl _, Nat.le_refl _, Nat.le_refl _, Nat.le_refl _⟩ ?_
  refine z_lif_ne C 30 (by decide) dX12_readSentence_19 dX12_readSentence_20 (fun hc => ?_) (fun hc => ?_)
  · have h := zif_f hc h
    refine z_lload_n C rfl 0 rfl dX12_readSentence_30 ?_
    refine z_bipush C (v := 109) (by decide) dX12_readSentence_31 ?_
    refine z_bipush C (v := 97) (by decide) dX12_readSentence_33 ?_
    refine z_bipush C (v := 107) (by decide) dX12_readSentence_35 ?_
    refine z_bipush C (v := 101) (by decide) dX12_readSentence_37 ?_
    refine z_iconst C (v := 0) (by decide) dX12_readSentence_39 ?_
    obtain ⟨x6, hg5, h⟩ := zb1_e h
    refine z_callS C dX12_readSentence_40 yy_X12_word (c_X12_word C.2.2.2.2.1  (109 : Int32) (97 : Int32) (107 : Int32) (101 : Int32) (0 : Int32) I L hg5) q_1397 q_1398 (by decide) (by decide) rfl rfl (Nat.le_of_ble_eq_true rfl) ⟨Nat.le_refl _, Nat.le_refl _, Nat.le_refl _, Nat.le_refl _⟩ ?_
    refine z_lif_ne C 54 (by decide) dX12_readSentence_43 dX12_readSentence_44 (fun hc => ?_) (fun hc => ?_)
    · have h := zif_f hc h
      refine z_lload_n C rfl 0 rfl dX12_readSentence_54 ?_
      refine z_bipush C (v := 119) (by decide) dX12_readSentence_55 ?_
      refine z_bipush C (v := 105) (by decide) dX12_readSentence_57 ?_
      refine z_bipush C (v := 114) (by decide) dX12_readSentence_59 ?_
      refine z_bipush C (v := 101) (by decide) dX12_readSentence_61 ?_
      refine z_iconst C (v := 0) (by decide) dX12_readSentence_63 ?_
      obtain ⟨x8, hg7, h⟩ := zb1_e h
      refine z_callS C dX12_readSentence_64 yy_X12_word (c_X12_word C.2.2.2.2.1  (119 : Int32) (105 : Int32) (114 : Int32) (101 : Int32) (0 : Int32) I L hg7) q_1397 q_1398 (by decide) (by decide) rfl rfl (Nat.le_of_ble_eq_true rfl) ⟨Nat.le_refl _, Nat.le_refl _, Nat.le_refl _, Nat.le_refl _⟩ ?_
      refine z_lif_ne C 78 (by decide) dX12_readSentence_67 dX12_readSentence_68 (fun hc => ?_) (fun hc => ?_)
      · have h := zif_f hc h
        refine z_lload_n C rfl 0 rfl dX12_readSentence_78 ?_
        refine z_bipush C (v := 106) (by decide) dX12_readSentence_79 ?_
        refine z_bipush C (v := 111) (by decide) dX12_readSentence_81 ?_
        refine z_bipush C (v := 105) (by decide) dX12_readSentence_83 ?_
        refine z_bipush C (v := 110) (by decide) dX12_readSentence_85 ?_
        refine z_iconst C (v := 0) (by decide) dX12_readSentence_87 ?_
        obtain ⟨x10, hg9, h⟩ := zb1_e h
        refine z_callS C dX12_readSentence_88 yy_X12_word (c_X12_word C.2.2.2.2.1  (106 : Int32) (111 : Int32) (105 : Int32) (110 : Int32) (0 : Int32) I L hg9) q_1397 q_1398 (by decide) (by decide) rfl rfl (Nat.le_of_ble_eq_true rfl) ⟨Nat.le_refl _, Nat.le_refl _, Nat.le_refl _, Nat.le_refl _⟩ ?_
        refine z_lif_ne C 102 (by decide) dX12_readSentence_91 dX12_readSentence_92 (fun hc => ?_) (fun hc => ?_)
        · have h := zif_f hc h
          refine z_aload_n C rfl 1 rfl dX12_readSentence_102 ?_
          refine z_lload_n C rfl 0 rfl dX12_readSentence_103 ?_
          refine z_ldc2 C dX12_readSentence_104 q_1395 ?_
          refine z_bipush C (v := 100) (by decide) dX12_readSentence_107 ?_
          refine z_bipush C (v := 101) (by decide) dX12_readSentence_109 ?_
          refine z_bipush C (v := 118) (by decide) dX12_readSentence_111 ?_
          refine z_bipush C (v := 105) (by decide) dX12_readSentence_113 ?_
          refine z_bipush C (v := 99) (by decide) dX12_readSentence_115 ?_
          obtain ⟨x12, hg11, h⟩ := zb1_e h
          refine z_callS C dX12_readSentence_117 yy_X12_word (c_X12_word C.2.2.2.2.1  (100 : Int32) (101 : Int32) (118 : Int32) (105 : Int32) (99 : Int32) I L hg11) q_1397 q_1398 (by decide) (by decide) rfl rfl (Nat.le_of_ble_eq_true rfl) ⟨Nat.le_refl _, Nat.le_refl _, Nat.le_refl _, Nat.le_refl _⟩ ?_
          refine z_lmul C dX12_readSentence_120 ?_
          refine z_ldc2 C dX12_readSentence_121 q_1440 ?_
          refine z_ladd C dX12_readSentence_124 ?_
          obtain ⟨x13, ex13, h⟩ := zlt_e h
          refine z_eql C ex13 ?_
          refine z_lif_ne C 133 (by decide) dX12_readSentence_125 dX12_readSentence_126 (fun hc => ?_) (fun hc => ?_)
          · have h := zif_f hc h
            refine z_iconst C (v := 0) (by decide) dX12_readSentence_133 ?_
            refine z_lv [1] (lv' := [(0, .ref (B0 + 97))]) rfl ?_
            exact l_X12_readSentence_134 C  (0 : Int32) I L h
          · have h := zif_t hc h
            refine z_iconst C (v := 1) (by decide) dX12_readSentence_129 ?_
            refine z_goto C 134 (by decide) dX12_readSentence_130 ?_
            refine z_lv [1] (lv' := [(0, .ref (B0 + 97))]) rfl ?_
            exact l_X12_readSentence_134 C  (1 : Int32) I L h
        · have h := zif_t hc h
          refine z_aload_n C rfl 1 rfl dX12_readSentence_95 ?_
          obtain ⟨I15, hg14, h⟩ := zb1_e h
          refine z_callV C zc_12 rfl (by decide) dX12_readSentence_96 yy_X12_readJoin (c_X12_readJoin C.2.2.2.2.1  I L hg14) q_1432 q_1434 q_55 (by decide) (by decide) rfl rfl (Nat.le_of_ble_eq_true rfl) ⟨Nat.le_refl _, Nat.le_refl _, Nat.le_refl _, Nat.le_refl _⟩ ?_
          refine z_goto C 148 (by decide) dX12_readSentence_99 ?_
          refine z_lv [] (lv' := []) rfl ?_
          exact l_X12_readSentence_148 C  I15 L h
      · have h := zif_t hc h
        refine z_aload_n C rfl 1 rfl dX12_readSentence_71 ?_
        obtain ⟨I17, hg16, h⟩ := zb1_e h
        refine z_callV C zc_12 rfl (by decide) dX12_readSentence_72 yy_X12_readWire (c_X12_readWire C.2.2.2.2.1  I L hg16) q_1428 q_1430 q_54 (by decide) (by decide) rfl rfl (Nat.le_of_ble_eq_true rfl) ⟨Nat.le_refl _, Nat.le_refl _, Nat.le_refl _, Nat.le_refl _⟩ ?_
        refine z_goto C 148 (by decide) dX12_readSentence_75 ?_
        refine z_lv [] (lv' := []) rfl ?_
        exact l_X12_readSentence_148 C  I17 L h
    · have h := zif_t hc h
      refine z_aload_n C rfl 1 rfl dX12_readSentence_47 ?_
      obtain ⟨I19, L20, hg18, h⟩ := zb2_e h
      refine z_callV C zc_12 rfl (by decide) dX12_readSentence_48 yy_X12_readMake (c_X12_readMake C.2.2.2.2.1  I L hg18) q_1420 q_1422 q_52 (by decide) (by decide) rfl rfl (Nat.le_of_ble_eq_true rfl) ⟨Nat.le_refl _, Nat.le_refl _, Nat.le_refl _, Nat.le_refl _⟩ ?_
      refine z_goto C 148 (by decide) dX12_readSentence_51 ?_
      refine z_lv [] (lv' := []) rfl ?_
      exact l_X12_readSentence_148 C  I19 L20 h
  · have h := zif_t hc h
    refine z_aload_n C rfl 1 rfl dX12_readSentence_23 ?_
    obtain ⟨I22, L23, hg21, h⟩ := zb2_e h
    refine z_callV C zc_12 rfl (by decide) dX12_readSentence_24 yy_X12_readInput (c_X12_readInput C.2.2.2.2.1  I L hg21) q_1400 q_1402 q_47 (by decide) (by decide) rfl rfl (Nat.le_of_ble_eq_true rfl) ⟨Nat.le_refl _, Nat.le_refl _, Nat.le_refl _, Nat.le_refl _⟩ ?_
    refine z_goto C 148 (by decide) dX12_readSentence_27 ?_
    refine z_lv [] (lv' := []) rfl ?_
    exact l_X12_readSentence_148 C  I22 L23 h
end Zp05_17_walk
