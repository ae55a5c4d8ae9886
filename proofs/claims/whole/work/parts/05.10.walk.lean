section Zp05_10_walk
variable {p : Program} {l : Launch} {e : Env} {R : Room} {s : State} {m : MethodId} {args : Array Value} {below : List Frame} {meth : Method} {c : Code} {s0 : State} {a0 : Array Value} {d : va_G} {cy : Nat → ClassId} {B0 : Nat} {bc bs : Nat}
theorem q_128 : (Cond.fieldLink "DeviceFind" (111 : Nat) "DeviceFind$Tape" "length" "I") ∈ lw_tbl := List.mem_of_getElem? (i := 128) (by decide +kernel)
theorem q_211 : (Cond.fieldLink "DeviceFind" (118 : Nat) "DeviceFind$Plan" "kinds" "I") ∈ lw_tbl := List.mem_of_getElem? (i := 211) (by decide +kernel)
theorem q_471 : (Cond.fieldLink "DeviceFind" (35 : Nat) "DeviceFind" "reader" "LDeviceFind$Reader;") ∈ lw_tbl := List.mem_of_getElem? (i := 471) (by decide +kernel)
theorem q_477 : (Cond.fieldLink "DeviceFind" (89 : Nat) "DeviceFind" "plan" "LDeviceFind$Plan;") ∈ lw_tbl := List.mem_of_getElem? (i := 477) (by decide +kernel)
theorem q_478 : (Cond.fieldLink "DeviceFind" (93 : Nat) "DeviceFind" "told" "Z") ∈ lw_tbl := List.mem_of_getElem? (i := 478) (by decide +kernel)
theorem q_479 : (Cond.fieldLink "DeviceFind" (97 : Nat) "DeviceFind" "found" "Z") ∈ lw_tbl := List.mem_of_getElem? (i := 479) (by decide +kernel)
theorem q_523 : (Cond.code ({ cls := "DeviceFind", name := "read", desc := "()I" } : Jvm.MethodName) prog_1_method_4_code (2 : Nat) (Option.some Jvm.ClassFile.FieldType.int)) ∈ lw_tbl := List.mem_of_getElem? (i := 523) (by decide +kernel)
theorem q_524 : (Cond.methodLink "DeviceFind" (107 : Nat) ({ cls := "DeviceFind$Reader", name := "wrongWord", desc := "()I" } : Jvm.MethodName)) ∈ lw_tbl := List.mem_of_getElem? (i := 524) (by decide +kernel)
theorem q_525 : (Cond.instanceMethod ({ cls := "DeviceFind$Reader", name := "wrongWord", desc := "()I" } : Jvm.MethodName)) ∈ lw_tbl := List.mem_of_getElem? (i := 525) (by decide +kernel)
theorem q_526 : (Cond.selects "DeviceFind$Reader" ({ cls := "DeviceFind$Reader", name := "wrongWord", desc := "()I" } : Jvm.MethodName) ({ cls := "DeviceFind$Reader", name := "wrongWord", desc := "()I" } : Jvm.MethodName)) ∈ lw_tbl := List.mem_of_getElem? (i := 526) (by decide +kernel)
theorem q_709 : (Cond.methodLink "DeviceFind" (114 : Nat) ({ cls := "DeviceFind$Reader", name := "exchange", desc := "(LDeviceFind$Plan;)LDeviceFind$Plan;" } : Jvm.MethodName)) ∈ lw_tbl := List.mem_of_getElem? (i := 709) (by decide +kernel)
theorem q_710 : (Cond.instanceMethod ({ cls := "DeviceFind$Reader", name := "exchange", desc := "(LDeviceFind$Plan;)LDeviceFind$Plan;" } : Jvm.MethodName)) ∈ lw_tbl := List.mem_of_getElem? (i := 710) (by decide +kernel)
theorem q_711 : (Cond.selects "DeviceFind$Reader" ({ cls := "DeviceFind$Reader", name := "exchange", desc := "(LDeviceFind$Plan;)LDeviceFind$Plan;" } : Jvm.MethodName) ({ cls := "DeviceFind$Reader", name := "exchange", desc := "(LDeviceFind$Plan;)LDeviceFind$Plan;" } : Jvm.MethodName)) ∈ lw_tbl := List.mem_of_getElem? (i := 711) (by decide +kernel)
theorem yy_X11_read : zY yX11_read cX11_read 2 (some .int) 0 := ⟨q_523, q_75, by decide +kernel, by decide +kernel, by decide +kernel⟩
noncomputable def f_X11_read (P : Nat) (Q : Nat) (I : zI) (L : zL) : Option (Int32 × zI × zL) :=
  zb3 (f_X8_wrongWord Q I L) (fun x2 I3 L4 => zlt (zu I3 1 1 (0 : Int32)) (fun I5 => if x2 = (-1 : Int32) then (zck (decide (I5 0 8 = nI (P + 1))) (zb1 (f_X8_exchange P Q I5) (fun I8 => zlt (zu I8 0 8 (nI (Q + 1))) (fun I9 => zlt (zu I9 0 9 (1 : Int32)) (fun I10 => zlt (zu I10 0 10 (0 : Int32)) (fun I11 => zck (decide (I11 0 8 = nI (Q + 1))) (zlt (I11 Q 15) (fun x13 => some (x13, I11, L4))))))))) else (zlt ((-1 : Int32) - x2) (fun x14 => some (x14, I5, L4)))))
set_option maxHeartbeats 4000000 in
set_option maxRecDepth 100000 in
theorem c_X11_read {r : Int32 × zI × zL} (hE : zE0 l s0 a0 d cy B0) {P : Nat} (hP : zpl P) {Q : Nat} (hQ : zpl Q) (I : zI) (L : zL) (h : f_X11_read P Q I L = some r) : zM l s0 d cy B0 yX11_read cX11_read 2 (some .int) 11 237 [.ref (B0 + 0)] zSH zKn bc bs I L (.inl (some (.int r.1))) zSH zKn bc bs r.2.1 r.2.2 := by
  refine z_meth yy_X11_read hE (Nat.le_of_ble_eq_true rfl) (fun p e R s m args below meth c C => ?_)
  show zG p l e R s m args below meth c d cy B0 2 bc bs (zQ below s args d cy B0 bc bs (.inl (some (.int r.1))) zSH zKn bc bs r.2.1 r.2.2) 0 [(0, .ref (B0 + 0))] [] zSH zKn bc bs I L
  unfold f_X11_read at h
  refine z_aload_n C rfl 0 rfl dX11_read_0 ?_
  refine z_getr C zc_11 dX11_read_1 2 0 3 rfl (by decide) (by decide) q_471 rfl rfl ?_
  obtain ⟨x2, I3, L4, hg1, h⟩ := zb3_e h
  refine z_callV C zc_8 rfl (by decide) dX11_read_4 yy_X8_wrongWord (c_X8_wrongWord C.2.2.2.2.1 hQ I L hg1) q_524 q_525 q_526 (by decide) (by decide) rfl rfl (Nat.le_of_ble_eq_true rfl) ⟨Nat.le_refl _, Nat.le_refl _, Nat.le_refl _, Nat.le_refl _⟩ ?_
  refine z_istore_n C (lv' := [(1, .int x2), (0, .ref (B0 + 0))]) rfl (by decide) rfl dX11_read_7 ?_
  refine z_aload_n C rfl 1 rfl dX11_read_8 ?_
  refine z_getr C zc_11 dX11_read_9 1 0 1 rfl (by decide) (by decide) q_470 rfl rfl ?_
  refine z_iconst C (v := 0) (by decide) dX11_read_12 ?_
  refine z_puti C zc_9 dX11_read_13 1 1 rfl (by decide) (by decide) rfl q_128 rfl rfl rfl ?_
  obtain ⟨I5, eI5, h⟩ := zlt_e h
  refine z_eqI C eI5 ?_
  refine z_iload_n C rfl 0 rfl dX11_read_16 ?_
  refine z_iconst C (v := -1) (by decide) dX11_read_17 ?_
  refine z_icmp_eq C 25 (by decide) dX11_read_18 (fun hc => ?_) (fun hc => ?_)
  · have h := zif_t hc h
    refine z_aload_n C rfl 1 rfl dX11_read_25 ?_
    refine z_aload_n C rfl 1 rfl dX11_read_26 ?_
    refine z_getr C zc_11 dX11_read_27 2 0 3 rfl (by decide) (by decide) q_471 rfl rfl ?_
    refine z_aload_n C rfl 1 rfl dX11_read_30 ?_
    obtain ⟨hb6, h⟩ := zck_e h
    refine z_getm C zc_11 dX11_read_31 8 0 P rfl (by decide) (by decide) q_477 rfl (of_decide_eq_true hb6) (zpl_lt2 hP) ?_
    obtain ⟨I8, hg7, h⟩ := zb1_e h
    refine z_callV C zc_8 rfl (by decide) dX11_read_34 yy_X8_exchange (c_X8_exchange C.2.2.2.2.1 hP hQ I5 L4 hg7) q_709 q_710 q_711 (by decide) (by decide) rfl rfl (Nat.le_of_ble_eq_true rfl) ⟨Nat.le_refl _, Nat.le_refl _, Nat.le_refl _, Nat.le_refl _⟩ ?_
    refine z_putr C zc_11 dX11_read_37 8 0 rfl (by decide) (by decide) rfl q_477 (zpl_lt2 hQ) rfl rfl rfl ?_
    obtain ⟨I9, eI9, h⟩ := zlt_e h
    refine z_eqI C eI9 ?_
    refine z_aload_n C rfl 1 rfl dX11_read_40 ?_
    refine z_iconst C (v := 1) (by decide) dX11_read_41 ?_
    refine z_puti C zc_11 dX11_read_42 9 0 rfl (by decide) (by decide) rfl q_478 rfl rfl rfl ?_
    obtain ⟨I10, eI10, h⟩ := zlt_e h
    refine z_eqI C eI10 ?_
    refine z_aload_n C rfl 1 rfl dX11_read_45 ?_
    refine z_iconst C (v := 0) (by decide) dX11_read_46 ?_
    refine z_puti C zc_11 dX11_read_47 10 0 rfl (by decide) (by decide) rfl q_479 rfl rfl rfl ?_
    obtain ⟨I11, eI11, h⟩ := zlt_e h
    refine z_eqI C eI11 ?_
    refine z_aload_n C rfl 1 rfl dX11_read_50 ?_
    obtain ⟨hb12, h⟩ := zck_e h
    refine z_getm C zc_11 dX11_read_51 8 0 Q rfl (by decide) (by decide) q_477 rfl (of_decide_eq_true hb12) (zpl_lt2 hQ) ?_
    refine z_geti C zc_7 dX11_read_54 15 Q (zpl_k hQ) (zpl_lt hQ) (by decide) q_211 rfl ?_
    obtain ⟨x13, ex13, h⟩ := zlt_e h
    refine z_eqi C ex13 ?_
    obtain rfl := Option.some.inj h
    exact z_iret C dX11_read_57 .int rfl rfl rfl
  · have h := zif_f hc h
    refine z_iconst C (v := -1) (by decide) dX11_read_21 ?_
    refine z_iload_n C rfl 0 rfl dX11_read_22 ?_
    refine z_isub C dX11_read_23 ?_
    obtain ⟨x14, ex14, h⟩ := zlt_e h
    refine z_eqi C ex14 ?_
    obtain rfl := Option.some.inj h
    exact z_iret C dX11_read_24 .int rfl rfl rfl
end Zp05_10_walk
