set_option maxHeartbeats 4000000 in
set_option maxRecDepth 100000 in
theorem c_X0_init (l : Launch) (D : va_G) (q0 : Nat) : mKv l nM_X0_init nC_X0_init 1 ({ frames := 1, cells := 0, slots := 0, locals := 12 } : Room) D [.ref q0] [(q0, .inr (0, [.int 0, .int 0, .int 0, .int 0, .int 0]))] 0 0 (fun u => u = ([(q0, .inr (0, [.int 0, .int 0, .int 0, .int 0, .int 0]))], [])) := by
  intro sz
  refine mKt (by decide) (Nat.le_of_ble_eq_true rfl) ?_
  intro p e s m below meth c ls hx hb hml hr hown hlocks hin hw hn hao hP hK hD hS hA hl hsz
  subst hsz
  have hl : lv_has ls 1 [(0, .ref q0)] := hl
  refine lv_aload_n hx hb nD_X0_init_0 rfl (lv_at hl 0 rfl) ?_
  refine W.objInit hx hb hown (hw _ wm_104) (hw _ wm_41) (hw _ wm_42) rfl (hl.1.trans hml.symm) rfl nD_X0_init_1 (Nat.le_of_ble_eq_true rfl) (Nat.le_of_ble_eq_true rfl) ?_
  refine W.eq (g2 := F0 m 4 ls []) rfl ?_
  exact mk_v hx hb hr hlocks rfl hP hK hD hS nD_X0_init_4
set_option maxHeartbeats 4000000 in
set_option maxRecDepth 100000 in
theorem c_X4_init (l : Launch) (D : va_G) (q0 : Nat) : mKv l nM_X4_init nC_X4_init 1 ({ frames := 1, cells := 0, slots := 0, locals := 12 } : Room) D [.ref q0] [(q0, .inr (3, [.int 0, .int 0]))] 0 0 (fun u => u = ([(q0, .inr (3, [.int 0, .int 0]))], [])) := by
  intro sz
  refine mKt (by decide) (Nat.le_of_ble_eq_true rfl) ?_
  intro p e s m below meth c ls hx hb hml hr hown hlocks hin hw hn hao hP hK hD hS hA hl hsz
  subst hsz
  have hl : lv_has ls 1 [(0, .ref q0)] := hl
  refine lv_aload_n hx hb nD_X4_init_0 rfl (lv_at hl 0 rfl) ?_
  refine W.objInit hx hb hown (hw _ wm_48) (hw _ wm_41) (hw _ wm_42) rfl (hl.1.trans hml.symm) rfl nD_X4_init_1 (Nat.le_of_ble_eq_true rfl) (Nat.le_of_ble_eq_true rfl) ?_
  refine W.eq (g2 := F0 m 4 ls []) rfl ?_
  exact mk_v hx hb hr hlocks rfl hP hK hD hS nD_X4_init_4
set_option maxHeartbeats 4000000 in
set_option maxRecDepth 100000 in
theorem c_X3_init (l : Launch) (D : va_G) (q0 : Nat) : mKv l nM_X3_init nC_X3_init 1 ({ frames := 1, cells := 2, slots := 1704, locals := 12 } : Room) D [.ref q0] [(q0, .inr (2, [.null, .null, .int 0]))] 2 1704 (fun u => ∃ (q1 : Nat) (q3 : Nat) (c2 : ClassId) (c4 : ClassId), u = ([(q0, .inr (2, [.ref q1, .ref q3, .int 0])), (q1, .inl (c2, 680, .inr (.inl (fun _ => 0)))), (q3, .inl (c4, 1024, .inl (fun _ => 0)))], [(c2, .long), (c4, .int)])) := by
  intro sz
  refine mKt (by decide) (Nat.le_of_ble_eq_true rfl) ?_
  intro p e s m below meth c ls hx hb hml hr hown hlocks hin hw hn hao hP hK hD hS hA hl hsz
  subst hsz
  have hl : lv_has ls 1 [(0, .ref q0)] := hl
  refine lv_aload_n hx hb nD_X3_init_0 rfl (lv_at hl 0 rfl) ?_
  refine W.objInit hx hb hown (hw _ wm_69) (hw _ wm_41) (hw _ wm_42) rfl (hl.1.trans hml.symm) rfl nD_X3_init_1 (Nat.le_of_ble_eq_true rfl) (Nat.le_of_ble_eq_true rfl) ?_
  refine W.eq (g2 := F0 m 4 ls []) rfl ?_
  refine lv_aload_n hx hb nD_X3_init_4 rfl (lv_at hl 0 rfl) ?_
  refine lv_sipush (v := (680 : Int32)) hx hb nD_X3_init_5 (by decide) ?_
  refine va_newa (atype := .long) (ty := .long) (N' := 680) (a0 := (680, .inr (.inl (fun _ => 0)))) hx hb (hw _ wm_82) rfl hK hP hD hS hA (fun _ => rfl) (by decide) (by decide) (by decide) (Nat.le_of_ble_eq_true rfl) (Nat.le_of_ble_eq_true rfl) nD_X3_init_8 (fun q1 c2 H hK hP hD hS => ?_)
  have hP : va_P D nCl [(q0, .inr (2, [.null, .null, .int 0])), (q1, .inl (c2, 680, .inr (.inl (fun _ => 0))))] H := hP
  have hD : va_D _ [(q0, .inr (2, [.null, .null, .int 0])), (q1, .inl (c2, 680, .inr (.inl (fun _ => 0))))] := hD
  have hK : va_K D nCl [(c2, .long)] s := hK
  refine W.widen (k := 1) (n := 680) (Nat.le_of_ble_eq_true rfl) (Nat.le_of_ble_eq_true rfl) ?_
  refine va_putF (D := D) (ci := 2) (v := .ref q1) (ty := (.array .long)) (C := nR_X3) (T := nT_X3) (N := 3) hx hb hw wu_X3 nY_X3 nO_X3 nN_X3 hown hK hP hD hS 0 rfl rfl 0 (by decide) (hw _ wm_70) (fun _ h9 => h9) rfl hin rfl (by decide +kernel) rfl rfl (Nat.le_of_ble_eq_true rfl) nD_X3_init_10 (fun H locs hP hD hS => ?_)
  have hP : va_P D nCl [(q0, .inr (2, [.ref q1, .null, .int 0])), (q1, .inl (c2, 680, .inr (.inl (fun _ => 0))))] H := hP
  have hD : va_D _ [(q0, .inr (2, [.ref q1, .null, .int 0])), (q1, .inl (c2, 680, .inr (.inl (fun _ => 0))))] := hD
  refine lv_aload_n hx hb nD_X3_init_13 rfl (lv_at hl 0 rfl) ?_
  refine lv_sipush (v := (1024 : Int32)) hx hb nD_X3_init_14 (by decide) ?_
  refine va_newa (atype := .int) (ty := .int) (N' := 1024) (a0 := (1024, .inl (fun _ => 0))) hx hb (hw _ wm_81) rfl hK hP hD hS hA (fun _ => rfl) (by decide) (by decide) (by decide) (Nat.le_of_ble_eq_true rfl) (Nat.le_of_ble_eq_true rfl) nD_X3_init_17 (fun q3 c4 H hK hP hD hS => ?_)
  have hP : va_P D nCl [(q0, .inr (2, [.ref q1, .null, .int 0])), (q1, .inl (c2, 680, .inr (.inl (fun _ => 0)))), (q3, .inl (c4, 1024, .inl (fun _ => 0)))] H := hP
  have hD : va_D _ [(q0, .inr (2, [.ref q1, .null, .int 0])), (q1, .inl (c2, 680, .inr (.inl (fun _ => 0)))), (q3, .inl (c4, 1024, .inl (fun _ => 0)))] := hD
  have hK : va_K D nCl [(c2, .long), (c4, .int)] s := hK
  refine W.widen (k := 2) (n := 1704) (Nat.le_of_ble_eq_true rfl) (Nat.le_of_ble_eq_true rfl) ?_
  refine va_putF (D := D) (ci := 2) (v := .ref q3) (ty := (.array .int)) (C := nR_X3) (T := nT_X3) (N := 3) hx hb hw wu_X3 nY_X3 nO_X3 nN_X3 hown hK hP hD hS 0 rfl rfl 1 (by decide) (hw _ wm_71) (fun _ h9 => h9) rfl hin rfl (by decide +kernel) rfl rfl (Nat.le_of_ble_eq_true rfl) nD_X3_init_19 (fun H locs hP hD hS => ?_)
  have hP : va_P D nCl [(q0, .inr (2, [.ref q1, .ref q3, .int 0])), (q1, .inl (c2, 680, .inr (.inl (fun _ => 0)))), (q3, .inl (c4, 1024, .inl (fun _ => 0)))] H := hP
  have hD : va_D _ [(q0, .inr (2, [.ref q1, .ref q3, .int 0])), (q1, .inl (c2, 680, .inr (.inl (fun _ => 0)))), (q3, .inl (c4, 1024, .inl (fun _ => 0)))] := hD
  exact mk_v hx hb hr hlocks ⟨q1, q3, c2, c4, rfl⟩ hP hK hD hS nD_X3_init_22
set_option maxHeartbeats 4000000 in
set_option maxRecDepth 100000 in
theorem c_X1_init (l : Launch) (D : va_G) (q0 : Nat) : mKv l nM_X1_init nC_X1_init 1 ({ frames := 2, cells := 5, slots := 1713, locals := 32 } : Room) D [.ref q0] [(q0, .inr (1, [.null, .null, .null, .int 0]))] 5 1713 (fun u => ∃ (q1 : Nat) (q2 : Nat) (q3 : Nat) (q6 : Nat) (q8 : Nat) (c4 : ClassId) (c5 : ClassId) (c7 : ClassId) (c9 : ClassId), u = ([(q0, .inr (1, [.ref q1, .ref q6, .ref q8, .int 0])), (q1, .inr (2, [.ref q2, .ref q3, .int 0])), (q2, .inl (c4, 680, .inr (.inl (fun _ => 0)))), (q3, .inl (c5, 1024, .inl (fun _ => 0))), (q6, .inl (c7, 3, .inl (fun _ => 0))), (q8, .inl (c9, 3, .inl (fun _ => 0)))], [(c4, .long), (c5, .int), (c7, .int), (c9, .int)])) := by
  intro sz
  refine mKt (by decide) (Nat.le_of_ble_eq_true rfl) ?_
  intro p e s m below meth c ls hx hb hml hr hown hlocks hin hw hn hao hP hK hD hS hA hl hsz
  subst hsz
  have hl : lv_has ls 1 [(0, .ref q0)] := hl
  refine lv_aload_n hx hb nD_X1_init_0 rfl (lv_at hl 0 rfl) ?_
  refine W.objInit hx hb hown (hw _ wm_63) (hw _ wm_41) (hw _ wm_42) rfl (hl.1.trans hml.symm) rfl nD_X1_init_1 (Nat.le_of_ble_eq_true rfl) (Nat.le_of_ble_eq_true rfl) ?_
  refine W.eq (g2 := F0 m 4 ls []) rfl ?_
  refine lv_aload_n hx hb nD_X1_init_4 rfl (lv_at hl 0 rfl) ?_
  refine va_new (ci := 2) (fs := [.null, .null, .int 0]) (C := nR_X3) (T := nT_X3) (N := 3) hx hb hw wu_X3 nY_X3 nO_X3 hown (hw _ wm_64) (hw _ wm_65) (hw _ wm_28) hK hP hD hS hA rfl (fun j hj => by rcases (show j = 0 ∨ j = 1 ∨ j = 2 by omega) with rfl | rfl | rfl <;> rfl) (Nat.le_of_ble_eq_true rfl) (Nat.le_of_ble_eq_true rfl) nD_X1_init_5 (fun q1 H hP hD hS => ?_)
  have hP : va_P D nCl [(q0, .inr (1, [.null, .null, .null, .int 0])), (q1, .inr (2, [.null, .null, .int 0]))] H := hP
  have hD : va_D _ [(q0, .inr (1, [.null, .null, .null, .int 0])), (q1, .inr (2, [.null, .null, .int 0]))] := hD
  refine W.widen (k := 1) (n := 3) (Nat.le_of_ble_eq_true rfl) (Nat.le_of_ble_eq_true rfl) ?_
  refine lv_dup hx hb nD_X1_init_8 rfl ?_
  refine mK_call (pre := [(q0, .inr (1, [.null, .null, .null, .int 0]))]) (wc := [(q1, .inr (2, [.null, .null, .int 0]))]) (va_runIN (As := []) (rest := [.ref q1, .ref q0]) ⟨hx, hb, hml, hown, hw⟩ (c_X3_init l D q1 _) (mcIN 0 hw hn wm_68 wn_66 wm_67 wm_28 rfl rfl rfl nh_X3_init ⟨Nat.le_of_ble_eq_true rfl, Nat.le_of_ble_eq_true rfl⟩) (mK_pre (pre := [(q0, .inr (1, [.null, .null, .null, .int 0]))]) hP hD hK hn hao) rfl rfl hl.1 rfl (lv_room (Nat.le_of_ble_eq_true rfl)) nD_X1_init_9 ⟨Nat.le_of_ble_eq_true rfl, Nat.le_of_ble_eq_true rfl⟩) hP hD hS hA hK (fun u H locs hu hP hD hK hS => ?_)
  obtain ⟨q2, q3, c4, c5, rfl⟩ := hu
  have hP : va_P D nCl [(q0, .inr (1, [.null, .null, .null, .int 0])), (q1, .inr (2, [.ref q2, .ref q3, .int 0])), (q2, .inl (c4, 680, .inr (.inl (fun _ => 0)))), (q3, .inl (c5, 1024, .inl (fun _ => 0)))] H := hP
  have hD : va_D _ [(q0, .inr (1, [.null, .null, .null, .int 0])), (q1, .inr (2, [.ref q2, .ref q3, .int 0])), (q2, .inl (c4, 680, .inr (.inl (fun _ => 0)))), (q3, .inl (c5, 1024, .inl (fun _ => 0)))] := hD
  have hK : va_K D nCl [(c4, .long), (c5, .int)] s := hK
  refine W.widen (k := 3) (n := 1707) (Nat.le_of_ble_eq_true rfl) (Nat.le_of_ble_eq_true rfl) ?_
  refine va_putF (D := D) (ci := 1) (v := .ref q1) (ty := (.object "HandOffRecorder$RowSet")) (C := nR_X1) (T := nT_X1) (N := 4) hx hb hw wu_X1 nY_X1 nO_X1 nN_X1 hown hK hP hD hS 0 rfl rfl 0 (by decide) (hw _ wm_83) (fun _ h9 => h9) rfl hin rfl (by decide +kernel) rfl rfl (Nat.le_of_ble_eq_true rfl) nD_X1_init_12 (fun H locs hP hD hS => ?_)
  have hP : va_P D nCl [(q0, .inr (1, [.ref q1, .null, .null, .int 0])), (q1, .inr (2, [.ref q2, .ref q3, .int 0])), (q2, .inl (c4, 680, .inr (.inl (fun _ => 0)))), (q3, .inl (c5, 1024, .inl (fun _ => 0)))] H := hP
  have hD : va_D _ [(q0, .inr (1, [.ref q1, .null, .null, .int 0])), (q1, .inr (2, [.ref q2, .ref q3, .int 0])), (q2, .inl (c4, 680, .inr (.inl (fun _ => 0)))), (q3, .inl (c5, 1024, .inl (fun _ => 0)))] := hD
  refine lv_aload_n hx hb nD_X1_init_15 rfl (lv_at hl 0 rfl) ?_
  refine lv_iconst (v := (3 : Int32)) hx hb nD_X1_init_16 (by decide) ?_
  refine va_newa (atype := .int) (ty := .int) (N' := 3) (a0 := (3, .inl (fun _ => 0))) hx hb (hw _ wm_81) rfl hK hP hD hS hA (fun _ => rfl) (by decide) (by decide) (by decide) (Nat.le_of_ble_eq_true rfl) (Nat.le_of_ble_eq_true rfl) nD_X1_init_17 (fun q6 c7 H hK hP hD hS => ?_)
  have hP : va_P D nCl [(q0, .inr (1, [.ref q1, .null, .null, .int 0])), (q1, .inr (2, [.ref q2, .ref q3, .int 0])), (q2, .inl (c4, 680, .inr (.inl (fun _ => 0)))), (q3, .inl (c5, 1024, .inl (fun _ => 0))), (q6, .inl (c7, 3, .inl (fun _ => 0)))] H := hP
  have hD : va_D _ [(q0, .inr (1, [.ref q1, .null, .null, .int 0])), (q1, .inr (2, [.ref q2, .ref q3, .int 0])), (q2, .inl (c4, 680, .inr (.inl (fun _ => 0)))), (q3, .inl (c5, 1024, .inl (fun _ => 0))), (q6, .inl (c7, 3, .inl (fun _ => 0)))] := hD
  have hK : va_K D nCl [(c4, .long), (c5, .int), (c7, .int)] s := hK
  refine W.widen (k := 4) (n := 1710) (Nat.le_of_ble_eq_true rfl) (Nat.le_of_ble_eq_true rfl) ?_
  refine va_putF (D := D) (ci := 1) (v := .ref q6) (ty := (.array .int)) (C := nR_X1) (T := nT_X1) (N := 4) hx hb hw wu_X1 nY_X1 nO_X1 nN_X1 hown hK hP hD hS 0 rfl rfl 1 (by decide) (hw _ wm_85) (fun _ h9 => h9) rfl hin rfl (by decide +kernel) rfl rfl (Nat.le_of_ble_eq_true rfl) nD_X1_init_19 (fun H locs hP hD hS => ?_)
  have hP : va_P D nCl [(q0, .inr (1, [.ref q1, .ref q6, .null, .int 0])), (q1, .inr (2, [.ref q2, .ref q3, .int 0])), (q2, .inl (c4, 680, .inr (.inl (fun _ => 0)))), (q3, .inl (c5, 1024, .inl (fun _ => 0))), (q6, .inl (c7, 3, .inl (fun _ => 0)))] H := hP
  have hD : va_D _ [(q0, .inr (1, [.ref q1, .ref q6, .null, .int 0])), (q1, .inr (2, [.ref q2, .ref q3, .int 0])), (q2, .inl (c4, 680, .inr (.inl (fun _ => 0)))), (q3, .inl (c5, 1024, .inl (fun _ => 0))), (q6, .inl (c7, 3, .inl (fun _ => 0)))] := hD
  refine lv_aload_n hx hb nD_X1_init_22 rfl (lv_at hl 0 rfl) ?_
  refine lv_iconst (v := (3 : Int32)) hx hb nD_X1_init_23 (by decide) ?_
  refine va_newa (atype := .int) (ty := .int) (N' := 3) (a0 := (3, .inl (fun _ => 0))) hx hb (hw _ wm_81) rfl hK hP hD hS hA (fun _ => rfl) (by decide) (by decide) (by decide) (Nat.le_of_ble_eq_true rfl) (Nat.le_of_ble_eq_true rfl) nD_X1_init_24 (fun q8 c9 H hK hP hD hS => ?_)
  have hP : va_P D nCl [(q0, .inr (1, [.ref q1, .ref q6, .null, .int 0])), (q1, .inr (2, [.ref q2, .ref q3, .int 0])), (q2, .inl (c4, 680, .inr (.inl (fun _ => 0)))), (q3, .inl (c5, 1024, .inl (fun _ => 0))), (q6, .inl (c7, 3, .inl (fun _ => 0))), (q8, .inl (c9, 3, .inl (fun _ => 0)))] H := hP
  have hD : va_D _ [(q0, .inr (1, [.ref q1, .ref q6, .null, .int 0])), (q1, .inr (2, [.ref q2, .ref q3, .int 0])), (q2, .inl (c4, 680, .inr (.inl (fun _ => 0)))), (q3, .inl (c5, 1024, .inl (fun _ => 0))), (q6, .inl (c7, 3, .inl (fun _ => 0))), (q8, .inl (c9, 3, .inl (fun _ => 0)))] := hD
  have hK : va_K D nCl [(c4, .long), (c5, .int), (c7, .int), (c9, .int)] s := hK
  refine W.widen (k := 5) (n := 1713) (Nat.le_of_ble_eq_true rfl) (Nat.le_of_ble_eq_true rfl) ?_
  refine va_putF (D := D) (ci := 1) (v := .ref q8) (ty := (.array .int)) (C := nR_X1) (T := nT_X1) (N := 4) hx hb hw wu_X1 nY_X1 nO_X1 nN_X1 hown hK hP hD hS 0 rfl rfl 2 (by decide) (hw _ wm_87) (fun _ h9 => h9) rfl hin rfl (by decide +kernel) rfl rfl (Nat.le_of_ble_eq_true rfl) nD_X1_init_26 (fun H locs hP hD hS => ?_)
  have hP : va_P D nCl [(q0, .inr (1, [.ref q1, .ref q6, .ref q8, .int 0])), (q1, .inr (2, [.ref q2, .ref q3, .int 0])), (q2, .inl (c4, 680, .inr (.inl (fun _ => 0)))), (q3, .inl (c5, 1024, .inl (fun _ => 0))), (q6, .inl (c7, 3, .inl (fun _ => 0))), (q8, .inl (c9, 3, .inl (fun _ => 0)))] H := hP
  have hD : va_D _ [(q0, .inr (1, [.ref q1, .ref q6, .ref q8, .int 0])), (q1, .inr (2, [.ref q2, .ref q3, .int 0])), (q2, .inl (c4, 680, .inr (.inl (fun _ => 0)))), (q3, .inl (c5, 1024, .inl (fun _ => 0))), (q6, .inl (c7, 3, .inl (fun _ => 0))), (q8, .inl (c9, 3, .inl (fun _ => 0)))] := hD
  exact mk_v hx hb hr hlocks ⟨q1, q2, q3, q6, q8, c4, c5, c7, c9, rfl⟩ hP hK hD hS nD_X1_init_29
