set_option maxHeartbeats 4000000 in
set_option maxRecDepth 100000 in
theorem c_M_renew (l : Launch) (D : va_G) (tc : Nat → ClassId) (a : Nat → Nat) (x1 : Int32) (x2 : Int32) (σ : zS) (post : zS → Prop) (h : j_M_renew x1 x2 σ post) : mWv l nM_M_renew nC_M_renew 3 ({ frames := 4, cells := 0, slots := 0, locals := 91 } : Room) D (ztM tc) [.ref (a 0), .int x1, .int x2] (zM a tc σ) (zQv (zM a tc) post) := by
  intro sz
  refine mt_W (by decide) (Nat.le_of_ble_eq_true rfl) ?_
  intro p e s m below meth c ls hx hb hml hr hown hlocks hin hw hn hP hK hD hS hA hl hsz
  subst hsz
  have hl : lv_has ls 3 [(0, .ref (a 0)), (1, .int x1), (2, .int x2)] := hl
  unfold j_M_renew at h
  refine lv_aload_n hx hb nD_M_renew_0 rfl (lv_at hl 0 rfl) ?_
  refine lv_iload_n hx hb nD_M_renew_1 rfl (lv_at hl 1 rfl) ?_
  refine lv_iconst (v := (1 : Int32)) hx hb nD_M_renew_2 (by decide) ?_
  refine lv_icmp_eq (tgt := 11) hx hb nD_M_renew_3 (by decide) (fun hc => ?_) (fun hc => ?_)
  · have h := h.1 hc
    refine lv_iload_n hx hb nD_M_renew_11 rfl (lv_at hl 1 rfl) ?_
    refine lv_goto (tgt := 16) hx hb nD_M_renew_12 (by decide) ?_
    refine va_put (D := D) (ci := 5) (v := .int x1) (ty := .int) (C := nR_M) (T := nT_M) (N := 23) hx hb hw wu_M nY_M nO_M nN_M hown hK hP hD hS 0 yc_0 rfl 0 (by decide) (hw _ wm_423) (fun _ h9 => h9) rfl (by decide +kernel) rfl rfl (Nat.le_of_ble_eq_true rfl) nD_M_renew_16 (fun H locs hP hD hS => ?_)
    obtain ⟨σ1, e_σ1⟩ : ∃ z : zS, z = zI σ 0 x1 := ⟨_, rfl⟩
    obtain ⟨hP, hD⟩ := znew (w := zM a tc) e_σ1 (yp_0_0) hP hD
    have h := h σ1 e_σ1
    clear e_σ1
    refine lv_aload_n hx hb nD_M_renew_19 rfl (lv_at hl 0 rfl) ?_
    refine lv_iload_n hx hb nD_M_renew_20 rfl (lv_at hl 2 rfl) ?_
    refine lv_iconst (v := (1 : Int32)) hx hb nD_M_renew_21 (by decide) ?_
    refine lv_icmp_ge (tgt := 29) hx hb nD_M_renew_22 (by decide) (fun hc => ?_) (fun hc => ?_)
    · have h := h.1 hc
      refine lv_iload_n hx hb nD_M_renew_29 rfl (lv_at hl 2 rfl) ?_
      refine lv_bipush (v := (8 : Int32)) hx hb nD_M_renew_30 (by decide) ?_
      refine lv_icmp_le (tgt := 40) hx hb nD_M_renew_32 (by decide) (fun hc => ?_) (fun hc => ?_)
      · have h := h.1 hc
        refine lv_iload_n hx hb nD_M_renew_40 rfl (lv_at hl 2 rfl) ?_
        refine va_put (D := D) (ci := 5) (v := .int x2) (ty := .int) (C := nR_M) (T := nT_M) (N := 23) hx hb hw wu_M nY_M nO_M nN_M hown hK hP hD hS 0 yc_0 rfl 1 (by decide) (hw _ wm_424) (fun _ h9 => h9) rfl (by decide +kernel) rfl rfl (Nat.le_of_ble_eq_true rfl) nD_M_renew_41 (fun H locs hP hD hS => ?_)
        obtain ⟨σ2, e_σ2⟩ : ∃ z : zS, z = zI σ1 1 x2 := ⟨_, rfl⟩
        obtain ⟨hP, hD⟩ := znew (w := zM a tc) e_σ2 (yp_0_1) hP hD
        have h := h σ2 e_σ2
        clear e_σ2
        refine lv_aload_n hx hb nD_M_renew_44 rfl (lv_at hl 0 rfl) ?_
        refine lv_iconst (v := (0 : Int32)) hx hb nD_M_renew_45 (by decide) ?_
        refine va_put (D := D) (ci := 5) (v := .int (0 : Int32)) (ty := .int) (C := nR_M) (T := nT_M) (N := 23) hx hb hw wu_M nY_M nO_M nN_M hown hK hP hD hS 0 yc_0 rfl 2 (by decide) (hw _ wm_425) (fun _ h9 => h9) rfl (by decide +kernel) rfl rfl (Nat.le_of_ble_eq_true rfl) nD_M_renew_46 (fun H locs hP hD hS => ?_)
        obtain ⟨σ3, e_σ3⟩ : ∃ z : zS, z = zI σ2 2 (0 : Int32) := ⟨_, rfl⟩
        obtain ⟨hP, hD⟩ := znew (w := zM a tc) e_σ3 (yp_0_2) hP hD
        have h := h σ3 e_σ3
        clear e_σ3
        refine lv_aload_n hx hb nD_M_renew_49 rfl (lv_at hl 0 rfl) ?_
        refine lv_iconst (v := (0 : Int32)) hx hb nD_M_renew_50 (by decide) ?_
        refine va_put (D := D) (ci := 5) (v := .int (0 : Int32)) (ty := .int) (C := nR_M) (T := nT_M) (N := 23) hx hb hw wu_M nY_M nO_M nN_M hown hK hP hD hS 0 yc_0 rfl 3 (by decide) (hw _ wm_426) (fun _ h9 => h9) rfl (by decide +kernel) rfl rfl (Nat.le_of_ble_eq_true rfl) nD_M_renew_51 (fun H locs hP hD hS => ?_)
        obtain ⟨σ4, e_σ4⟩ : ∃ z : zS, z = zI σ3 3 (0 : Int32) := ⟨_, rfl⟩
        obtain ⟨hP, hD⟩ := znew (w := zM a tc) e_σ4 (yp_0_3) hP hD
        have h := h σ4 e_σ4
        clear e_σ4
        refine lv_aload_n hx hb nD_M_renew_54 rfl (lv_at hl 0 rfl) ?_
        refine lv_iconst (v := (0 : Int32)) hx hb nD_M_renew_55 (by decide) ?_
        refine va_put (D := D) (ci := 5) (v := .int (0 : Int32)) (ty := .int) (C := nR_M) (T := nT_M) (N := 23) hx hb hw wu_M nY_M nO_M nN_M hown hK hP hD hS 0 yc_0 rfl 4 (by decide) (hw _ wm_427) (fun _ h9 => h9) rfl (by decide +kernel) rfl rfl (Nat.le_of_ble_eq_true rfl) nD_M_renew_56 (fun H locs hP hD hS => ?_)
        obtain ⟨σ5, e_σ5⟩ : ∃ z : zS, z = zI σ4 4 (0 : Int32) := ⟨_, rfl⟩
        obtain ⟨hP, hD⟩ := znew (w := zM a tc) e_σ5 (yp_0_4) hP hD
        have h := h σ5 e_σ5
        clear e_σ5
        refine lv_aload_n hx hb nD_M_renew_59 rfl (lv_at hl 0 rfl) ?_
        refine zC_v (va_runV (As := []) (rest := []) ⟨hx, hb, hml, hown, hw⟩ (c_M_work l D tc a σ5 _ h _) (mcV 0 hw wm_401 wm_398 wm_400 wm_13 wm_33 rfl rfl nh_M_work ⟨Nat.le_of_ble_eq_true rfl, Nat.le_of_ble_eq_true rfl⟩) (zp_V (ci := 5) hP hD hK hn rfl yc_0) rfl rfl hl.1 rfl (lv_room (Nat.le_of_ble_eq_true rfl)) nD_M_renew_60 ⟨Nat.zero_le _, Nat.zero_le _⟩) hD hS hA (fun σ6 H locs h hP hD hS => ?_)
        exact mw_v hx hb hr hlocks ⟨σ6, rfl, h⟩ hP hK hD hS nD_M_renew_63
      · have h := h.2 hc
        refine lv_bipush (v := (8 : Int32)) hx hb nD_M_renew_35 (by decide) ?_
        refine lv_goto (tgt := 41) hx hb nD_M_renew_37 (by decide) ?_
        refine va_put (D := D) (ci := 5) (v := .int (8 : Int32)) (ty := .int) (C := nR_M) (T := nT_M) (N := 23) hx hb hw wu_M nY_M nO_M nN_M hown hK hP hD hS 0 yc_0 rfl 1 (by decide) (hw _ wm_424) (fun _ h9 => h9) rfl (by decide +kernel) rfl rfl (Nat.le_of_ble_eq_true rfl) nD_M_renew_41 (fun H locs hP hD hS => ?_)
        obtain ⟨σ7, e_σ7⟩ : ∃ z : zS, z = zI σ1 1 (8 : Int32) := ⟨_, rfl⟩
        obtain ⟨hP, hD⟩ := znew (w := zM a tc) e_σ7 (yp_0_1) hP hD
        have h := h σ7 e_σ7
        clear e_σ7
        refine lv_aload_n hx hb nD_M_renew_44 rfl (lv_at hl 0 rfl) ?_
        refine lv_iconst (v := (0 : Int32)) hx hb nD_M_renew_45 (by decide) ?_
        refine va_put (D := D) (ci := 5) (v := .int (0 : Int32)) (ty := .int) (C := nR_M) (T := nT_M) (N := 23) hx hb hw wu_M nY_M nO_M nN_M hown hK hP hD hS 0 yc_0 rfl 2 (by decide) (hw _ wm_425) (fun _ h9 => h9) rfl (by decide +kernel) rfl rfl (Nat.le_of_ble_eq_true rfl) nD_M_renew_46 (fun H locs hP hD hS => ?_)
        obtain ⟨σ8, e_σ8⟩ : ∃ z : zS, z = zI σ7 2 (0 : Int32) := ⟨_, rfl⟩
        obtain ⟨hP, hD⟩ := znew (w := zM a tc) e_σ8 (yp_0_2) hP hD
        have h := h σ8 e_σ8
        clear e_σ8
        refine lv_aload_n hx hb nD_M_renew_49 rfl (lv_at hl 0 rfl) ?_
        refine lv_iconst (v := (0 : Int32)) hx hb nD_M_renew_50 (by decide) ?_
        refine va_put (D := D) (ci := 5) (v := .int (0 : Int32)) (ty := .int) (C := nR_M) (T := nT_M) (N := 23) hx hb hw wu_M nY_M nO_M nN_M hown hK hP hD hS 0 yc_0 rfl 3 (by decide) (hw _ wm_426) (fun _ h9 => h9) rfl (by decide +kernel) rfl rfl (Nat.le_of_ble_eq_true rfl) nD_M_renew_51 (fun H locs hP hD hS => ?_)
        obtain ⟨σ9, e_σ9⟩ : ∃ z : zS, z = zI σ8 3 (0 : Int32) := ⟨_, rfl⟩
        obtain ⟨hP, hD⟩ := znew (w := zM a tc) e_σ9 (yp_0_3) hP hD
        have h := h σ9 e_σ9
        clear e_σ9
        refine lv_aload_n hx hb nD_M_renew_54 rfl (lv_at hl 0 rfl) ?_
        refine lv_iconst (v := (0 : Int32)) hx hb nD_M_renew_55 (by decide) ?_
        refine va_put (D := D) (ci := 5) (v := .int (0 : Int32)) (ty := .int) (C := nR_M) (T := nT_M) (N := 23) hx hb hw wu_M nY_M nO_M nN_M hown hK hP hD hS 0 yc_0 rfl 4 (by decide) (hw _ wm_427) (fun _ h9 => h9) rfl (by decide +kernel) rfl rfl (Nat.le_of_ble_eq_true rfl) nD_M_renew_56 (fun H locs hP hD hS => ?_)
        obtain ⟨σ10, e_σ10⟩ : ∃ z : zS, z = zI σ9 4 (0 : Int32) := ⟨_, rfl⟩
        obtain ⟨hP, hD⟩ := znew (w := zM a tc) e_σ10 (yp_0_4) hP hD
        have h := h σ10 e_σ10
        clear e_σ10
        refine lv_aload_n hx hb nD_M_renew_59 rfl (lv_at hl 0 rfl) ?_
        refine zC_v (va_runV (As := []) (rest := []) ⟨hx, hb, hml, hown, hw⟩ (c_M_work l D tc a σ10 _ h _) (mcV 0 hw wm_401 wm_398 wm_400 wm_13 wm_33 rfl rfl nh_M_work ⟨Nat.le_of_ble_eq_true rfl, Nat.le_of_ble_eq_true rfl⟩) (zp_V (ci := 5) hP hD hK hn rfl yc_0) rfl rfl hl.1 rfl (lv_room (Nat.le_of_ble_eq_true rfl)) nD_M_renew_60 ⟨Nat.zero_le _, Nat.zero_le _⟩) hD hS hA (fun σ11 H locs h hP hD hS => ?_)
        exact mw_v hx hb hr hlocks ⟨σ11, rfl, h⟩ hP hK hD hS nD_M_renew_63
    · have h := h.2 hc
      refine lv_iconst (v := (1 : Int32)) hx hb nD_M_renew_25 (by decide) ?_
      refine lv_goto (tgt := 41) hx hb nD_M_renew_26 (by decide) ?_
      refine va_put (D := D) (ci := 5) (v := .int (1 : Int32)) (ty := .int) (C := nR_M) (T := nT_M) (N := 23) hx hb hw wu_M nY_M nO_M nN_M hown hK hP hD hS 0 yc_0 rfl 1 (by decide) (hw _ wm_424) (fun _ h9 => h9) rfl (by decide +kernel) rfl rfl (Nat.le_of_ble_eq_true rfl) nD_M_renew_41 (fun H locs hP hD hS => ?_)
      obtain ⟨σ12, e_σ12⟩ : ∃ z : zS, z = zI σ1 1 (1 : Int32) := ⟨_, rfl⟩
      obtain ⟨hP, hD⟩ := znew (w := zM a tc) e_σ12 (yp_0_1) hP hD
      have h := h σ12 e_σ12
      clear e_σ12
      refine lv_aload_n hx hb nD_M_renew_44 rfl (lv_at hl 0 rfl) ?_
      refine lv_iconst (v := (0 : Int32)) hx hb nD_M_renew_45 (by decide) ?_
      refine va_put (D := D) (ci := 5) (v := .int (0 : Int32)) (ty := .int) (C := nR_M) (T := nT_M) (N := 23) hx hb hw wu_M nY_M nO_M nN_M hown hK hP hD hS 0 yc_0 rfl 2 (by decide) (hw _ wm_425) (fun _ h9 => h9) rfl (by decide +kernel) rfl rfl (Nat.le_of_ble_eq_true rfl) nD_M_renew_46 (fun H locs hP hD hS => ?_)
      obtain ⟨σ13, e_σ13⟩ : ∃ z : zS, z = zI σ12 2 (0 : Int32) := ⟨_, rfl⟩
      obtain ⟨hP, hD⟩ := znew (w := zM a tc) e_σ13 (yp_0_2) hP hD
      have h := h σ13 e_σ13
      clear e_σ13
      refine lv_aload_n hx hb nD_M_renew_49 rfl (lv_at hl 0 rfl) ?_
      refine lv_iconst (v := (0 : Int32)) hx hb nD_M_renew_50 (by decide) ?_
      refine va_put (D := D) (ci := 5) (v := .int (0 : Int32)) (ty := .int) (C := nR_M) (T := nT_M) (N := 23) hx hb hw wu_M nY_M nO_M nN_M hown hK hP hD hS 0 yc_0 rfl 3 (by decide) (hw _ wm_426) (fun _ h9 => h9) rfl (by decide +kernel) rfl rfl (Nat.le_of_ble_eq_true rfl) nD_M_renew_51 (fun H locs hP hD hS => ?_)
      obtain ⟨σ14, e_σ14⟩ : ∃ z : zS, z = zI σ13 3 (0 : Int32) := ⟨_, rfl⟩
      obtain ⟨hP, hD⟩ := znew (w := zM a tc) e_σ14 (yp_0_3) hP hD
      have h := h σ14 e_σ14
      clear e_σ14
      refine lv_aload_n hx hb nD_M_renew_54 rfl (lv_at hl 0 rfl) ?_
      refine lv_iconst (v := (0 : Int32)) hx hb nD_M_renew_55 (by decide) ?_
      refine va_put (D := D) (ci := 5) (v := .int (0 : Int32)) (ty := .int) (C := nR_M) (T := nT_M) (N := 23) hx hb hw wu_M nY_M nO_M nN_M hown hK hP hD hS 0 yc_0 rfl 4 (by decide) (hw _ wm_427) (fun _ h9 => h9) rfl (by decide +kernel) rfl rfl (Nat.le_of_ble_eq_true rfl) nD_M_renew_56 (fun H locs hP hD hS => ?_)
      obtain ⟨σ15, e_σ15⟩ : ∃ z : zS, z = zI σ14 4 (0 : Int32) := ⟨_, rfl⟩
      obtain ⟨hP, hD⟩ := znew (w := zM a tc) e_σ15 (yp_0_4) hP hD
      have h := h σ15 e_σ15
      clear e_σ15
      refine lv_aload_n hx hb nD_M_renew_59 rfl (lv_at hl 0 rfl) ?_
      refine zC_v (va_runV (As := []) (rest := []) ⟨hx, hb, hml, hown, hw⟩ (c_M_work l D tc a σ15 _ h _) (mcV 0 hw wm_401 wm_398 wm_400 wm_13 wm_33 rfl rfl nh_M_work ⟨Nat.le_of_ble_eq_true rfl, Nat.le_of_ble_eq_true rfl⟩) (zp_V (ci := 5) hP hD hK hn rfl yc_0) rfl rfl hl.1 rfl (lv_room (Nat.le_of_ble_eq_true rfl)) nD_M_renew_60 ⟨Nat.zero_le _, Nat.zero_le _⟩) hD hS hA (fun σ16 H locs h hP hD hS => ?_)
      exact mw_v hx hb hr hlocks ⟨σ16, rfl, h⟩ hP hK hD hS nD_M_renew_63
  · have h := h.2 hc
    refine lv_iload_n hx hb nD_M_renew_6 rfl (lv_at hl 1 rfl) ?_
    refine lv_iconst (v := (2 : Int32)) hx hb nD_M_renew_7 (by decide) ?_
    refine lv_icmp_ne (tgt := 15) hx hb nD_M_renew_8 (by decide) (fun hc => ?_) (fun hc => ?_)
    · have h := h.2 hc
      refine lv_iconst (v := (0 : Int32)) hx hb nD_M_renew_15 (by decide) ?_
      refine va_put (D := D) (ci := 5) (v := .int (0 : Int32)) (ty := .int) (C := nR_M) (T := nT_M) (N := 23) hx hb hw wu_M nY_M nO_M nN_M hown hK hP hD hS 0 yc_0 rfl 0 (by decide) (hw _ wm_423) (fun _ h9 => h9) rfl (by decide +kernel) rfl rfl (Nat.le_of_ble_eq_true rfl) nD_M_renew_16 (fun H locs hP hD hS => ?_)
      obtain ⟨σ17, e_σ17⟩ : ∃ z : zS, z = zI σ 0 (0 : Int32) := ⟨_, rfl⟩
      obtain ⟨hP, hD⟩ := znew (w := zM a tc) e_σ17 (yp_0_0) hP hD
      have h := h σ17 e_σ17
      clear e_σ17
      refine lv_aload_n hx hb nD_M_renew_19 rfl (lv_at hl 0 rfl) ?_
      refine lv_iload_n hx hb nD_M_renew_20 rfl (lv_at hl 2 rfl) ?_
      refine lv_iconst (v := (1 : Int32)) hx hb nD_M_renew_21 (by decide) ?_
      refine lv_icmp_ge (tgt := 29) hx hb nD_M_renew_22 (by decide) (fun hc => ?_) (fun hc => ?_)
      · have h := h.1 hc
        refine lv_iload_n hx hb nD_M_renew_29 rfl (lv_at hl 2 rfl) ?_
        refine lv_bipush (v := (8 : Int32)) hx hb nD_M_renew_30 (by decide) ?_
        refine lv_icmp_le (tgt := 40) hx hb nD_M_renew_32 (by decide) (fun hc => ?_) (fun hc => ?_)
        · have h := h.1 hc
          refine lv_iload_n hx hb nD_M_renew_40 rfl (lv_at hl 2 rfl) ?_
          refine va_put (D := D) (ci := 5) (v := .int x2) (ty := .int) (C := nR_M) (T := nT_M) (N := 23) hx hb hw wu_M nY_M nO_M nN_M hown hK hP hD hS 0 yc_0 rfl 1 (by decide) (hw _ wm_424) (fun _ h9 => h9) rfl (by decide +kernel) rfl rfl (Nat.le_of_ble_eq_true rfl) nD_M_renew_41 (fun H locs hP hD hS => ?_)
          obtain ⟨σ18, e_σ18⟩ : ∃ z : zS, z = zI σ17 1 x2 := ⟨_, rfl⟩
          obtain ⟨hP, hD⟩ := znew (w := zM a tc) e_σ18 (yp_0_1) hP hD
          have h := h σ18 e_σ18
          clear e_σ18
          refine lv_aload_n hx hb nD_M_renew_44 rfl (lv_at hl 0 rfl) ?_
          refine lv_iconst (v := (0 : Int32)) hx hb nD_M_renew_45 (by decide) ?_
          refine va_put (D := D) (ci := 5) (v := .int (0 : Int32)) (ty := .int) (C := nR_M) (T := nT_M) (N := 23) hx hb hw wu_M nY_M nO_M nN_M hown hK hP hD hS 0 yc_0 rfl 2 (by decide) (hw _ wm_425) (fun _ h9 => h9) rfl (by decide +kernel) rfl rfl (Nat.le_of_ble_eq_true rfl) nD_M_renew_46 (fun H locs hP hD hS => ?_)
          obtain ⟨σ19, e_σ19⟩ : ∃ z : zS, z = zI σ18 2 (0 : Int32) := ⟨_, rfl⟩
          obtain ⟨hP, hD⟩ := znew (w := zM a tc) e_σ19 (yp_0_2) hP hD
          have h := h σ19 e_σ19
          clear e_σ19
          refine lv_aload_n hx hb nD_M_renew_49 rfl (lv_at hl 0 rfl) ?_
          refine lv_iconst (v := (0 : Int32)) hx hb nD_M_renew_50 (by decide) ?_
          refine va_put (D := D) (ci := 5) (v := .int (0 : Int32)) (ty := .int) (C := nR_M) (T := nT_M) (N := 23) hx hb hw wu_M nY_M nO_M nN_M hown hK hP hD hS 0 yc_0 rfl 3 (by decide) (hw _ wm_426) (fun _ h9 => h9) rfl (by decide +kernel) rfl rfl (Nat.le_of_ble_eq_true rfl) nD_M_renew_51 (fun H locs hP hD hS => ?_)
          obtain ⟨σ20, e_σ20⟩ : ∃ z : zS, z = zI σ19 3 (0 : Int32) := ⟨_, rfl⟩
          obtain ⟨hP, hD⟩ := znew (w := zM a tc) e_σ20 (yp_0_3) hP hD
          have h := h σ20 e_σ20
          clear e_σ20
          refine lv_aload_n hx hb nD_M_renew_54 rfl (lv_at hl 0 rfl) ?_
          refine lv_iconst (v := (0 : Int32)) hx hb nD_M_renew_55 (by decide) ?_
          refine va_put (D := D) (ci := 5) (v := .int (0 : Int32)) (ty := .int) (C := nR_M) (T := nT_M) (N := 23) hx hb hw wu_M nY_M nO_M nN_M hown hK hP hD hS 0 yc_0 rfl 4 (by decide) (hw _ wm_427) (fun _ h9 => h9) rfl (by decide +kernel) rfl rfl (Nat.le_of_ble_eq_true rfl) nD_M_renew_56 (fun H locs hP hD hS => ?_)
          obtain ⟨σ21, e_σ21⟩ : ∃ z : zS, z = zI σ20 4 (0 : Int32) := ⟨_, rfl⟩
          obtain ⟨hP, hD⟩ := znew (w := zM a tc) e_σ21 (yp_0_4) hP hD
          have h := h σ21 e_σ21
          clear e_σ21
          refine lv_aload_n hx hb nD_M_renew_59 rfl (lv_at hl 0 rfl) ?_
          refine zC_v (va_runV (As := []) (rest := []) ⟨hx, hb, hml, hown, hw⟩ (c_M_work l D tc a σ21 _ h _) (mcV 0 hw wm_401 wm_398 wm_400 wm_13 wm_33 rfl rfl nh_M_work ⟨Nat.le_of_ble_eq_true rfl, Nat.le_of_ble_eq_true rfl⟩) (zp_V (ci := 5) hP hD hK hn rfl yc_0) rfl rfl hl.1 rfl (lv_room (Nat.le_of_ble_eq_true rfl)) nD_M_renew_60 ⟨Nat.zero_le _, Nat.zero_le _⟩) hD hS hA (fun σ22 H locs h hP hD hS => ?_)
          exact mw_v hx hb hr hlocks ⟨σ22, rfl, h⟩ hP hK hD hS nD_M_renew_63
        · have h := h.2 hc
          refine lv_bipush (v := (8 : Int32)) hx hb nD_M_renew_35 (by decide) ?_
          refine lv_goto (tgt := 41) hx hb nD_M_renew_37 (by decide) ?_
          refine va_put (D := D) (ci := 5) (v := .int (8 : Int32)) (ty := .int) (C := nR_M) (T := nT_M) (N := 23) hx hb hw wu_M nY_M nO_M nN_M hown hK hP hD hS 0 yc_0 rfl 1 (by decide) (hw _ wm_424) (fun _ h9 => h9) rfl (by decide +kernel) rfl rfl (Nat.le_of_ble_eq_true rfl) nD_M_renew_41 (fun H locs hP hD hS => ?_)
          obtain ⟨σ23, e_σ23⟩ : ∃ z : zS, z = zI σ17 1 (8 : Int32) := ⟨_, rfl⟩
          obtain ⟨hP, hD⟩ := znew (w := zM a tc) e_σ23 (yp_0_1) hP hD
          have h := h σ23 e_σ23
          clear e_σ23
          refine lv_aload_n hx hb nD_M_renew_44 rfl (lv_at hl 0 rfl) ?_
          refine lv_iconst (v := (0 : Int32)) hx hb nD_M_renew_45 (by decide) ?_
          refine va_put (D := D) (ci := 5) (v := .int (0 : Int32)) (ty := .int) (C := nR_M) (T := nT_M) (N := 23) hx hb hw wu_M nY_M nO_M nN_M hown hK hP hD hS 0 yc_0 rfl 2 (by decide) (hw _ wm_425) (fun _ h9 => h9) rfl (by decide +kernel) rfl rfl (Nat.le_of_ble_eq_true rfl) nD_M_renew_46 (fun H locs hP hD hS => ?_)
          obtain ⟨σ24, e_σ24⟩ : ∃ z : zS, z = zI σ23 2 (0 : Int32) := ⟨_, rfl⟩
          obtain ⟨hP, hD⟩ := znew (w := zM a tc) e_σ24 (yp_0_2) hP hD
          have h := h σ24 e_σ24
          clear e_σ24
          refine lv_aload_n hx hb nD_M_renew_49 rfl (lv_at hl 0 rfl) ?_
          refine lv_iconst (v := (0 : Int32)) hx hb nD_M_renew_50 (by decide) ?_
          refine va_put (D := D) (ci := 5) (v := .int (0 : Int32)) (ty := .int) (C := nR_M) (T := nT_M) (N := 23) hx hb hw wu_M nY_M nO_M nN_M hown hK hP hD hS 0 yc_0 rfl 3 (by decide) (hw _ wm_426) (fun _ h9 => h9) rfl (by decide +kernel) rfl rfl (Nat.le_of_ble_eq_true rfl) nD_M_renew_51 (fun H locs hP hD hS => ?_)
          obtain ⟨σ25, e_σ25⟩ : ∃ z : zS, z = zI σ24 3 (0 : Int32) := ⟨_, rfl⟩
          obtain ⟨hP, hD⟩ := znew (w := zM a tc) e_σ25 (yp_0_3) hP hD
          have h := h σ25 e_σ25
          clear e_σ25
          refine lv_aload_n hx hb nD_M_renew_54 rfl (lv_at hl 0 rfl) ?_
          refine lv_iconst (v := (0 : Int32)) hx hb nD_M_renew_55 (by decide) ?_
          refine va_put (D := D) (ci := 5) (v := .int (0 : Int32)) (ty := .int) (C := nR_M) (T := nT_M) (N := 23) hx hb hw wu_M nY_M nO_M nN_M hown hK hP hD hS 0 yc_0 rfl 4 (by decide) (hw _ wm_427) (fun _ h9 => h9) rfl (by decide +kernel) rfl rfl (Nat.le_of_ble_eq_true rfl) nD_M_renew_56 (fun H locs hP hD hS => ?_)
          obtain ⟨σ26, e_σ26⟩ : ∃ z : zS, z = zI σ25 4 (0 : Int32) := ⟨_, rfl⟩
          obtain ⟨hP, hD⟩ := znew (w := zM a tc) e_σ26 (yp_0_4) hP hD
          have h := h σ26 e_σ26
          clear e_σ26
          refine lv_aload_n hx hb nD_M_renew_59 rfl (lv_at hl 0 rfl) ?_
          refine zC_v (va_runV (As := []) (rest := []) ⟨hx, hb, hml, hown, hw⟩ (c_M_work l D tc a σ26 _ h _) (mcV 0 hw wm_401 wm_398 wm_400 wm_13 wm_33 rfl rfl nh_M_work ⟨Nat.le_of_ble_eq_true rfl, Nat.le_of_ble_eq_true rfl⟩) (zp_V (ci := 5) hP hD hK hn rfl yc_0) rfl rfl hl.1 rfl (lv_room (Nat.le_of_ble_eq_true rfl)) nD_M_renew_60 ⟨Nat.zero_le _, Nat.zero_le _⟩) hD hS hA (fun σ27 H locs h hP hD hS => ?_)
          exact mw_v hx hb hr hlocks ⟨σ27, rfl, h⟩ hP hK hD hS nD_M_renew_63
      · have h := h.2 hc
        refine lv_iconst (v := (1 : Int32)) hx hb nD_M_renew_25 (by decide) ?_
        refine lv_goto (tgt := 41) hx hb nD_M_renew_26 (by decide) ?_
        refine va_put (D := D) (ci := 5) (v := .int (1 : Int32)) (ty := .int) (C := nR_M) (T := nT_M) (N := 23) hx hb hw wu_M nY_M nO_M nN_M hown hK hP hD hS 0 yc_0 rfl 1 (by decide) (hw _ wm_424) (fun _ h9 => h9) rfl (by decide +kernel) rfl rfl (Nat.le_of_ble_eq_true rfl) nD_M_renew_41 (fun H locs hP hD hS => ?_)
        obtain ⟨σ28, e_σ28⟩ : ∃ z : zS, z = zI σ17 1 (1 : Int32) := ⟨_, rfl⟩
        obtain ⟨hP, hD⟩ := znew (w := zM a tc) e_σ28 (yp_0_1) hP hD
        have h := h σ28 e_σ28
        clear e_σ28
        refine lv_aload_n hx hb nD_M_renew_44 rfl (lv_at hl 0 rfl) ?_
        refine lv_iconst (v := (0 : Int32)) hx hb nD_M_renew_45 (by decide) ?_
        refine va_put (D := D) (ci := 5) (v := .int (0 : Int32)) (ty := .int) (C := nR_M) (T := nT_M) (N := 23) hx hb hw wu_M nY_M nO_M nN_M hown hK hP hD hS 0 yc_0 rfl 2 (by decide) (hw _ wm_425) (fun _ h9 => h9) rfl (by decide +kernel) rfl rfl (Nat.le_of_ble_eq_true rfl) nD_M_renew_46 (fun H locs hP hD hS => ?_)
        obtain ⟨σ29, e_σ29⟩ : ∃ z : zS, z = zI σ28 2 (0 : Int32) := ⟨_, rfl⟩
        obtain ⟨hP, hD⟩ := znew (w := zM a tc) e_σ29 (yp_0_2) hP hD
        have h := h σ29 e_σ29
        clear e_σ29
        refine lv_aload_n hx hb nD_M_renew_49 rfl (lv_at hl 0 rfl) ?_
        refine lv_iconst (v := (0 : Int32)) hx hb nD_M_renew_50 (by decide) ?_
        refine va_put (D := D) (ci := 5) (v := .int (0 : Int32)) (ty := .int) (C := nR_M) (T := nT_M) (N := 23) hx hb hw wu_M nY_M nO_M nN_M hown hK hP hD hS 0 yc_0 rfl 3 (by decide) (hw _ wm_426) (fun _ h9 => h9) rfl (by decide +kernel) rfl rfl (Nat.le_of_ble_eq_true rfl) nD_M_renew_51 (fun H locs hP hD hS => ?_)
        obtain ⟨σ30, e_σ30⟩ : ∃ z : zS, z = zI σ29 3 (0 : Int32) := ⟨_, rfl⟩
        obtain ⟨hP, hD⟩ := znew (w := zM a tc) e_σ30 (yp_0_3) hP hD
        have h := h σ30 e_σ30
        clear e_σ30
        refine lv_aload_n hx hb nD_M_renew_54 rfl (lv_at hl 0 rfl) ?_
        refine lv_iconst (v := (0 : Int32)) hx hb nD_M_renew_55 (by decide) ?_
        refine va_put (D := D) (ci := 5) (v := .int (0 : Int32)) (ty := .int) (C := nR_M) (T := nT_M) (N := 23) hx hb hw wu_M nY_M nO_M nN_M hown hK hP hD hS 0 yc_0 rfl 4 (by decide) (hw _ wm_427) (fun _ h9 => h9) rfl (by decide +kernel) rfl rfl (Nat.le_of_ble_eq_true rfl) nD_M_renew_56 (fun H locs hP hD hS => ?_)
        obtain ⟨σ31, e_σ31⟩ : ∃ z : zS, z = zI σ30 4 (0 : Int32) := ⟨_, rfl⟩
        obtain ⟨hP, hD⟩ := znew (w := zM a tc) e_σ31 (yp_0_4) hP hD
        have h := h σ31 e_σ31
        clear e_σ31
        refine lv_aload_n hx hb nD_M_renew_59 rfl (lv_at hl 0 rfl) ?_
        refine zC_v (va_runV (As := []) (rest := []) ⟨hx, hb, hml, hown, hw⟩ (c_M_work l D tc a σ31 _ h _) (mcV 0 hw wm_401 wm_398 wm_400 wm_13 wm_33 rfl rfl nh_M_work ⟨Nat.le_of_ble_eq_true rfl, Nat.le_of_ble_eq_true rfl⟩) (zp_V (ci := 5) hP hD hK hn rfl yc_0) rfl rfl hl.1 rfl (lv_room (Nat.le_of_ble_eq_true rfl)) nD_M_renew_60 ⟨Nat.zero_le _, Nat.zero_le _⟩) hD hS hA (fun σ32 H locs h hP hD hS => ?_)
        exact mw_v hx hb hr hlocks ⟨σ32, rfl, h⟩ hP hK hD hS nD_M_renew_63
    · have h := h.1 hc
      refine lv_iload_n hx hb nD_M_renew_11 rfl (lv_at hl 1 rfl) ?_
      refine lv_goto (tgt := 16) hx hb nD_M_renew_12 (by decide) ?_
      refine va_put (D := D) (ci := 5) (v := .int x1) (ty := .int) (C := nR_M) (T := nT_M) (N := 23) hx hb hw wu_M nY_M nO_M nN_M hown hK hP hD hS 0 yc_0 rfl 0 (by decide) (hw _ wm_423) (fun _ h9 => h9) rfl (by decide +kernel) rfl rfl (Nat.le_of_ble_eq_true rfl) nD_M_renew_16 (fun H locs hP hD hS => ?_)
      obtain ⟨σ33, e_σ33⟩ : ∃ z : zS, z = zI σ 0 x1 := ⟨_, rfl⟩
      obtain ⟨hP, hD⟩ := znew (w := zM a tc) e_σ33 (yp_0_0) hP hD
      have h := h σ33 e_σ33
      clear e_σ33
      refine lv_aload_n hx hb nD_M_renew_19 rfl (lv_at hl 0 rfl) ?_
      refine lv_iload_n hx hb nD_M_renew_20 rfl (lv_at hl 2 rfl) ?_
      refine lv_iconst (v := (1 : Int32)) hx hb nD_M_renew_21 (by decide) ?_
      refine lv_icmp_ge (tgt := 29) hx hb nD_M_renew_22 (by decide) (fun hc => ?_) (fun hc => ?_)
      · have h := h.1 hc
        refine lv_iload_n hx hb nD_M_renew_29 rfl (lv_at hl 2 rfl) ?_
        refine lv_bipush (v := (8 : Int32)) hx hb nD_M_renew_30 (by decide) ?_
        refine lv_icmp_le (tgt := 40) hx hb nD_M_renew_32 (by decide) (fun hc => ?_) (fun hc => ?_)
        · have h := h.1 hc
          refine lv_iload_n hx hb nD_M_renew_40 rfl (lv_at hl 2 rfl) ?_
          refine va_put (D := D) (ci := 5) (v := .int x2) (ty := .int) (C := nR_M) (T := nT_M) (N := 23) hx hb hw wu_M nY_M nO_M nN_M hown hK hP hD hS 0 yc_0 rfl 1 (by decide) (hw _ wm_424) (fun _ h9 => h9) rfl (by decide +kernel) rfl rfl (Nat.le_of_ble_eq_true rfl) nD_M_renew_41 (fun H locs hP hD hS => ?_)
          obtain ⟨σ34, e_σ34⟩ : ∃ z : zS, z = zI σ33 1 x2 := ⟨_, rfl⟩
          obtain ⟨hP, hD⟩ := znew (w := zM a tc) e_σ34 (yp_0_1) hP hD
          have h := h σ34 e_σ34
          clear e_σ34
          refine lv_aload_n hx hb nD_M_renew_44 rfl (lv_at hl 0 rfl) ?_
          refine lv_iconst (v := (0 : Int32)) hx hb nD_M_renew_45 (by decide) ?_
          refine va_put (D := D) (ci := 5) (v := .int (0 : Int32)) (ty := .int) (C := nR_M) (T := nT_M) (N := 23) hx hb hw wu_M nY_M nO_M nN_M hown hK hP hD hS 0 yc_0 rfl 2 (by decide) (hw _ wm_425) (fun _ h9 => h9) rfl (by decide +kernel) rfl rfl (Nat.le_of_ble_eq_true rfl) nD_M_renew_46 (fun H locs hP hD hS => ?_)
          obtain ⟨σ35, e_σ35⟩ : ∃ z : zS, z = zI σ34 2 (0 : Int32) := ⟨_, rfl⟩
          obtain ⟨hP, hD⟩ := znew (w := zM a tc) e_σ35 (yp_0_2) hP hD
          have h := h σ35 e_σ35
          clear e_σ35
          refine lv_aload_n hx hb nD_M_renew_49 rfl (lv_at hl 0 rfl) ?_
          refine lv_iconst (v := (0 : Int32)) hx hb nD_M_renew_50 (by decide) ?_
          refine va_put (D := D) (ci := 5) (v := .int (0 : Int32)) (ty := .int) (C := nR_M) (T := nT_M) (N := 23) hx hb hw wu_M nY_M nO_M nN_M hown hK hP hD hS 0 yc_0 rfl 3 (by decide) (hw _ wm_426) (fun _ h9 => h9) rfl (by decide +kernel) rfl rfl (Nat.le_of_ble_eq_true rfl) nD_M_renew_51 (fun H locs hP hD hS => ?_)
          obtain ⟨σ36, e_σ36⟩ : ∃ z : zS, z = zI σ35 3 (0 : Int32) := ⟨_, rfl⟩
          obtain ⟨hP, hD⟩ := znew (w := zM a tc) e_σ36 (yp_0_3) hP hD
          have h := h σ36 e_σ36
          clear e_σ36
          refine lv_aload_n hx hb nD_M_renew_54 rfl (lv_at hl 0 rfl) ?_
          refine lv_iconst (v := (0 : Int32)) hx hb nD_M_renew_55 (by decide) ?_
          refine va_put (D := D) (ci := 5) (v := .int (0 : Int32)) (ty := .int) (C := nR_M) (T := nT_M) (N := 23) hx hb hw wu_M nY_M nO_M nN_M hown hK hP hD hS 0 yc_0 rfl 4 (by decide) (hw _ wm_427) (fun _ h9 => h9) rfl (by decide +kernel) rfl rfl (Nat.le_of_ble_eq_true rfl) nD_M_renew_56 (fun H locs hP hD hS => ?_)
          obtain ⟨σ37, e_σ37⟩ : ∃ z : zS, z = zI σ36 4 (0 : Int32) := ⟨_, rfl⟩
          obtain ⟨hP, hD⟩ := znew (w := zM a tc) e_σ37 (yp_0_4) hP hD
          have h := h σ37 e_σ37
          clear e_σ37
          refine lv_aload_n hx hb nD_M_renew_59 rfl (lv_at hl 0 rfl) ?_
          refine zC_v (va_runV (As := []) (rest := []) ⟨hx, hb, hml, hown, hw⟩ (c_M_work l D tc a σ37 _ h _) (mcV 0 hw wm_401 wm_398 wm_400 wm_13 wm_33 rfl rfl nh_M_work ⟨Nat.le_of_ble_eq_true rfl, Nat.le_of_ble_eq_true rfl⟩) (zp_V (ci := 5) hP hD hK hn rfl yc_0) rfl rfl hl.1 rfl (lv_room (Nat.le_of_ble_eq_true rfl)) nD_M_renew_60 ⟨Nat.zero_le _, Nat.zero_le _⟩) hD hS hA (fun σ38 H locs h hP hD hS => ?_)
          exact mw_v hx hb hr hlocks ⟨σ38, rfl, h⟩ hP hK hD hS nD_M_renew_63
        · have h := h.2 hc
          refine lv_bipush (v := (8 : Int32)) hx hb nD_M_renew_35 (by decide) ?_
          refine lv_goto (tgt := 41) hx hb nD_M_renew_37 (by decide) ?_
          refine va_put (D := D) (ci := 5) (v := .int (8 : Int32)) (ty := .int) (C := nR_M) (T := nT_M) (N := 23) hx hb hw wu_M nY_M nO_M nN_M hown hK hP hD hS 0 yc_0 rfl 1 (by decide) (hw _ wm_424) (fun _ h9 => h9) rfl (by decide +kernel) rfl rfl (Nat.le_of_ble_eq_true rfl) nD_M_renew_41 (fun H locs hP hD hS => ?_)
          obtain ⟨σ39, e_σ39⟩ : ∃ z : zS, z = zI σ33 1 (8 : Int32) := ⟨_, rfl⟩
          obtain ⟨hP, hD⟩ := znew (w := zM a tc) e_σ39 (yp_0_1) hP hD
          have h := h σ39 e_σ39
          clear e_σ39
          refine lv_aload_n hx hb nD_M_renew_44 rfl (lv_at hl 0 rfl) ?_
          refine lv_iconst (v := (0 : Int32)) hx hb nD_M_renew_45 (by decide) ?_
          refine va_put (D := D) (ci := 5) (v := .int (0 : Int32)) (ty := .int) (C := nR_M) (T := nT_M) (N := 23) hx hb hw wu_M nY_M nO_M nN_M hown hK hP hD hS 0 yc_0 rfl 2 (by decide) (hw _ wm_425) (fun _ h9 => h9) rfl (by decide +kernel) rfl rfl (Nat.le_of_ble_eq_true rfl) nD_M_renew_46 (fun H locs hP hD hS => ?_)
          obtain ⟨σ40, e_σ40⟩ : ∃ z : zS, z = zI σ39 2 (0 : Int32) := ⟨_, rfl⟩
          obtain ⟨hP, hD⟩ := znew (w := zM a tc) e_σ40 (yp_0_2) hP hD
          have h := h σ40 e_σ40
          clear e_σ40
          refine lv_aload_n hx hb nD_M_renew_49 rfl (lv_at hl 0 rfl) ?_
          refine lv_iconst (v := (0 : Int32)) hx hb nD_M_renew_50 (by decide) ?_
          refine va_put (D := D) (ci := 5) (v := .int (0 : Int32)) (ty := .int) (C := nR_M) (T := nT_M) (N := 23) hx hb hw wu_M nY_M nO_M nN_M hown hK hP hD hS 0 yc_0 rfl 3 (by decide) (hw _ wm_426) (fun _ h9 => h9) rfl (by decide +kernel) rfl rfl (Nat.le_of_ble_eq_true rfl) nD_M_renew_51 (fun H locs hP hD hS => ?_)
          obtain ⟨σ41, e_σ41⟩ : ∃ z : zS, z = zI σ40 3 (0 : Int32) := ⟨_, rfl⟩
          obtain ⟨hP, hD⟩ := znew (w := zM a tc) e_σ41 (yp_0_3) hP hD
          have h := h σ41 e_σ41
          clear e_σ41
          refine lv_aload_n hx hb nD_M_renew_54 rfl (lv_at hl 0 rfl) ?_
          refine lv_iconst (v := (0 : Int32)) hx hb nD_M_renew_55 (by decide) ?_
          refine va_put (D := D) (ci := 5) (v := .int (0 : Int32)) (ty := .int) (C := nR_M) (T := nT_M) (N := 23) hx hb hw wu_M nY_M nO_M nN_M hown hK hP hD hS 0 yc_0 rfl 4 (by decide) (hw _ wm_427) (fun _ h9 => h9) rfl (by decide +kernel) rfl rfl (Nat.le_of_ble_eq_true rfl) nD_M_renew_56 (fun H locs hP hD hS => ?_)
          obtain ⟨σ42, e_σ42⟩ : ∃ z : zS, z = zI σ41 4 (0 : Int32) := ⟨_, rfl⟩
          obtain ⟨hP, hD⟩ := znew (w := zM a tc) e_σ42 (yp_0_4) hP hD
          have h := h σ42 e_σ42
          clear e_σ42
          refine lv_aload_n hx hb nD_M_renew_59 rfl (lv_at hl 0 rfl) ?_
          refine zC_v (va_runV (As := []) (rest := []) ⟨hx, hb, hml, hown, hw⟩ (c_M_work l D tc a σ42 _ h _) (mcV 0 hw wm_401 wm_398 wm_400 wm_13 wm_33 rfl rfl nh_M_work ⟨Nat.le_of_ble_eq_true rfl, Nat.le_of_ble_eq_true rfl⟩) (zp_V (ci := 5) hP hD hK hn rfl yc_0) rfl rfl hl.1 rfl (lv_room (Nat.le_of_ble_eq_true rfl)) nD_M_renew_60 ⟨Nat.zero_le _, Nat.zero_le _⟩) hD hS hA (fun σ43 H locs h hP hD hS => ?_)
          exact mw_v hx hb hr hlocks ⟨σ43, rfl, h⟩ hP hK hD hS nD_M_renew_63
      · have h := h.2 hc
        refine lv_iconst (v := (1 : Int32)) hx hb nD_M_renew_25 (by decide) ?_
        refine lv_goto (tgt := 41) hx hb nD_M_renew_26 (by decide) ?_
        refine va_put (D := D) (ci := 5) (v := .int (1 : Int32)) (ty := .int) (C := nR_M) (T := nT_M) (N := 23) hx hb hw wu_M nY_M nO_M nN_M hown hK hP hD hS 0 yc_0 rfl 1 (by decide) (hw _ wm_424) (fun _ h9 => h9) rfl (by decide +kernel) rfl rfl (Nat.le_of_ble_eq_true rfl) nD_M_renew_41 (fun H locs hP hD hS => ?_)
        obtain ⟨σ44, e_σ44⟩ : ∃ z : zS, z = zI σ33 1 (1 : Int32) := ⟨_, rfl⟩
        obtain ⟨hP, hD⟩ := znew (w := zM a tc) e_σ44 (yp_0_1) hP hD
        have h := h σ44 e_σ44
        clear e_σ44
        refine lv_aload_n hx hb nD_M_renew_44 rfl (lv_at hl 0 rfl) ?_
        refine lv_iconst (v := (0 : Int32)) hx hb nD_M_renew_45 (by decide) ?_
        refine va_put (D := D) (ci := 5) (v := .int (0 : Int32)) (ty := .int) (C := nR_M) (T := nT_M) (N := 23) hx hb hw wu_M nY_M nO_M nN_M hown hK hP hD hS 0 yc_0 rfl 2 (by decide) (hw _ wm_425) (fun _ h9 => h9) rfl (by decide +kernel) rfl rfl (Nat.le_of_ble_eq_true rfl) nD_M_renew_46 (fun H locs hP hD hS => ?_)
        obtain ⟨σ45, e_σ45⟩ : ∃ z : zS, z = zI σ44 2 (0 : Int32) := ⟨_, rfl⟩
        obtain ⟨hP, hD⟩ := znew (w := zM a tc) e_σ45 (yp_0_2) hP hD
        have h := h σ45 e_σ45
        clear e_σ45
        refine lv_aload_n hx hb nD_M_renew_49 rfl (lv_at hl 0 rfl) ?_
        refine lv_iconst (v := (0 : Int32)) hx hb nD_M_renew_50 (by decide) ?_
        refine va_put (D := D) (ci := 5) (v := .int (0 : Int32)) (ty := .int) (C := nR_M) (T := nT_M) (N := 23) hx hb hw wu_M nY_M nO_M nN_M hown hK hP hD hS 0 yc_0 rfl 3 (by decide) (hw _ wm_426) (fun _ h9 => h9) rfl (by decide +kernel) rfl rfl (Nat.le_of_ble_eq_true rfl) nD_M_renew_51 (fun H locs hP hD hS => ?_)
        obtain ⟨σ46, e_σ46⟩ : ∃ z : zS, z = zI σ45 3 (0 : Int32) := ⟨_, rfl⟩
        obtain ⟨hP, hD⟩ := znew (w := zM a tc) e_σ46 (yp_0_3) hP hD
        have h := h σ46 e_σ46
        clear e_σ46
        refine lv_aload_n hx hb nD_M_renew_54 rfl (lv_at hl 0 rfl) ?_
        refine lv_iconst (v := (0 : Int32)) hx hb nD_M_renew_55 (by decide) ?_
        refine va_put (D := D) (ci := 5) (v := .int (0 : Int32)) (ty := .int) (C := nR_M) (T := nT_M) (N := 23) hx hb hw wu_M nY_M nO_M nN_M hown hK hP hD hS 0 yc_0 rfl 4 (by decide) (hw _ wm_427) (fun _ h9 => h9) rfl (by decide +kernel) rfl rfl (Nat.le_of_ble_eq_true rfl) nD_M_renew_56 (fun H locs hP hD hS => ?_)
        obtain ⟨σ47, e_σ47⟩ : ∃ z : zS, z = zI σ46 4 (0 : Int32) := ⟨_, rfl⟩
        obtain ⟨hP, hD⟩ := znew (w := zM a tc) e_σ47 (yp_0_4) hP hD
        have h := h σ47 e_σ47
        clear e_σ47
        refine lv_aload_n hx hb nD_M_renew_59 rfl (lv_at hl 0 rfl) ?_
        refine zC_v (va_runV (As := []) (rest := []) ⟨hx, hb, hml, hown, hw⟩ (c_M_work l D tc a σ47 _ h _) (mcV 0 hw wm_401 wm_398 wm_400 wm_13 wm_33 rfl rfl nh_M_work ⟨Nat.le_of_ble_eq_true rfl, Nat.le_of_ble_eq_true rfl⟩) (zp_V (ci := 5) hP hD hK hn rfl yc_0) rfl rfl hl.1 rfl (lv_room (Nat.le_of_ble_eq_true rfl)) nD_M_renew_60 ⟨Nat.zero_le _, Nat.zero_le _⟩) hD hS hA (fun σ48 H locs h hP hD hS => ?_)
        exact mw_v hx hb hr hlocks ⟨σ48, rfl, h⟩ hP hK hD hS nD_M_renew_63
set_option maxHeartbeats 4000000 in
set_option maxRecDepth 100000 in
theorem c_M_happened (l : Launch) (D : va_G) (tc : Nat → ClassId) (a : Nat → Nat) (σ : zS) (post : zS → Prop) (h : j_M_happened  σ post) : mWv l nM_M_happened nC_M_happened 1 ({ frames := 4, cells := 0, slots := 0, locals := 91 } : Room) D (ztM tc) [.ref (a 0)] (zM a tc σ) (zQv (zM a tc) post) := by
  intro sz
  refine mt_W (by decide) (Nat.le_of_ble_eq_true rfl) ?_
  intro p e s m below meth c ls hx hb hml hr hown hlocks hin hw hn hP hK hD hS hA hl hsz
  subst hsz
  have hl : lv_has ls 1 [(0, .ref (a 0))] := hl
  unfold j_M_happened at h
  refine lv_aload_n hx hb nD_M_happened_0 rfl (lv_at hl 0 rfl) ?_
  refine zC_v (va_runV (As := []) (rest := []) ⟨hx, hb, hml, hown, hw⟩ (c_M_work l D tc a σ _ h _) (mcV 0 hw wm_401 wm_398 wm_400 wm_13 wm_33 rfl rfl nh_M_work ⟨Nat.le_of_ble_eq_true rfl, Nat.le_of_ble_eq_true rfl⟩) (zp_V (ci := 5) hP hD hK hn rfl yc_0) rfl rfl hl.1 rfl (lv_room (Nat.le_of_ble_eq_true rfl)) nD_M_happened_1 ⟨Nat.zero_le _, Nat.zero_le _⟩) hD hS hA (fun σ1 H locs h hP hD hS => ?_)
  refine lv_aload_n hx hb nD_M_happened_4 rfl (lv_at hl 0 rfl) ?_
  refine va_get (D := D) (ci := 5) (v := .long (σ1.2.2 2 0)) (C := nR_M) (T := nT_M) (N := 23) hx hb hw wu_M hown hK hP 0 yc_0 rfl 18 (by decide) (hw _ wm_441) (fun _ h9 => h9) rfl nD_M_happened_5 ?_
  refine lv_lconst (v := (0 : Int64)) hx hb nD_M_happened_8 (by decide) ?_
  refine W.lcmp hx hb nD_M_happened_9 ?_
  refine lv_if_ne (tgt := 28) hx hb nD_M_happened_10 (by decide) (fun hc => ?_) (fun hc => ?_)
  · have h := h.2 hc
    exact mw_v hx hb hr hlocks ⟨σ1, rfl, h⟩ hP hK hD hS nD_M_happened_28
  · have h := h.1 hc
    refine lv_aload_n hx hb nD_M_happened_13 rfl (lv_at hl 0 rfl) ?_
    refine va_get (D := D) (ci := 5) (v := .int (σ1.1 3)) (C := nR_M) (T := nT_M) (N := 23) hx hb hw wu_M hown hK hP 0 yc_0 rfl 3 (by decide) (hw _ wm_426) (fun _ h9 => h9) rfl nD_M_happened_14 ?_
    refine lv_if_ne (tgt := 28) hx hb nD_M_happened_17 (by decide) (fun hc => ?_) (fun hc => ?_)
    · have h := h.2 hc
      exact mw_v hx hb hr hlocks ⟨σ1, rfl, h⟩ hP hK hD hS nD_M_happened_28
    · have h := h.1 hc
      refine lv_aload_n hx hb nD_M_happened_20 rfl (lv_at hl 0 rfl) ?_
      refine lv_aload_n hx hb nD_M_happened_21 rfl (lv_at hl 0 rfl) ?_
      refine va_get (D := D) (ci := 5) (v := .int (σ1.1 2)) (C := nR_M) (T := nT_M) (N := 23) hx hb hw wu_M hown hK hP 0 yc_0 rfl 2 (by decide) (hw _ wm_425) (fun _ h9 => h9) rfl nD_M_happened_22 ?_
      refine va_put (D := D) (ci := 5) (v := .int (σ1.1 2)) (ty := .int) (C := nR_M) (T := nT_M) (N := 23) hx hb hw wu_M nY_M nO_M nN_M hown hK hP hD hS 0 yc_0 rfl 3 (by decide) (hw _ wm_426) (fun _ h9 => h9) rfl (by decide +kernel) rfl rfl (Nat.le_of_ble_eq_true rfl) nD_M_happened_25 (fun H locs hP hD hS => ?_)
      obtain ⟨σ2, e_σ2⟩ : ∃ z : zS, z = zI σ1 3 (σ1.1 2) := ⟨_, rfl⟩
      obtain ⟨hP, hD⟩ := znew (w := zM a tc) e_σ2 (yp_0_3) hP hD
      have h := h σ2 e_σ2
      clear e_σ2
      exact mw_v hx hb hr hlocks ⟨σ2, rfl, h⟩ hP hK hD hS nD_M_happened_28
set_option maxHeartbeats 4000000 in
set_option maxRecDepth 100000 in
theorem c_M_begin (l : Launch) (D : va_G) (tc : Nat → ClassId) (a : Nat → Nat) (x1 : Int32) (x2 : Int32) (x3 : Int32) (σ : zS) (post : Int32 → zS → Prop) (h : j_M_begin x1 x2 x3 σ post) : mWi l nM_M_begin nC_M_begin 4 (some .boolean) ({ frames := 5, cells := 0, slots := 0, locals := 111 } : Room) D (ztM tc) [.ref (a 0), .int x1, .int x2, .int x3] (zM a tc σ) (zQi (zM a tc) post) := by
  intro sz
  refine mt_W (by decide) (Nat.le_of_ble_eq_true rfl) ?_
  intro p e s m below meth c ls hx hb hml hr hown hlocks hin hw hn hP hK hD hS hA hl hsz
  subst hsz
  have hl : lv_has ls 4 [(0, .ref (a 0)), (1, .int x1), (2, .int x2), (3, .int x3)] := hl
  unfold j_M_begin at h
  refine lv_iload_n hx hb nD_M_begin_0 rfl (lv_at hl 1 rfl) ?_
  refine lv_if_lt (tgt := 26) hx hb nD_M_begin_1 (by decide) (fun hc => ?_) (fun hc => ?_)
  · have h := h.1 hc
    refine lv_iconst (v := (0 : Int32)) hx hb nD_M_begin_26 (by decide) ?_
    exact mw_z hx hb hr hlocks rfl ⟨σ, rfl, h⟩ hP hK hD hS nD_M_begin_27
  · have h := h.2 hc
    refine lv_iload_n hx hb nD_M_begin_4 rfl (lv_at hl 1 rfl) ?_
    refine lv_iconst (v := (2 : Int32)) hx hb nD_M_begin_5 (by decide) ?_
    refine lv_icmp_gt (tgt := 26) hx hb nD_M_begin_6 (by decide) (fun hc => ?_) (fun hc => ?_)
    · have h := h.1 hc
      refine lv_iconst (v := (0 : Int32)) hx hb nD_M_begin_26 (by decide) ?_
      exact mw_z hx hb hr hlocks rfl ⟨σ, rfl, h⟩ hP hK hD hS nD_M_begin_27
    · have h := h.2 hc
      refine lv_aload_n hx hb nD_M_begin_9 rfl (lv_at hl 0 rfl) ?_
      refine va_get (D := D) (ci := 5) (v := .int (σ.1 4)) (C := nR_M) (T := nT_M) (N := 23) hx hb hw wu_M hown hK hP 0 yc_0 rfl 4 (by decide) (hw _ wm_427) (fun _ h9 => h9) rfl nD_M_begin_10 ?_
      refine lv_bipush (v := (8 : Int32)) hx hb nD_M_begin_13 (by decide) ?_
      refine lv_icmp_ge (tgt := 26) hx hb nD_M_begin_15 (by decide) (fun hc => ?_) (fun hc => ?_)
      · have h := h.1 hc
        refine lv_iconst (v := (0 : Int32)) hx hb nD_M_begin_26 (by decide) ?_
        exact mw_z hx hb hr hlocks rfl ⟨σ, rfl, h⟩ hP hK hD hS nD_M_begin_27
      · have h := h.2 hc
        refine lv_aload_n hx hb nD_M_begin_18 rfl (lv_at hl 0 rfl) ?_
        refine lv_iload_n hx hb nD_M_begin_19 rfl (lv_at hl 1 rfl) ?_
        refine zC_i (va_runV (As := [.int x1]) (rest := []) ⟨hx, hb, hml, hown, hw⟩ (c_M_openOf l D tc a x1 σ _ h _) (mcV 1 hw wm_506 wm_503 wm_505 wm_20 wm_33 rfl rfl nh_M_openOf ⟨Nat.le_of_ble_eq_true rfl, Nat.le_of_ble_eq_true rfl⟩) (zp_V (ci := 5) hP hD hK hn rfl yc_0) rfl rfl hl.1 rfl (lv_room (Nat.le_of_ble_eq_true rfl)) nD_M_begin_20 ⟨Nat.zero_le _, Nat.zero_le _⟩) hD hS hA (fun r2 σ1 H locs h hP hD hS => ?_)
        refine lv_if_lt (tgt := 28) hx hb nD_M_begin_23 (by decide) (fun hc => ?_) (fun hc => ?_)
        · have h := h.1 hc
          refine lv_aload_n hx hb nD_M_begin_28 rfl (lv_at hl 0 rfl) ?_
          refine lv_dup hx hb nD_M_begin_29 rfl ?_
          refine va_get (D := D) (ci := 5) (v := .int (σ1.1 2)) (C := nR_M) (T := nT_M) (N := 23) hx hb hw wu_M hown hK hP 0 yc_0 rfl 2 (by decide) (hw _ wm_425) (fun _ h9 => h9) rfl nD_M_begin_30 ?_
          refine lv_iconst (v := (1 : Int32)) hx hb nD_M_begin_33 (by decide) ?_
          refine lv_iadd hx hb nD_M_begin_34 ?_
          refine va_put (D := D) (ci := 5) (v := .int ((σ1.1 2) + (1 : Int32))) (ty := .int) (C := nR_M) (T := nT_M) (N := 23) hx hb hw wu_M nY_M nO_M nN_M hown hK hP hD hS 0 yc_0 rfl 2 (by decide) (hw _ wm_425) (fun _ h9 => h9) rfl (by decide +kernel) rfl rfl (Nat.le_of_ble_eq_true rfl) nD_M_begin_35 (fun H locs hP hD hS => ?_)
          obtain ⟨σ3, e_σ3⟩ : ∃ z : zS, z = zI σ1 2 ((σ1.1 2) + (1 : Int32)) := ⟨_, rfl⟩
          obtain ⟨hP, hD⟩ := znew (w := zM a tc) e_σ3 (yp_0_2) hP hD
          have h := h σ3 e_σ3
          clear e_σ3
          refine lv_aload_n hx hb nD_M_begin_38 rfl (lv_at hl 0 rfl) ?_
          refine va_get (D := D) (ci := 5) (v := .ref (a 1)) (C := nR_M) (T := nT_M) (N := 23) hx hb hw wu_M hown hK hP 0 yc_0 rfl 5 (by decide) (hw _ wm_428) (fun _ h9 => h9) rfl nD_M_begin_39 ?_
          refine lv_aload_n hx hb nD_M_begin_42 rfl (lv_at hl 0 rfl) ?_
          refine va_get (D := D) (ci := 5) (v := .int (σ3.1 4)) (C := nR_M) (T := nT_M) (N := 23) hx hb hw wu_M hown hK hP 0 yc_0 rfl 4 (by decide) (hw _ wm_427) (fun _ h9 => h9) rfl nD_M_begin_43 ?_
          refine lv_iload_n hx hb nD_M_begin_46 rfl (lv_at hl 1 rfl) ?_
          obtain ⟨hi4, h⟩ := h
          refine va_iast (D := D) hx hb hK hP hD hS 1 0 yc_1 rfl hi4 nD_M_begin_47 (fun H locs hP hD hS => ?_)
          obtain ⟨σ5, e_σ5⟩ : ∃ z : zS, z = zA σ3 0 (σ3.1 4).toNatClampNeg x1 := ⟨_, rfl⟩
          obtain ⟨hP, hD⟩ := znew (w := zM a tc) e_σ5 (ya_1) hP hD
          have h := h σ5 e_σ5
          clear e_σ5
          refine lv_aload_n hx hb nD_M_begin_48 rfl (lv_at hl 0 rfl) ?_
          refine va_get (D := D) (ci := 5) (v := .ref (a 2)) (C := nR_M) (T := nT_M) (N := 23) hx hb hw wu_M hown hK hP 0 yc_0 rfl 6 (by decide) (hw _ wm_429) (fun _ h9 => h9) rfl nD_M_begin_49 ?_
          refine lv_aload_n hx hb nD_M_begin_52 rfl (lv_at hl 0 rfl) ?_
          refine va_get (D := D) (ci := 5) (v := .int (σ5.1 4)) (C := nR_M) (T := nT_M) (N := 23) hx hb hw wu_M hown hK hP 0 yc_0 rfl 4 (by decide) (hw _ wm_427) (fun _ h9 => h9) rfl nD_M_begin_53 ?_
          refine lv_iload_n hx hb nD_M_begin_56 rfl (lv_at hl 2 rfl) ?_
          obtain ⟨hi6, h⟩ := h
          refine va_zast (D := D) hx hb hK hP hD hS 2 1 yc_2 rfl hi6 nD_M_begin_57 (fun H locs hP hD hS => ?_)
          obtain ⟨σ7, e_σ7⟩ : ∃ z : zS, z = zA σ5 1 (σ5.1 4).toNatClampNeg (vp_nar .boolean x2) := ⟨_, rfl⟩
          obtain ⟨hP, hD⟩ := znew (w := zM a tc) e_σ7 (ya_2) hP hD
          have h := h σ7 e_σ7
          clear e_σ7
          refine lv_aload_n hx hb nD_M_begin_58 rfl (lv_at hl 0 rfl) ?_
          refine va_get (D := D) (ci := 5) (v := .ref (a 3)) (C := nR_M) (T := nT_M) (N := 23) hx hb hw wu_M hown hK hP 0 yc_0 rfl 7 (by decide) (hw _ wm_430) (fun _ h9 => h9) rfl nD_M_begin_59 ?_
          refine lv_aload_n hx hb nD_M_begin_62 rfl (lv_at hl 0 rfl) ?_
          refine va_get (D := D) (ci := 5) (v := .int (σ7.1 4)) (C := nR_M) (T := nT_M) (N := 23) hx hb hw wu_M hown hK hP 0 yc_0 rfl 4 (by decide) (hw _ wm_427) (fun _ h9 => h9) rfl nD_M_begin_63 ?_
          refine lv_iload_n hx hb nD_M_begin_66 rfl (lv_at hl 3 rfl) ?_
          obtain ⟨hi8, h⟩ := h
          refine va_iast (D := D) hx hb hK hP hD hS 3 2 yc_3 rfl hi8 nD_M_begin_67 (fun H locs hP hD hS => ?_)
          obtain ⟨σ9, e_σ9⟩ : ∃ z : zS, z = zA σ7 2 (σ7.1 4).toNatClampNeg x3 := ⟨_, rfl⟩
          obtain ⟨hP, hD⟩ := znew (w := zM a tc) e_σ9 (ya_3) hP hD
          have h := h σ9 e_σ9
          clear e_σ9
          refine lv_aload_n hx hb nD_M_begin_68 rfl (lv_at hl 0 rfl) ?_
          refine va_get (D := D) (ci := 5) (v := .ref (a 4)) (C := nR_M) (T := nT_M) (N := 23) hx hb hw wu_M hown hK hP 0 yc_0 rfl 8 (by decide) (hw _ wm_431) (fun _ h9 => h9) rfl nD_M_begin_69 ?_
          refine lv_aload_n hx hb nD_M_begin_72 rfl (lv_at hl 0 rfl) ?_
          refine va_get (D := D) (ci := 5) (v := .int (σ9.1 4)) (C := nR_M) (T := nT_M) (N := 23) hx hb hw wu_M hown hK hP 0 yc_0 rfl 4 (by decide) (hw _ wm_427) (fun _ h9 => h9) rfl nD_M_begin_73 ?_
          refine lv_aload_n hx hb nD_M_begin_76 rfl (lv_at hl 0 rfl) ?_
          refine va_get (D := D) (ci := 5) (v := .int (σ9.1 2)) (C := nR_M) (T := nT_M) (N := 23) hx hb hw wu_M hown hK hP 0 yc_0 rfl 2 (by decide) (hw _ wm_425) (fun _ h9 => h9) rfl nD_M_begin_77 ?_
          obtain ⟨hi10, h⟩ := h
          refine va_iast (D := D) hx hb hK hP hD hS 4 3 yc_4 rfl hi10 nD_M_begin_80 (fun H locs hP hD hS => ?_)
          obtain ⟨σ11, e_σ11⟩ : ∃ z : zS, z = zA σ9 3 (σ9.1 4).toNatClampNeg (σ9.1 2) := ⟨_, rfl⟩
          obtain ⟨hP, hD⟩ := znew (w := zM a tc) e_σ11 (ya_4) hP hD
          have h := h σ11 e_σ11
          clear e_σ11
          refine lv_aload_n hx hb nD_M_begin_81 rfl (lv_at hl 0 rfl) ?_
          refine va_get (D := D) (ci := 5) (v := .ref (a 7)) (C := nR_M) (T := nT_M) (N := 23) hx hb hw wu_M hown hK hP 0 yc_0 rfl 11 (by decide) (hw _ wm_434) (fun _ h9 => h9) rfl nD_M_begin_82 ?_
          refine lv_aload_n hx hb nD_M_begin_85 rfl (lv_at hl 0 rfl) ?_
          refine va_get (D := D) (ci := 5) (v := .int (σ11.1 4)) (C := nR_M) (T := nT_M) (N := 23) hx hb hw wu_M hown hK hP 0 yc_0 rfl 4 (by decide) (hw _ wm_427) (fun _ h9 => h9) rfl nD_M_begin_86 ?_
          refine lv_iconst (v := (0 : Int32)) hx hb nD_M_begin_89 (by decide) ?_
          obtain ⟨hi12, h⟩ := h
          refine va_iast (D := D) hx hb hK hP hD hS 7 6 yc_7 rfl hi12 nD_M_begin_90 (fun H locs hP hD hS => ?_)
          obtain ⟨σ13, e_σ13⟩ : ∃ z : zS, z = zA σ11 6 (σ11.1 4).toNatClampNeg (0 : Int32) := ⟨_, rfl⟩
          obtain ⟨hP, hD⟩ := znew (w := zM a tc) e_σ13 (ya_7) hP hD
          have h := h σ13 e_σ13
          clear e_σ13
          refine lv_aload_n hx hb nD_M_begin_91 rfl (lv_at hl 0 rfl) ?_
          refine lv_dup hx hb nD_M_begin_92 rfl ?_
          refine va_get (D := D) (ci := 5) (v := .int (σ13.1 4)) (C := nR_M) (T := nT_M) (N := 23) hx hb hw wu_M hown hK hP 0 yc_0 rfl 4 (by decide) (hw _ wm_427) (fun _ h9 => h9) rfl nD_M_begin_93 ?_
          refine lv_iconst (v := (1 : Int32)) hx hb nD_M_begin_96 (by decide) ?_
          refine lv_iadd hx hb nD_M_begin_97 ?_
          refine va_put (D := D) (ci := 5) (v := .int ((σ13.1 4) + (1 : Int32))) (ty := .int) (C := nR_M) (T := nT_M) (N := 23) hx hb hw wu_M nY_M nO_M nN_M hown hK hP hD hS 0 yc_0 rfl 4 (by decide) (hw _ wm_427) (fun _ h9 => h9) rfl (by decide +kernel) rfl rfl (Nat.le_of_ble_eq_true rfl) nD_M_begin_98 (fun H locs hP hD hS => ?_)
          obtain ⟨σ14, e_σ14⟩ : ∃ z : zS, z = zI σ13 4 ((σ13.1 4) + (1 : Int32)) := ⟨_, rfl⟩
          obtain ⟨hP, hD⟩ := znew (w := zM a tc) e_σ14 (yp_0_4) hP hD
          have h := h σ14 e_σ14
          clear e_σ14
          refine lv_aload_n hx hb nD_M_begin_101 rfl (lv_at hl 0 rfl) ?_
          refine zC_v (va_runV (As := []) (rest := []) ⟨hx, hb, hml, hown, hw⟩ (c_M_happened l D tc a σ14 _ h _) (mcV 0 hw wm_510 wm_507 wm_509 wm_21 wm_33 rfl rfl nh_M_happened ⟨Nat.le_of_ble_eq_true rfl, Nat.le_of_ble_eq_true rfl⟩) (zp_V (ci := 5) hP hD hK hn rfl yc_0) rfl rfl hl.1 rfl (lv_room (Nat.le_of_ble_eq_true rfl)) nD_M_begin_102 ⟨Nat.zero_le _, Nat.zero_le _⟩) hD hS hA (fun σ15 H locs h hP hD hS => ?_)
          refine lv_iconst (v := (1 : Int32)) hx hb nD_M_begin_105 (by decide) ?_
          exact mw_z hx hb hr hlocks rfl ⟨σ15, rfl, h⟩ hP hK hD hS nD_M_begin_106
        · have h := h.2 hc
          refine lv_iconst (v := (0 : Int32)) hx hb nD_M_begin_26 (by decide) ?_
          exact mw_z hx hb hr hlocks rfl ⟨σ1, rfl, h⟩ hP hK hD hS nD_M_begin_27
set_option maxHeartbeats 4000000 in
set_option maxRecDepth 100000 in
theorem c_M_close (l : Launch) (D : va_G) (tc : Nat → ClassId) (a : Nat → Nat) (x1 : Int32) (x2 : Int32) (x3 : Int32) (σ : zS) (post : zS → Prop) (h : j_M_close x1 x2 x3 σ post) : mWv l nM_M_close nC_M_close 4 ({ frames := 5, cells := 0, slots := 0, locals := 111 } : Room) D (ztM tc) [.ref (a 0), .int x1, .int x2, .int x3] (zM a tc σ) (zQv (zM a tc) post) := by
  intro sz
  refine mt_W (by decide) (Nat.le_of_ble_eq_true rfl) ?_
  intro p e s m below meth c ls hx hb hml hr hown hlocks hin hw hn hP hK hD hS hA hl hsz
  subst hsz
  have hl : lv_has ls 4 [(0, .ref (a 0)), (1, .int x1), (2, .int x2), (3, .int x3)] := hl
  unfold j_M_close at h
  refine lv_aload_n hx hb nD_M_close_0 rfl (lv_at hl 0 rfl) ?_
  refine lv_dup hx hb nD_M_close_1 rfl ?_
  refine va_get (D := D) (ci := 5) (v := .int (σ.1 2)) (C := nR_M) (T := nT_M) (N := 23) hx hb hw wu_M hown hK hP 0 yc_0 rfl 2 (by decide) (hw _ wm_425) (fun _ h9 => h9) rfl nD_M_close_2 ?_
  refine lv_iconst (v := (1 : Int32)) hx hb nD_M_close_5 (by decide) ?_
  refine lv_iadd hx hb nD_M_close_6 ?_
  refine va_put (D := D) (ci := 5) (v := .int ((σ.1 2) + (1 : Int32))) (ty := .int) (C := nR_M) (T := nT_M) (N := 23) hx hb hw wu_M nY_M nO_M nN_M hown hK hP hD hS 0 yc_0 rfl 2 (by decide) (hw _ wm_425) (fun _ h9 => h9) rfl (by decide +kernel) rfl rfl (Nat.le_of_ble_eq_true rfl) nD_M_close_7 (fun H locs hP hD hS => ?_)
  obtain ⟨σ1, e_σ1⟩ : ∃ z : zS, z = zI σ 2 ((σ.1 2) + (1 : Int32)) := ⟨_, rfl⟩
  obtain ⟨hP, hD⟩ := znew (w := zM a tc) e_σ1 (yp_0_2) hP hD
  have h := h σ1 e_σ1
  clear e_σ1
  refine lv_aload_n hx hb nD_M_close_10 rfl (lv_at hl 0 rfl) ?_
  refine va_get (D := D) (ci := 5) (v := .ref (a 7)) (C := nR_M) (T := nT_M) (N := 23) hx hb hw wu_M hown hK hP 0 yc_0 rfl 11 (by decide) (hw _ wm_434) (fun _ h9 => h9) rfl nD_M_close_11 ?_
  refine lv_iload_n hx hb nD_M_close_14 rfl (lv_at hl 1 rfl) ?_
  refine lv_iload_n hx hb nD_M_close_15 rfl (lv_at hl 2 rfl) ?_
  obtain ⟨hi2, h⟩ := h
  refine va_iast (D := D) hx hb hK hP hD hS 7 6 yc_7 rfl hi2 nD_M_close_16 (fun H locs hP hD hS => ?_)
  obtain ⟨σ3, e_σ3⟩ : ∃ z : zS, z = zA σ1 6 x1.toNatClampNeg x2 := ⟨_, rfl⟩
  obtain ⟨hP, hD⟩ := znew (w := zM a tc) e_σ3 (ya_7) hP hD
  have h := h σ3 e_σ3
  clear e_σ3
  refine lv_aload_n hx hb nD_M_close_17 rfl (lv_at hl 0 rfl) ?_
  refine va_get (D := D) (ci := 5) (v := .ref (a 5)) (C := nR_M) (T := nT_M) (N := 23) hx hb hw wu_M hown hK hP 0 yc_0 rfl 9 (by decide) (hw _ wm_432) (fun _ h9 => h9) rfl nD_M_close_18 ?_
  refine lv_iload_n hx hb nD_M_close_21 rfl (lv_at hl 1 rfl) ?_
  refine lv_aload_n hx hb nD_M_close_22 rfl (lv_at hl 0 rfl) ?_
  refine va_get (D := D) (ci := 5) (v := .int (σ3.1 2)) (C := nR_M) (T := nT_M) (N := 23) hx hb hw wu_M hown hK hP 0 yc_0 rfl 2 (by decide) (hw _ wm_425) (fun _ h9 => h9) rfl nD_M_close_23 ?_
  obtain ⟨hi4, h⟩ := h
  refine va_iast (D := D) hx hb hK hP hD hS 5 4 yc_5 rfl hi4 nD_M_close_26 (fun H locs hP hD hS => ?_)
  obtain ⟨σ5, e_σ5⟩ : ∃ z : zS, z = zA σ3 4 x1.toNatClampNeg (σ3.1 2) := ⟨_, rfl⟩
  obtain ⟨hP, hD⟩ := znew (w := zM a tc) e_σ5 (ya_5) hP hD
  have h := h σ5 e_σ5
  clear e_σ5
  refine lv_aload_n hx hb nD_M_close_27 rfl (lv_at hl 0 rfl) ?_
  refine va_get (D := D) (ci := 5) (v := .ref (a 6)) (C := nR_M) (T := nT_M) (N := 23) hx hb hw wu_M hown hK hP 0 yc_0 rfl 10 (by decide) (hw _ wm_433) (fun _ h9 => h9) rfl nD_M_close_28 ?_
  refine lv_iload_n hx hb nD_M_close_31 rfl (lv_at hl 1 rfl) ?_
  refine lv_iload_n hx hb nD_M_close_32 rfl (lv_at hl 3 rfl) ?_
  obtain ⟨hi6, h⟩ := h
  refine va_iast (D := D) hx hb hK hP hD hS 6 5 yc_6 rfl hi6 nD_M_close_33 (fun H locs hP hD hS => ?_)
  obtain ⟨σ7, e_σ7⟩ : ∃ z : zS, z = zA σ5 5 x1.toNatClampNeg x3 := ⟨_, rfl⟩
  obtain ⟨hP, hD⟩ := znew (w := zM a tc) e_σ7 (ya_6) hP hD
  have h := h σ7 e_σ7
  clear e_σ7
  refine lv_aload_n hx hb nD_M_close_34 rfl (lv_at hl 0 rfl) ?_
  refine zC_v (va_runV (As := []) (rest := []) ⟨hx, hb, hml, hown, hw⟩ (c_M_happened l D tc a σ7 _ h _) (mcV 0 hw wm_510 wm_507 wm_509 wm_21 wm_33 rfl rfl nh_M_happened ⟨Nat.le_of_ble_eq_true rfl, Nat.le_of_ble_eq_true rfl⟩) (zp_V (ci := 5) hP hD hK hn rfl yc_0) rfl rfl hl.1 rfl (lv_room (Nat.le_of_ble_eq_true rfl)) nD_M_close_35 ⟨Nat.zero_le _, Nat.zero_le _⟩) hD hS hA (fun σ8 H locs h hP hD hS => ?_)
  exact mw_v hx hb hr hlocks ⟨σ8, rfl, h⟩ hP hK hD hS nD_M_close_38
set_option maxHeartbeats 4000000 in
set_option maxRecDepth 100000 in
theorem c_M_beginPut (l : Launch) (D : va_G) (tc : Nat → ClassId) (a : Nat → Nat) (x1 : Int32) (x2 : Int32) (σ : zS) (post : Int32 → zS → Prop) (h : j_M_beginPut x1 x2 σ post) : mWi l nM_M_beginPut nC_M_beginPut 3 (some .boolean) ({ frames := 6, cells := 0, slots := 0, locals := 134 } : Room) D (ztM tc) [.ref (a 0), .int x1, .int x2] (zM a tc σ) (zQi (zM a tc) post) := by
  intro sz
  refine mt_W (by decide) (Nat.le_of_ble_eq_true rfl) ?_
  intro p e s m below meth c ls hx hb hml hr hown hlocks hin hw hn hP hK hD hS hA hl hsz
  subst hsz
  have hl : lv_has ls 3 [(0, .ref (a 0)), (1, .int x1), (2, .int x2)] := hl
  unfold j_M_beginPut at h
  refine lv_iload_n hx hb nD_M_beginPut_0 rfl (lv_at hl 2 rfl) ?_
  refine lv_if_lt (tgt := 22) hx hb nD_M_beginPut_1 (by decide) (fun hc => ?_) (fun hc => ?_)
  · have h := h.1 hc
    refine lv_iconst (v := (0 : Int32)) hx hb nD_M_beginPut_22 (by decide) ?_
    exact mw_z hx hb hr hlocks rfl ⟨σ, rfl, h⟩ hP hK hD hS nD_M_beginPut_23
  · have h := h.2 hc
    refine lv_iload_n hx hb nD_M_beginPut_4 rfl (lv_at hl 2 rfl) ?_
    refine lv_bipush (v := (15 : Int32)) hx hb nD_M_beginPut_5 (by decide) ?_
    refine lv_icmp_gt (tgt := 22) hx hb nD_M_beginPut_7 (by decide) (fun hc => ?_) (fun hc => ?_)
    · have h := h.1 hc
      refine lv_iconst (v := (0 : Int32)) hx hb nD_M_beginPut_22 (by decide) ?_
      exact mw_z hx hb hr hlocks rfl ⟨σ, rfl, h⟩ hP hK hD hS nD_M_beginPut_23
    · have h := h.2 hc
      refine lv_aload_n hx hb nD_M_beginPut_10 rfl (lv_at hl 0 rfl) ?_
      refine va_get (D := D) (ci := 5) (v := .int (σ.1 0)) (C := nR_M) (T := nT_M) (N := 23) hx hb hw wu_M hown hK hP 0 yc_0 rfl 0 (by decide) (hw _ wm_423) (fun _ h9 => h9) rfl nD_M_beginPut_11 ?_
      refine lv_iconst (v := (2 : Int32)) hx hb nD_M_beginPut_14 (by decide) ?_
      refine lv_icmp_ne (tgt := 24) hx hb nD_M_beginPut_15 (by decide) (fun hc => ?_) (fun hc => ?_)
      · have h := h.2 hc
        refine lv_aload_n hx hb nD_M_beginPut_24 rfl (lv_at hl 0 rfl) ?_
        refine lv_iload_n hx hb nD_M_beginPut_25 rfl (lv_at hl 1 rfl) ?_
        refine lv_iconst (v := (1 : Int32)) hx hb nD_M_beginPut_26 (by decide) ?_
        refine lv_iload_n hx hb nD_M_beginPut_27 rfl (lv_at hl 2 rfl) ?_
        refine zC_i (va_runV (As := [.int x1, .int (1 : Int32), .int x2]) (rest := []) ⟨hx, hb, hml, hown, hw⟩ (c_M_begin l D tc a x1 (1 : Int32) x2 σ _ h _) (mcV 3 hw wm_502 wm_499 wm_501 wm_19 wm_33 rfl rfl nh_M_begin ⟨Nat.le_of_ble_eq_true rfl, Nat.le_of_ble_eq_true rfl⟩) (zp_V (ci := 5) hP hD hK hn rfl yc_0) rfl rfl hl.1 rfl (lv_room (Nat.le_of_ble_eq_true rfl)) nD_M_beginPut_28 ⟨Nat.zero_le _, Nat.zero_le _⟩) hD hS hA (fun r2 σ1 H locs h hP hD hS => ?_)
        exact mw_z hx hb hr hlocks h.1 ⟨σ1, rfl, h.2⟩ hP hK hD hS nD_M_beginPut_31
      · have h := h.1 hc
        refine lv_iload_n hx hb nD_M_beginPut_18 rfl (lv_at hl 1 rfl) ?_
        refine lv_if_eq (tgt := 24) hx hb nD_M_beginPut_19 (by decide) (fun hc => ?_) (fun hc => ?_)
        · have h := h.1 hc
          refine lv_aload_n hx hb nD_M_beginPut_24 rfl (lv_at hl 0 rfl) ?_
          refine lv_iload_n hx hb nD_M_beginPut_25 rfl (lv_at hl 1 rfl) ?_
          refine lv_iconst (v := (1 : Int32)) hx hb nD_M_beginPut_26 (by decide) ?_
          refine lv_iload_n hx hb nD_M_beginPut_27 rfl (lv_at hl 2 rfl) ?_
          refine zC_i (va_runV (As := [.int x1, .int (1 : Int32), .int x2]) (rest := []) ⟨hx, hb, hml, hown, hw⟩ (c_M_begin l D tc a x1 (1 : Int32) x2 σ _ h _) (mcV 3 hw wm_502 wm_499 wm_501 wm_19 wm_33 rfl rfl nh_M_begin ⟨Nat.le_of_ble_eq_true rfl, Nat.le_of_ble_eq_true rfl⟩) (zp_V (ci := 5) hP hD hK hn rfl yc_0) rfl rfl hl.1 rfl (lv_room (Nat.le_of_ble_eq_true rfl)) nD_M_beginPut_28 ⟨Nat.zero_le _, Nat.zero_le _⟩) hD hS hA (fun r4 σ3 H locs h hP hD hS => ?_)
          exact mw_z hx hb hr hlocks h.1 ⟨σ3, rfl, h.2⟩ hP hK hD hS nD_M_beginPut_31
        · have h := h.2 hc
          refine lv_iconst (v := (0 : Int32)) hx hb nD_M_beginPut_22 (by decide) ?_
          exact mw_z hx hb hr hlocks rfl ⟨σ, rfl, h⟩ hP hK hD hS nD_M_beginPut_23
set_option maxHeartbeats 4000000 in
set_option maxRecDepth 100000 in
theorem c_M_beginTake (l : Launch) (D : va_G) (tc : Nat → ClassId) (a : Nat → Nat) (x1 : Int32) (σ : zS) (post : Int32 → zS → Prop) (h : j_M_beginTake x1 σ post) : mWi l nM_M_beginTake nC_M_beginTake 2 (some .boolean) ({ frames := 6, cells := 0, slots := 0, locals := 134 } : Room) D (ztM tc) [.ref (a 0), .int x1] (zM a tc σ) (zQi (zM a tc) post) := by
  intro sz
  refine mt_W (by decide) (Nat.le_of_ble_eq_true rfl) ?_
  intro p e s m below meth c ls hx hb hml hr hown hlocks hin hw hn hP hK hD hS hA hl hsz
  subst hsz
  have hl : lv_has ls 2 [(0, .ref (a 0)), (1, .int x1)] := hl
  unfold j_M_beginTake at h
  refine lv_aload_n hx hb nD_M_beginTake_0 rfl (lv_at hl 0 rfl) ?_
  refine lv_iload_n hx hb nD_M_beginTake_1 rfl (lv_at hl 1 rfl) ?_
  refine lv_iconst (v := (0 : Int32)) hx hb nD_M_beginTake_2 (by decide) ?_
  refine lv_iconst (v := (0 : Int32)) hx hb nD_M_beginTake_3 (by decide) ?_
  refine zC_i (va_runV (As := [.int x1, .int (0 : Int32), .int (0 : Int32)]) (rest := []) ⟨hx, hb, hml, hown, hw⟩ (c_M_begin l D tc a x1 (0 : Int32) (0 : Int32) σ _ h _) (mcV 3 hw wm_502 wm_499 wm_501 wm_19 wm_33 rfl rfl nh_M_begin ⟨Nat.le_of_ble_eq_true rfl, Nat.le_of_ble_eq_true rfl⟩) (zp_V (ci := 5) hP hD hK hn rfl yc_0) rfl rfl hl.1 rfl (lv_room (Nat.le_of_ble_eq_true rfl)) nD_M_beginTake_4 ⟨Nat.zero_le _, Nat.zero_le _⟩) hD hS hA (fun r2 σ1 H locs h hP hD hS => ?_)
  exact mw_z hx hb hr hlocks h.1 ⟨σ1, rfl, h.2⟩ hP hK hD hS nD_M_beginTake_7
set_option maxHeartbeats 4000000 in
set_option maxRecDepth 100000 in
theorem c_M_endPut (l : Launch) (D : va_G) (tc : Nat → ClassId) (a : Nat → Nat) (x1 : Int32) (x2 : Int32) (σ : zS) (post : Int32 → zS → Prop) (h : j_M_endPut x1 x2 σ post) : mWi l nM_M_endPut nC_M_endPut 4 (some .boolean) ({ frames := 6, cells := 0, slots := 0, locals := 134 } : Room) D (ztM tc) [.ref (a 0), .int x1, .int x2] (zM a tc σ) (zQi (zM a tc) post) := by
  intro sz
  refine mt_W (by decide) (Nat.le_of_ble_eq_true rfl) ?_
  intro p e s m below meth c ls hx hb hml hr hown hlocks hin hw hn hP hK hD hS hA hl hsz
  subst hsz
  have hl : lv_has ls 4 [(0, .ref (a 0)), (1, .int x1), (2, .int x2)] := hl
  unfold j_M_endPut at h
  refine lv_aload_n hx hb nD_M_endPut_0 rfl (lv_at hl 0 rfl) ?_
  refine lv_iload_n hx hb nD_M_endPut_1 rfl (lv_at hl 1 rfl) ?_
  refine zC_i (va_runV (As := [.int x1]) (rest := []) ⟨hx, hb, hml, hown, hw⟩ (c_M_openOf l D tc a x1 σ _ h _) (mcV 1 hw wm_506 wm_503 wm_505 wm_20 wm_33 rfl rfl nh_M_openOf ⟨Nat.le_of_ble_eq_true rfl, Nat.le_of_ble_eq_true rfl⟩) (zp_V (ci := 5) hP hD hK hn rfl yc_0) rfl rfl hl.1 rfl (lv_room (Nat.le_of_ble_eq_true rfl)) nD_M_endPut_2 ⟨Nat.zero_le _, Nat.zero_le _⟩) hD hS hA (fun r2 σ1 H locs h hP hD hS => ?_)
  refine lv_istore_n hx hb nD_M_endPut_5 rfl hl (by decide) rfl (fun ls hl => ?_)
  have hl : lv_has ls 4 [(3, .int r2), (0, .ref (a 0)), (1, .int x1), (2, .int x2)] := hl
  refine lv_iload_n hx hb nD_M_endPut_6 rfl (lv_at hl 0 rfl) ?_
  refine lv_if_lt (tgt := 19) hx hb nD_M_endPut_7 (by decide) (fun hc => ?_) (fun hc => ?_)
  · have h := h.1 hc
    refine lv_iconst (v := (0 : Int32)) hx hb nD_M_endPut_19 (by decide) ?_
    exact mw_z hx hb hr hlocks rfl ⟨σ1, rfl, h⟩ hP hK hD hS nD_M_endPut_20
  · have h := h.2 hc
    refine lv_aload_n hx hb nD_M_endPut_10 rfl (lv_at hl 1 rfl) ?_
    refine va_get (D := D) (ci := 5) (v := .ref (a 2)) (C := nR_M) (T := nT_M) (N := 23) hx hb hw wu_M hown hK hP 0 yc_0 rfl 6 (by decide) (hw _ wm_429) (fun _ h9 => h9) rfl nD_M_endPut_11 ?_
    refine lv_iload_n hx hb nD_M_endPut_14 rfl (lv_at hl 0 rfl) ?_
    obtain ⟨hi3, h⟩ := h
    refine va_zald (D := D) hx hb hK hP 2 1 yc_2 rfl hi3 nD_M_endPut_15 ?_
    refine lv_if_ne (tgt := 21) hx hb nD_M_endPut_16 (by decide) (fun hc => ?_) (fun hc => ?_)
    · have h := h.2 hc
      refine lv_aload_n hx hb nD_M_endPut_21 rfl (lv_at hl 1 rfl) ?_
      refine lv_iload_n hx hb nD_M_endPut_22 rfl (lv_at hl 0 rfl) ?_
      refine lv_iconst (v := (1 : Int32)) hx hb nD_M_endPut_23 (by decide) ?_
      refine lv_iload_n hx hb nD_M_endPut_24 rfl (lv_at hl 3 rfl) ?_
      refine lv_if_eq (tgt := 32) hx hb nD_M_endPut_25 (by decide) (fun hc => ?_) (fun hc => ?_)
      · have h := h.1 hc
        refine lv_iconst (v := (0 : Int32)) hx hb nD_M_endPut_32 (by decide) ?_
        refine zC_v (va_runV (As := [.int r2, .int (1 : Int32), .int (0 : Int32)]) (rest := []) ⟨hx, hb, hml, hown, hw⟩ (c_M_close l D tc a r2 (1 : Int32) (0 : Int32) σ1 _ h _) (mcV 3 hw wm_522 wm_519 wm_521 wm_22 wm_33 rfl rfl nh_M_close ⟨Nat.le_of_ble_eq_true rfl, Nat.le_of_ble_eq_true rfl⟩) (zp_V (ci := 5) hP hD hK hn rfl yc_0) rfl rfl hl.1 rfl (lv_room (Nat.le_of_ble_eq_true rfl)) nD_M_endPut_33 ⟨Nat.zero_le _, Nat.zero_le _⟩) hD hS hA (fun σ4 H locs h hP hD hS => ?_)
        refine lv_iconst (v := (1 : Int32)) hx hb nD_M_endPut_36 (by decide) ?_
        exact mw_z hx hb hr hlocks rfl ⟨σ4, rfl, h⟩ hP hK hD hS nD_M_endPut_37
      · have h := h.2 hc
        refine lv_iconst (v := (1 : Int32)) hx hb nD_M_endPut_28 (by decide) ?_
        refine lv_goto (tgt := 33) hx hb nD_M_endPut_29 (by decide) ?_
        refine zC_v (va_runV (As := [.int r2, .int (1 : Int32), .int (1 : Int32)]) (rest := []) ⟨hx, hb, hml, hown, hw⟩ (c_M_close l D tc a r2 (1 : Int32) (1 : Int32) σ1 _ h _) (mcV 3 hw wm_522 wm_519 wm_521 wm_22 wm_33 rfl rfl nh_M_close ⟨Nat.le_of_ble_eq_true rfl, Nat.le_of_ble_eq_true rfl⟩) (zp_V (ci := 5) hP hD hK hn rfl yc_0) rfl rfl hl.1 rfl (lv_room (Nat.le_of_ble_eq_true rfl)) nD_M_endPut_33 ⟨Nat.zero_le _, Nat.zero_le _⟩) hD hS hA (fun σ5 H locs h hP hD hS => ?_)
        refine lv_iconst (v := (1 : Int32)) hx hb nD_M_endPut_36 (by decide) ?_
        exact mw_z hx hb hr hlocks rfl ⟨σ5, rfl, h⟩ hP hK hD hS nD_M_endPut_37
    · have h := h.1 hc
      refine lv_iconst (v := (0 : Int32)) hx hb nD_M_endPut_19 (by decide) ?_
      exact mw_z hx hb hr hlocks rfl ⟨σ1, rfl, h⟩ hP hK hD hS nD_M_endPut_20
set_option maxHeartbeats 4000000 in
set_option maxRecDepth 100000 in
theorem c_M_endTake (l : Launch) (D : va_G) (tc : Nat → ClassId) (a : Nat → Nat) (x1 : Int32) (x2 : Int32) (σ : zS) (post : Int32 → zS → Prop) (h : j_M_endTake x1 x2 σ post) : mWi l nM_M_endTake nC_M_endTake 4 (some .boolean) ({ frames := 6, cells := 0, slots := 0, locals := 134 } : Room) D (ztM tc) [.ref (a 0), .int x1, .int x2] (zM a tc σ) (zQi (zM a tc) post) := by
  intro sz
  refine mt_W (by decide) (Nat.le_of_ble_eq_true rfl) ?_
  intro p e s m below meth c ls hx hb hml hr hown hlocks hin hw hn hP hK hD hS hA hl hsz
  subst hsz
  have hl : lv_has ls 4 [(0, .ref (a 0)), (1, .int x1), (2, .int x2)] := hl
  unfold j_M_endTake at h
  refine lv_aload_n hx hb nD_M_endTake_0 rfl (lv_at hl 0 rfl) ?_
  refine lv_iload_n hx hb nD_M_endTake_1 rfl (lv_at hl 1 rfl) ?_
  refine zC_i (va_runV (As := [.int x1]) (rest := []) ⟨hx, hb, hml, hown, hw⟩ (c_M_openOf l D tc a x1 σ _ h _) (mcV 1 hw wm_506 wm_503 wm_505 wm_20 wm_33 rfl rfl nh_M_openOf ⟨Nat.le_of_ble_eq_true rfl, Nat.le_of_ble_eq_true rfl⟩) (zp_V (ci := 5) hP hD hK hn rfl yc_0) rfl rfl hl.1 rfl (lv_room (Nat.le_of_ble_eq_true rfl)) nD_M_endTake_2 ⟨Nat.zero_le _, Nat.zero_le _⟩) hD hS hA (fun r2 σ1 H locs h hP hD hS => ?_)
  refine lv_istore_n hx hb nD_M_endTake_5 rfl hl (by decide) rfl (fun ls hl => ?_)
  have hl : lv_has ls 4 [(3, .int r2), (0, .ref (a 0)), (1, .int x1), (2, .int x2)] := hl
  refine lv_iload_n hx hb nD_M_endTake_6 rfl (lv_at hl 0 rfl) ?_
  refine lv_if_lt (tgt := 30) hx hb nD_M_endTake_7 (by decide) (fun hc => ?_) (fun hc => ?_)
  · have h := h.1 hc
    refine lv_iconst (v := (0 : Int32)) hx hb nD_M_endTake_30 (by decide) ?_
    exact mw_z hx hb hr hlocks rfl ⟨σ1, rfl, h⟩ hP hK hD hS nD_M_endTake_31
  · have h := h.2 hc
    refine lv_aload_n hx hb nD_M_endTake_10 rfl (lv_at hl 1 rfl) ?_
    refine va_get (D := D) (ci := 5) (v := .ref (a 2)) (C := nR_M) (T := nT_M) (N := 23) hx hb hw wu_M hown hK hP 0 yc_0 rfl 6 (by decide) (hw _ wm_429) (fun _ h9 => h9) rfl nD_M_endTake_11 ?_
    refine lv_iload_n hx hb nD_M_endTake_14 rfl (lv_at hl 0 rfl) ?_
    obtain ⟨hi3, h⟩ := h
    refine va_zald (D := D) hx hb hK hP 2 1 yc_2 rfl hi3 nD_M_endTake_15 ?_
    refine lv_if_ne (tgt := 30) hx hb nD_M_endTake_16 (by decide) (fun hc => ?_) (fun hc => ?_)
    · have h := h.2 hc
      refine lv_iconst (v := (0 : Int32)) hx hb nD_M_endTake_30 (by decide) ?_
      exact mw_z hx hb hr hlocks rfl ⟨σ1, rfl, h⟩ hP hK hD hS nD_M_endTake_31
    · have h := h.1 hc
      refine lv_iload_n hx hb nD_M_endTake_19 rfl (lv_at hl 3 rfl) ?_
      refine lv_iconst (v := (-1 : Int32)) hx hb nD_M_endTake_20 (by decide) ?_
      refine lv_icmp_lt (tgt := 30) hx hb nD_M_endTake_21 (by decide) (fun hc => ?_) (fun hc => ?_)
      · have h := h.1 hc
        refine lv_iconst (v := (0 : Int32)) hx hb nD_M_endTake_30 (by decide) ?_
        exact mw_z hx hb hr hlocks rfl ⟨σ1, rfl, h⟩ hP hK hD hS nD_M_endTake_31
      · have h := h.2 hc
        refine lv_iload_n hx hb nD_M_endTake_24 rfl (lv_at hl 3 rfl) ?_
        refine lv_bipush (v := (15 : Int32)) hx hb nD_M_endTake_25 (by decide) ?_
        refine lv_icmp_le (tgt := 32) hx hb nD_M_endTake_27 (by decide) (fun hc => ?_) (fun hc => ?_)
        · have h := h.1 hc
          refine lv_aload_n hx hb nD_M_endTake_32 rfl (lv_at hl 1 rfl) ?_
          refine lv_iload_n hx hb nD_M_endTake_33 rfl (lv_at hl 0 rfl) ?_
          refine lv_iconst (v := (1 : Int32)) hx hb nD_M_endTake_34 (by decide) ?_
          refine lv_iload_n hx hb nD_M_endTake_35 rfl (lv_at hl 3 rfl) ?_
          refine zC_v (va_runV (As := [.int r2, .int (1 : Int32), .int x2]) (rest := []) ⟨hx, hb, hml, hown, hw⟩ (c_M_close l D tc a r2 (1 : Int32) x2 σ1 _ h _) (mcV 3 hw wm_522 wm_519 wm_521 wm_22 wm_33 rfl rfl nh_M_close ⟨Nat.le_of_ble_eq_true rfl, Nat.le_of_ble_eq_true rfl⟩) (zp_V (ci := 5) hP hD hK hn rfl yc_0) rfl rfl hl.1 rfl (lv_room (Nat.le_of_ble_eq_true rfl)) nD_M_endTake_36 ⟨Nat.zero_le _, Nat.zero_le _⟩) hD hS hA (fun σ4 H locs h hP hD hS => ?_)
          refine lv_iconst (v := (1 : Int32)) hx hb nD_M_endTake_39 (by decide) ?_
          exact mw_z hx hb hr hlocks rfl ⟨σ4, rfl, h⟩ hP hK hD hS nD_M_endTake_40
        · have h := h.2 hc
          refine lv_iconst (v := (0 : Int32)) hx hb nD_M_endTake_30 (by decide) ?_
          exact mw_z hx hb hr hlocks rfl ⟨σ1, rfl, h⟩ hP hK hD hS nD_M_endTake_31
set_option maxHeartbeats 4000000 in
set_option maxRecDepth 100000 in
theorem c_M_giveUp (l : Launch) (D : va_G) (tc : Nat → ClassId) (a : Nat → Nat) (x1 : Int32) (σ : zS) (post : Int32 → zS → Prop) (h : j_M_giveUp x1 σ post) : mWi l nM_M_giveUp nC_M_giveUp 3 (some .boolean) ({ frames := 6, cells := 0, slots := 0, locals := 134 } : Room) D (ztM tc) [.ref (a 0), .int x1] (zM a tc σ) (zQi (zM a tc) post) := by
  intro sz
  refine mt_W (by decide) (Nat.le_of_ble_eq_true rfl) ?_
  intro p e s m below meth c ls hx hb hml hr hown hlocks hin hw hn hP hK hD hS hA hl hsz
  subst hsz
  have hl : lv_has ls 3 [(0, .ref (a 0)), (1, .int x1)] := hl
  unfold j_M_giveUp at h
  refine lv_aload_n hx hb nD_M_giveUp_0 rfl (lv_at hl 0 rfl) ?_
  refine lv_iload_n hx hb nD_M_giveUp_1 rfl (lv_at hl 1 rfl) ?_
  refine zC_i (va_runV (As := [.int x1]) (rest := []) ⟨hx, hb, hml, hown, hw⟩ (c_M_openOf l D tc a x1 σ _ h _) (mcV 1 hw wm_506 wm_503 wm_505 wm_20 wm_33 rfl rfl nh_M_openOf ⟨Nat.le_of_ble_eq_true rfl, Nat.le_of_ble_eq_true rfl⟩) (zp_V (ci := 5) hP hD hK hn rfl yc_0) rfl rfl hl.1 rfl (lv_room (Nat.le_of_ble_eq_true rfl)) nD_M_giveUp_2 ⟨Nat.zero_le _, Nat.zero_le _⟩) hD hS hA (fun r2 σ1 H locs h hP hD hS => ?_)
  refine lv_istore_n hx hb nD_M_giveUp_5 rfl hl (by decide) rfl (fun ls hl => ?_)
  have hl : lv_has ls 3 [(2, .int r2), (0, .ref (a 0)), (1, .int x1)] := hl
  refine lv_iload_n hx hb nD_M_giveUp_6 rfl (lv_at hl 0 rfl) ?_
  refine lv_if_ge (tgt := 12) hx hb nD_M_giveUp_7 (by decide) (fun hc => ?_) (fun hc => ?_)
  · have h := h.1 hc
    refine lv_aload_n hx hb nD_M_giveUp_12 rfl (lv_at hl 1 rfl) ?_
    refine lv_iload_n hx hb nD_M_giveUp_13 rfl (lv_at hl 0 rfl) ?_
    refine lv_iconst (v := (2 : Int32)) hx hb nD_M_giveUp_14 (by decide) ?_
    refine lv_iconst (v := (0 : Int32)) hx hb nD_M_giveUp_15 (by decide) ?_
    refine zC_v (va_runV (As := [.int r2, .int (2 : Int32), .int (0 : Int32)]) (rest := []) ⟨hx, hb, hml, hown, hw⟩ (c_M_close l D tc a r2 (2 : Int32) (0 : Int32) σ1 _ h _) (mcV 3 hw wm_522 wm_519 wm_521 wm_22 wm_33 rfl rfl nh_M_close ⟨Nat.le_of_ble_eq_true rfl, Nat.le_of_ble_eq_true rfl⟩) (zp_V (ci := 5) hP hD hK hn rfl yc_0) rfl rfl hl.1 rfl (lv_room (Nat.le_of_ble_eq_true rfl)) nD_M_giveUp_16 ⟨Nat.zero_le _, Nat.zero_le _⟩) hD hS hA (fun σ3 H locs h hP hD hS => ?_)
    refine lv_iconst (v := (1 : Int32)) hx hb nD_M_giveUp_19 (by decide) ?_
    exact mw_z hx hb hr hlocks rfl ⟨σ3, rfl, h⟩ hP hK hD hS nD_M_giveUp_20
  · have h := h.2 hc
    refine lv_iconst (v := (0 : Int32)) hx hb nD_M_giveUp_10 (by decide) ?_
    exact mw_z hx hb hr hlocks rfl ⟨σ1, rfl, h⟩ hP hK hD hS nD_M_giveUp_11
set_option maxHeartbeats 4000000 in
set_option maxRecDepth 100000 in
theorem c_M_events (l : Launch) (D : va_G) (tc : Nat → ClassId) (a : Nat → Nat) (σ : zS) (post : Int32 → zS → Prop) (h : j_M_events  σ post) : mWi l nM_M_events nC_M_events 1 (some .int) ({ frames := 0, cells := 0, slots := 0, locals := 0 } : Room) D (ztM tc) [.ref (a 0)] (zM a tc σ) (zQi (zM a tc) post) := by
  intro sz
  refine mt_W (by decide) (Nat.le_of_ble_eq_true rfl) ?_
  intro p e s m below meth c ls hx hb hml hr hown hlocks hin hw hn hP hK hD hS hA hl hsz
  subst hsz
  have hl : lv_has ls 1 [(0, .ref (a 0))] := hl
  unfold j_M_events at h
  refine lv_aload_n hx hb nD_M_events_0 rfl (lv_at hl 0 rfl) ?_
  refine va_get (D := D) (ci := 5) (v := .int (σ.1 2)) (C := nR_M) (T := nT_M) (N := 23) hx hb hw wu_M hown hK hP 0 yc_0 rfl 2 (by decide) (hw _ wm_425) (fun _ h9 => h9) rfl nD_M_events_1 ?_
  exact mw_i hx hb hr hlocks ⟨σ, rfl, h⟩ hP hK hD hS nD_M_events_4
set_option maxHeartbeats 4000000 in
set_option maxRecDepth 100000 in
theorem c_M_begun (l : Launch) (D : va_G) (tc : Nat → ClassId) (a : Nat → Nat) (σ : zS) (post : Int32 → zS → Prop) (h : j_M_begun  σ post) : mWi l nM_M_begun nC_M_begun 1 (some .int) ({ frames := 0, cells := 0, slots := 0, locals := 0 } : Room) D (ztM tc) [.ref (a 0)] (zM a tc σ) (zQi (zM a tc) post) := by
  intro sz
  refine mt_W (by decide) (Nat.le_of_ble_eq_true rfl) ?_
  intro p e s m below meth c ls hx hb hml hr hown hlocks hin hw hn hP hK hD hS hA hl hsz
  subst hsz
  have hl : lv_has ls 1 [(0, .ref (a 0))] := hl
  unfold j_M_begun at h
  refine lv_aload_n hx hb nD_M_begun_0 rfl (lv_at hl 0 rfl) ?_
  refine va_get (D := D) (ci := 5) (v := .int (σ.1 4)) (C := nR_M) (T := nT_M) (N := 23) hx hb hw wu_M hown hK hP 0 yc_0 rfl 4 (by decide) (hw _ wm_427) (fun _ h9 => h9) rfl nD_M_begun_1 ?_
  exact mw_i hx hb hr hlocks ⟨σ, rfl, h⟩ hP hK hD hS nD_M_begun_4
set_option maxHeartbeats 4000000 in
set_option maxRecDepth 100000 in
theorem c_M_fits (l : Launch) (D : va_G) (tc : Nat → ClassId) (a : Nat → Nat) (σ : zS) (post : Int32 → zS → Prop) (h : j_M_fits  σ post) : mWi l nM_M_fits nC_M_fits 1 (some .boolean) ({ frames := 0, cells := 0, slots := 0, locals := 0 } : Room) D (ztM tc) [.ref (a 0)] (zM a tc σ) (zQi (zM a tc) post) := by
  intro sz
  refine mt_W (by decide) (Nat.le_of_ble_eq_true rfl) ?_
  intro p e s m below meth c ls hx hb hml hr hown hlocks hin hw hn hP hK hD hS hA hl hsz
  subst hsz
  have hl : lv_has ls 1 [(0, .ref (a 0))] := hl
  unfold j_M_fits at h
  refine lv_aload_n hx hb nD_M_fits_0 rfl (lv_at hl 0 rfl) ?_
  refine va_get (D := D) (ci := 5) (v := .long (σ.2.2 2 0)) (C := nR_M) (T := nT_M) (N := 23) hx hb hw wu_M hown hK hP 0 yc_0 rfl 18 (by decide) (hw _ wm_441) (fun _ h9 => h9) rfl nD_M_fits_1 ?_
  refine lv_lconst (v := (0 : Int64)) hx hb nD_M_fits_4 (by decide) ?_
  refine W.lcmp hx hb nD_M_fits_5 ?_
  refine lv_if_le (tgt := 13) hx hb nD_M_fits_6 (by decide) (fun hc => ?_) (fun hc => ?_)
  · have h := h.1 hc
    refine lv_iconst (v := (0 : Int32)) hx hb nD_M_fits_13 (by decide) ?_
    exact mw_z hx hb hr hlocks rfl ⟨σ, rfl, h⟩ hP hK hD hS nD_M_fits_14
  · have h := h.2 hc
    refine lv_iconst (v := (1 : Int32)) hx hb nD_M_fits_9 (by decide) ?_
    refine lv_goto (tgt := 14) hx hb nD_M_fits_10 (by decide) ?_
    exact mw_z hx hb hr hlocks rfl ⟨σ, rfl, h⟩ hP hK hD hS nD_M_fits_14
set_option maxHeartbeats 4000000 in
set_option maxRecDepth 100000 in
theorem c_M_brokenAt (l : Launch) (D : va_G) (tc : Nat → ClassId) (a : Nat → Nat) (σ : zS) (post : Int32 → zS → Prop) (h : j_M_brokenAt  σ post) : mWi l nM_M_brokenAt nC_M_brokenAt 1 (some .int) ({ frames := 0, cells := 0, slots := 0, locals := 0 } : Room) D (ztM tc) [.ref (a 0)] (zM a tc σ) (zQi (zM a tc) post) := by
  intro sz
  refine mt_W (by decide) (Nat.le_of_ble_eq_true rfl) ?_
  intro p e s m below meth c ls hx hb hml hr hown hlocks hin hw hn hP hK hD hS hA hl hsz
  subst hsz
  have hl : lv_has ls 1 [(0, .ref (a 0))] := hl
  unfold j_M_brokenAt at h
  refine lv_aload_n hx hb nD_M_brokenAt_0 rfl (lv_at hl 0 rfl) ?_
  refine va_get (D := D) (ci := 5) (v := .int (σ.1 3)) (C := nR_M) (T := nT_M) (N := 23) hx hb hw wu_M hown hK hP 0 yc_0 rfl 3 (by decide) (hw _ wm_426) (fun _ h9 => h9) rfl nD_M_brokenAt_1 ?_
  exact mw_i hx hb hr hlocks ⟨σ, rfl, h⟩ hP hK hD hS nD_M_brokenAt_4
set_option maxHeartbeats 4000000 in
set_option maxRecDepth 100000 in
theorem c_M_explanations (l : Launch) (D : va_G) (tc : Nat → ClassId) (a : Nat → Nat) (σ : zS) (post : Int64 → zS → Prop) (h : j_M_explanations  σ post) : mWl l nM_M_explanations nC_M_explanations 1 ({ frames := 0, cells := 0, slots := 0, locals := 0 } : Room) D (ztM tc) [.ref (a 0)] (zM a tc σ) (zQl (zM a tc) post) := by
  intro sz
  refine mt_W (by decide) (Nat.le_of_ble_eq_true rfl) ?_
  intro p e s m below meth c ls hx hb hml hr hown hlocks hin hw hn hP hK hD hS hA hl hsz
  subst hsz
  have hl : lv_has ls 1 [(0, .ref (a 0))] := hl
  unfold j_M_explanations at h
  refine lv_aload_n hx hb nD_M_explanations_0 rfl (lv_at hl 0 rfl) ?_
  refine va_get (D := D) (ci := 5) (v := .long (σ.2.2 2 0)) (C := nR_M) (T := nT_M) (N := 23) hx hb hw wu_M hown hK hP 0 yc_0 rfl 18 (by decide) (hw _ wm_441) (fun _ h9 => h9) rfl nD_M_explanations_1 ?_
  exact mw_l hx hb hr hlocks ⟨σ, rfl, h⟩ hP hK hD hS nD_M_explanations_4
set_option maxHeartbeats 4000000 in
set_option maxRecDepth 100000 in
theorem c_M_outcomes (l : Launch) (D : va_G) (tc : Nat → ClassId) (a : Nat → Nat) (σ : zS) (post : Int32 → zS → Prop) (h : j_M_outcomes  σ post) : mWi l nM_M_outcomes nC_M_outcomes 1 (some .int) ({ frames := 0, cells := 0, slots := 0, locals := 0 } : Room) D (ztM tc) [.ref (a 0)] (zM a tc σ) (zQi (zM a tc) post) := by
  intro sz
  refine mt_W (by decide) (Nat.le_of_ble_eq_true rfl) ?_
  intro p e s m below meth c ls hx hb hml hr hown hlocks hin hw hn hP hK hD hS hA hl hsz
  subst hsz
  have hl : lv_has ls 1 [(0, .ref (a 0))] := hl
  unfold j_M_outcomes at h
  refine lv_aload_n hx hb nD_M_outcomes_0 rfl (lv_at hl 0 rfl) ?_
  refine va_get (D := D) (ci := 5) (v := .int (σ.1 7)) (C := nR_M) (T := nT_M) (N := 23) hx hb hw wu_M hown hK hP 0 yc_0 rfl 19 (by decide) (hw _ wm_442) (fun _ h9 => h9) rfl nD_M_outcomes_1 ?_
  exact mw_i hx hb hr hlocks ⟨σ, rfl, h⟩ hP hK hD hS nD_M_outcomes_4
set_option maxHeartbeats 4000000 in
set_option maxRecDepth 100000 in
theorem wl_M_fewest_4 {l : Launch} {p : Program} {e : Env} {s : State} {m : MethodId} {args : Array Value} {below : List Frame} {meth : Method} {c : Code} {D : va_G} {tc : Nat → ClassId} {a : Nat → Nat} {w0 : va_W} (post : Int32 → zS → Prop) (K : Int32 → Int32 → zS → Prop) (hx : p.tables.exec = Jvm.exec) (hb : c.code = nC_M_fewest) (hml : c.maxLocals = 4) (hr : meth.sig.returnType = (some .int)) (hown : s.vm.findClass nM_M_fewest.cls = some m.cls) (hlocks : meth.locks = false) (hw : ∀ w ∈ wA, w.before args s = true) (hn : mN s) (hK : va_K D nCl (ztM tc) s) (hA : ∀ q, s.heap.size ≤ q → va_A w0 s.heap.size q)
    (hk : ∀ (y1 : Int32) (y2 : Int32) (σ : zS) (H : Heap) (locs : List Loc) (ls : Array Slot), K y1 y2 σ → va_P D nCl (zM a tc σ) H → va_D (va_A w0 s.heap.size) (zM a tc σ) → va_S (va_A w0 s.heap.size) s.heap H locs → lv_has ls 4 [(0, .ref (a 0)), (1, .int y1), (2, .int y2)] → W p l e ({ frames := 1, cells := 0, slots := 0, locals := 21 } : Room) s m args below meth c H locs 0 0 (MQ below (va_Qi (zQi (zM a tc) post) (mQW D (ztM tc) w0 s.heap.size) (va_A w0 s.heap.size)) args s 0 0 (va_A w0 s.heap.size)) (F0 m 39 ls [])) : ∀ q : Int32 × Int32 × zS, zLP (b_M_fewest_4 post K) q → ∀ (H : Heap) (locs : List Loc) (ls : Array Slot), va_P D nCl (zM a tc q.2.2) H → va_D (va_A w0 s.heap.size) (zM a tc q.2.2) → va_S (va_A w0 s.heap.size) s.heap H locs → lv_has ls 4 [(0, .ref (a 0)), (1, .int q.1), (2, .int q.2.1)] → W p l e ({ frames := 1, cells := 0, slots := 0, locals := 21 } : Room) s m args below meth c H locs 0 0 (MQ below (va_Qi (zQi (zM a tc) post) (mQW D (ztM tc) w0 s.heap.size) (va_A w0 s.heap.size)) args s 0 0 (va_A w0 s.heap.size)) (F0 m 4 ls []) := by
  refine zLP_walk ?_
  rintro R ⟨y1, y2, σ⟩ hR h H locs ls hP hD hS hl
  dsimp only at hP hD hl
  dsimp only [b_M_fewest_4] at h
  refine lv_iload_n hx hb nD_M_fewest_4 rfl (lv_at hl 2 rfl) ?_
  refine lv_aload_n hx hb nD_M_fewest_5 rfl (lv_at hl 0 rfl) ?_
  refine va_get (D := D) (ci := 5) (v := .int (σ.1 7)) (C := nR_M) (T := nT_M) (N := 23) hx hb hw wu_M hown hK hP 0 yc_0 rfl 19 (by decide) (hw _ wm_442) (fun _ h9 => h9) rfl nD_M_fewest_6 ?_
  refine lv_icmp_ge (tgt := 39) hx hb nD_M_fewest_9 (by decide) (fun hc => ?_) (fun hc => ?_)
  · have h := h.1 hc
    exact hk y1 y2 σ _ _ ls h hP hD hS hl
  · have h := h.2 hc
    refine lv_aload_n hx hb nD_M_fewest_12 rfl (lv_at hl 0 rfl) ?_
    refine lv_iload_n hx hb nD_M_fewest_13 rfl (lv_at hl 2 rfl) ?_
    refine zC_i (va_runV (As := [.int y2]) (rest := []) ⟨hx, hb, hml, hown, hw⟩ (c_M_sizeOf l D tc a y2 σ _ h _) (mcV 1 hw wm_562 wm_559 wm_561 wm_23 wm_33 rfl rfl nh_M_sizeOf ⟨Nat.le_of_ble_eq_true rfl, Nat.le_of_ble_eq_true rfl⟩) (zp_V (ci := 5) hP hD hK hn rfl yc_0) rfl rfl hl.1 rfl (lv_room (Nat.le_of_ble_eq_true rfl)) nD_M_fewest_14 ⟨Nat.zero_le _, Nat.zero_le _⟩) hD hS hA (fun r2 σ1 H locs h hP hD hS => ?_)
    refine lv_istore_n hx hb nD_M_fewest_17 rfl hl (by decide) rfl (fun ls hl => ?_)
    have hl : lv_has ls 4 [(3, .int r2), (0, .ref (a 0)), (1, .int y1), (2, .int y2)] := hl
    refine lv_iload_n hx hb nD_M_fewest_18 rfl (lv_at hl 2 rfl) ?_
    refine lv_if_lt (tgt := 27) hx hb nD_M_fewest_19 (by decide) (fun hc => ?_) (fun hc => ?_)
    · have h := h.1 hc
      refine lv_iload_n hx hb nD_M_fewest_27 rfl (lv_at hl 0 rfl) ?_
      refine lv_goto (tgt := 32) hx hb nD_M_fewest_28 (by decide) ?_
      refine lv_istore_n hx hb nD_M_fewest_32 rfl hl (by decide) rfl (fun ls hl => ?_)
      have hl : lv_has ls 4 [(1, .int r2), (3, .int r2), (0, .ref (a 0)), (2, .int y2)] := hl
      refine lv_iinc (k := 3) (v := y2 + 1) hx hb nD_M_fewest_33 hl rfl rfl (by decide) rfl (fun ls hl => ?_)
      have hl : lv_has ls 4 [(2, .int (y2 + 1)), (1, .int r2), (3, .int r2), (0, .ref (a 0))] := hl
      refine lv_goto (tgt := 4) hx hb nD_M_fewest_36 (by decide) ?_
      have hl := lv_sub (l' := [(0, .ref (a 0)), (1, .int r2), (2, .int (y2 + 1))]) hl [3, 1, 0] rfl
      exact hR _ h _ _ ls hP hD hS hl
    · have h := h.2 hc
      refine lv_iload_n hx hb nD_M_fewest_22 rfl (lv_at hl 0 rfl) ?_
      refine lv_iload_n hx hb nD_M_fewest_23 rfl (lv_at hl 2 rfl) ?_
      refine lv_icmp_ge (tgt := 31) hx hb nD_M_fewest_24 (by decide) (fun hc => ?_) (fun hc => ?_)
      · have h := h.1 hc
        refine lv_iload_n hx hb nD_M_fewest_31 rfl (lv_at hl 2 rfl) ?_
        refine lv_istore_n hx hb nD_M_fewest_32 rfl hl (by decide) rfl (fun ls hl => ?_)
        have hl : lv_has ls 4 [(1, .int y1), (3, .int r2), (0, .ref (a 0)), (2, .int y2)] := hl
        refine lv_iinc (k := 3) (v := y2 + 1) hx hb nD_M_fewest_33 hl rfl rfl (by decide) rfl (fun ls hl => ?_)
        have hl : lv_has ls 4 [(2, .int (y2 + 1)), (1, .int y1), (3, .int r2), (0, .ref (a 0))] := hl
        refine lv_goto (tgt := 4) hx hb nD_M_fewest_36 (by decide) ?_
        have hl := lv_sub (l' := [(0, .ref (a 0)), (1, .int y1), (2, .int (y2 + 1))]) hl [3, 1, 0] rfl
        exact hR _ h _ _ ls hP hD hS hl
      · have h := h.2 hc
        refine lv_iload_n hx hb nD_M_fewest_27 rfl (lv_at hl 0 rfl) ?_
        refine lv_goto (tgt := 32) hx hb nD_M_fewest_28 (by decide) ?_
        refine lv_istore_n hx hb nD_M_fewest_32 rfl hl (by decide) rfl (fun ls hl => ?_)
        have hl : lv_has ls 4 [(1, .int r2), (3, .int r2), (0, .ref (a 0)), (2, .int y2)] := hl
        refine lv_iinc (k := 3) (v := y2 + 1) hx hb nD_M_fewest_33 hl rfl rfl (by decide) rfl (fun ls hl => ?_)
        have hl : lv_has ls 4 [(2, .int (y2 + 1)), (1, .int r2), (3, .int r2), (0, .ref (a 0))] := hl
        refine lv_goto (tgt := 4) hx hb nD_M_fewest_36 (by decide) ?_
        have hl := lv_sub (l' := [(0, .ref (a 0)), (1, .int r2), (2, .int (y2 + 1))]) hl [3, 1, 0] rfl
        exact hR _ h _ _ ls hP hD hS hl
set_option maxHeartbeats 4000000 in
set_option maxRecDepth 100000 in
theorem c_M_fewest (l : Launch) (D : va_G) (tc : Nat → ClassId) (a : Nat → Nat) (σ : zS) (post : Int32 → zS → Prop) (h : j_M_fewest  σ post) : mWi l nM_M_fewest nC_M_fewest 4 (some .int) ({ frames := 1, cells := 0, slots := 0, locals := 21 } : Room) D (ztM tc) [.ref (a 0)] (zM a tc σ) (zQi (zM a tc) post) := by
  intro sz
  refine mt_W (by decide) (Nat.le_of_ble_eq_true rfl) ?_
  intro p e s m below meth c ls hx hb hml hr hown hlocks hin hw hn hP hK hD hS hA hl hsz
  subst hsz
  have hl : lv_has ls 4 [(0, .ref (a 0))] := hl
  unfold j_M_fewest at h
  refine lv_iconst (v := (-1 : Int32)) hx hb nD_M_fewest_0 (by decide) ?_
  refine lv_istore_n hx hb nD_M_fewest_1 rfl hl (by decide) rfl (fun ls hl => ?_)
  have hl : lv_has ls 4 [(1, .int (-1 : Int32)), (0, .ref (a 0))] := hl
  refine lv_iconst (v := (0 : Int32)) hx hb nD_M_fewest_2 (by decide) ?_
  refine lv_istore_n hx hb nD_M_fewest_3 rfl hl (by decide) rfl (fun ls hl => ?_)
  have hl : lv_has ls 4 [(2, .int (0 : Int32)), (1, .int (-1 : Int32)), (0, .ref (a 0))] := hl
  have hl := lv_sub (l' := [(0, .ref (a 0)), (1, .int (-1 : Int32)), (2, .int (0 : Int32))]) hl [2, 1, 0] rfl
  refine wl_M_fewest_4 (l := l) post _ hx hb hml hr hown hlocks hw hn hK hA (fun v3 v4 σ5 H locs ls h hP hD hS hl => ?_) ((-1 : Int32), (0 : Int32), σ) h _ _ ls hP hD hS hl
  refine lv_iload_n hx hb nD_M_fewest_39 rfl (lv_at hl 1 rfl) ?_
  exact mw_i hx hb hr hlocks ⟨σ5, rfl, h⟩ hP hK hD hS nD_M_fewest_40
set_option maxHeartbeats 4000000 in
set_option maxRecDepth 100000 in
theorem wl_M_most_4 {l : Launch} {p : Program} {e : Env} {s : State} {m : MethodId} {args : Array Value} {below : List Frame} {meth : Method} {c : Code} {D : va_G} {tc : Nat → ClassId} {a : Nat → Nat} {w0 : va_W} (post : Int32 → zS → Prop) (K : Int32 → Int32 → zS → Prop) (hx : p.tables.exec = Jvm.exec) (hb : c.code = nC_M_most) (hml : c.maxLocals = 4) (hr : meth.sig.returnType = (some .int)) (hown : s.vm.findClass nM_M_most.cls = some m.cls) (hlocks : meth.locks = false) (hw : ∀ w ∈ wA, w.before args s = true) (hn : mN s) (hK : va_K D nCl (ztM tc) s) (hA : ∀ q, s.heap.size ≤ q → va_A w0 s.heap.size q)
    (hk : ∀ (y1 : Int32) (y2 : Int32) (σ : zS) (H : Heap) (locs : List Loc) (ls : Array Slot), K y1 y2 σ → va_P D nCl (zM a tc σ) H → va_D (va_A w0 s.heap.size) (zM a tc σ) → va_S (va_A w0 s.heap.size) s.heap H locs → lv_has ls 4 [(0, .ref (a 0)), (1, .int y1), (2, .int y2)] → W p l e ({ frames := 1, cells := 0, slots := 0, locals := 21 } : Room) s m args below meth c H locs 0 0 (MQ below (va_Qi (zQi (zM a tc) post) (mQW D (ztM tc) w0 s.heap.size) (va_A w0 s.heap.size)) args s 0 0 (va_A w0 s.heap.size)) (F0 m 35 ls [])) : ∀ q : Int32 × Int32 × zS, zLP (b_M_most_4 post K) q → ∀ (H : Heap) (locs : List Loc) (ls : Array Slot), va_P D nCl (zM a tc q.2.2) H → va_D (va_A w0 s.heap.size) (zM a tc q.2.2) → va_S (va_A w0 s.heap.size) s.heap H locs → lv_has ls 4 [(0, .ref (a 0)), (1, .int q.1), (2, .int q.2.1)] → W p l e ({ frames := 1, cells := 0, slots := 0, locals := 21 } : Room) s m args below meth c H locs 0 0 (MQ below (va_Qi (zQi (zM a tc) post) (mQW D (ztM tc) w0 s.heap.size) (va_A w0 s.heap.size)) args s 0 0 (va_A w0 s.heap.size)) (F0 m 4 ls []) := by
  refine zLP_walk ?_
  rintro R ⟨y1, y2, σ⟩ hR h H locs ls hP hD hS hl
  dsimp only at hP hD hl
  dsimp only [b_M_most_4] at h
  refine lv_iload_n hx hb nD_M_most_4 rfl (lv_at hl 2 rfl) ?_
  refine lv_aload_n hx hb nD_M_most_5 rfl (lv_at hl 0 rfl) ?_
  refine va_get (D := D) (ci := 5) (v := .int (σ.1 7)) (C := nR_M) (T := nT_M) (N := 23) hx hb hw wu_M hown hK hP 0 yc_0 rfl 19 (by decide) (hw _ wm_442) (fun _ h9 => h9) rfl nD_M_most_6 ?_
  refine lv_icmp_ge (tgt := 35) hx hb nD_M_most_9 (by decide) (fun hc => ?_) (fun hc => ?_)
  · have h := h.1 hc
    exact hk y1 y2 σ _ _ ls h hP hD hS hl
  · have h := h.2 hc
    refine lv_aload_n hx hb nD_M_most_12 rfl (lv_at hl 0 rfl) ?_
    refine lv_iload_n hx hb nD_M_most_13 rfl (lv_at hl 2 rfl) ?_
    refine zC_i (va_runV (As := [.int y2]) (rest := []) ⟨hx, hb, hml, hown, hw⟩ (c_M_sizeOf l D tc a y2 σ _ h _) (mcV 1 hw wm_562 wm_559 wm_561 wm_23 wm_33 rfl rfl nh_M_sizeOf ⟨Nat.le_of_ble_eq_true rfl, Nat.le_of_ble_eq_true rfl⟩) (zp_V (ci := 5) hP hD hK hn rfl yc_0) rfl rfl hl.1 rfl (lv_room (Nat.le_of_ble_eq_true rfl)) nD_M_most_14 ⟨Nat.zero_le _, Nat.zero_le _⟩) hD hS hA (fun r2 σ1 H locs h hP hD hS => ?_)
    refine lv_istore_n hx hb nD_M_most_17 rfl hl (by decide) rfl (fun ls hl => ?_)
    have hl : lv_has ls 4 [(3, .int r2), (0, .ref (a 0)), (1, .int y1), (2, .int y2)] := hl
    refine lv_iload_n hx hb nD_M_most_18 rfl (lv_at hl 0 rfl) ?_
    refine lv_iload_n hx hb nD_M_most_19 rfl (lv_at hl 2 rfl) ?_
    refine lv_icmp_le (tgt := 27) hx hb nD_M_most_20 (by decide) (fun hc => ?_) (fun hc => ?_)
    · have h := h.1 hc
      refine lv_iload_n hx hb nD_M_most_27 rfl (lv_at hl 2 rfl) ?_
      refine lv_istore_n hx hb nD_M_most_28 rfl hl (by decide) rfl (fun ls hl => ?_)
      have hl : lv_has ls 4 [(1, .int y1), (3, .int r2), (0, .ref (a 0)), (2, .int y2)] := hl
      refine lv_iinc (k := 3) (v := y2 + 1) hx hb nD_M_most_29 hl rfl rfl (by decide) rfl (fun ls hl => ?_)
      have hl : lv_has ls 4 [(2, .int (y2 + 1)), (1, .int y1), (3, .int r2), (0, .ref (a 0))] := hl
      refine lv_goto (tgt := 4) hx hb nD_M_most_32 (by decide) ?_
      have hl := lv_sub (l' := [(0, .ref (a 0)), (1, .int y1), (2, .int (y2 + 1))]) hl [3, 1, 0] rfl
      exact hR _ h _ _ ls hP hD hS hl
    · have h := h.2 hc
      refine lv_iload_n hx hb nD_M_most_23 rfl (lv_at hl 0 rfl) ?_
      refine lv_goto (tgt := 28) hx hb nD_M_most_24 (by decide) ?_
      refine lv_istore_n hx hb nD_M_most_28 rfl hl (by decide) rfl (fun ls hl => ?_)
      have hl : lv_has ls 4 [(1, .int r2), (3, .int r2), (0, .ref (a 0)), (2, .int y2)] := hl
      refine lv_iinc (k := 3) (v := y2 + 1) hx hb nD_M_most_29 hl rfl rfl (by decide) rfl (fun ls hl => ?_)
      have hl : lv_has ls 4 [(2, .int (y2 + 1)), (1, .int r2), (3, .int r2), (0, .ref (a 0))] := hl
      refine lv_goto (tgt := 4) hx hb nD_M_most_32 (by decide) ?_
      have hl := lv_sub (l' := [(0, .ref (a 0)), (1, .int r2), (2, .int (y2 + 1))]) hl [3, 1, 0] rfl
      exact hR _ h _ _ ls hP hD hS hl
set_option maxHeartbeats 4000000 in
set_option maxRecDepth 100000 in
theorem c_M_most (l : Launch) (D : va_G) (tc : Nat → ClassId) (a : Nat → Nat) (σ : zS) (post : Int32 → zS → Prop) (h : j_M_most  σ post) : mWi l nM_M_most nC_M_most 4 (some .int) ({ frames := 1, cells := 0, slots := 0, locals := 21 } : Room) D (ztM tc) [.ref (a 0)] (zM a tc σ) (zQi (zM a tc) post) := by
  intro sz
  refine mt_W (by decide) (Nat.le_of_ble_eq_true rfl) ?_
  intro p e s m below meth c ls hx hb hml hr hown hlocks hin hw hn hP hK hD hS hA hl hsz
  subst hsz
  have hl : lv_has ls 4 [(0, .ref (a 0))] := hl
  unfold j_M_most at h
  refine lv_iconst (v := (-1 : Int32)) hx hb nD_M_most_0 (by decide) ?_
  refine lv_istore_n hx hb nD_M_most_1 rfl hl (by decide) rfl (fun ls hl => ?_)
  have hl : lv_has ls 4 [(1, .int (-1 : Int32)), (0, .ref (a 0))] := hl
  refine lv_iconst (v := (0 : Int32)) hx hb nD_M_most_2 (by decide) ?_
  refine lv_istore_n hx hb nD_M_most_3 rfl hl (by decide) rfl (fun ls hl => ?_)
  have hl : lv_has ls 4 [(2, .int (0 : Int32)), (1, .int (-1 : Int32)), (0, .ref (a 0))] := hl
  have hl := lv_sub (l' := [(0, .ref (a 0)), (1, .int (-1 : Int32)), (2, .int (0 : Int32))]) hl [2, 1, 0] rfl
  refine wl_M_most_4 (l := l) post _ hx hb hml hr hown hlocks hw hn hK hA (fun v3 v4 σ5 H locs ls h hP hD hS hl => ?_) ((-1 : Int32), (0 : Int32), σ) h _ _ ls hP hD hS hl
  refine lv_iload_n hx hb nD_M_most_35 rfl (lv_at hl 1 rfl) ?_
  exact mw_i hx hb hr hlocks ⟨σ5, rfl, h⟩ hP hK hD hS nD_M_most_36
set_option maxHeartbeats 4000000 in
set_option maxRecDepth 100000 in
theorem wl_M_mayHold_27 {l : Launch} {p : Program} {e : Env} {s : State} {m : MethodId} {args : Array Value} {below : List Frame} {meth : Method} {c : Code} {D : va_G} {tc : Nat → ClassId} {a : Nat → Nat} {w0 : va_W} (x1 : Int32) (x2 : Int32) (post : Int32 → zS → Prop) (K : Int32 → Int32 → zS → Prop) (hx : p.tables.exec = Jvm.exec) (hb : c.code = nC_M_mayHold) (hml : c.maxLocals = 5) (hr : meth.sig.returnType = (some .boolean)) (hown : s.vm.findClass nM_M_mayHold.cls = some m.cls) (hlocks : meth.locks = false) (hw : ∀ w ∈ wA, w.before args s = true) (hn : mN s) (hK : va_K D nCl (ztM tc) s) (hA : ∀ q, s.heap.size ≤ q → va_A w0 s.heap.size q)
    (hk : ∀ (y3 : Int32) (y4 : Int32) (σ : zS) (H : Heap) (locs : List Loc) (ls : Array Slot), K y3 y4 σ → va_P D nCl (zM a tc σ) H → va_D (va_A w0 s.heap.size) (zM a tc σ) → va_S (va_A w0 s.heap.size) s.heap H locs → lv_has ls 5 [(0, .ref (a 0)), (1, .int x1), (2, .int x2), (3, .int y3), (4, .int y4)] → W p l e ({ frames := 1, cells := 0, slots := 0, locals := 21 } : Room) s m args below meth c H locs 0 0 (MQ below (va_Qi (zQi (zM a tc) post) (mQW D (ztM tc) w0 s.heap.size) (va_A w0 s.heap.size)) args s 0 0 (va_A w0 s.heap.size)) (F0 m 85 ls [])) : ∀ q : Int32 × Int32 × zS, zLP (b_M_mayHold_27 x1 x2 post K) q → ∀ (H : Heap) (locs : List Loc) (ls : Array Slot), va_P D nCl (zM a tc q.2.2) H → va_D (va_A w0 s.heap.size) (zM a tc q.2.2) → va_S (va_A w0 s.heap.size) s.heap H locs → lv_has ls 5 [(0, .ref (a 0)), (1, .int x1), (2, .int x2), (3, .int q.1), (4, .int q.2.1)] → W p l e ({ frames := 1, cells := 0, slots := 0, locals := 21 } : Room) s m args below meth c H locs 0 0 (MQ below (va_Qi (zQi (zM a tc) post) (mQW D (ztM tc) w0 s.heap.size) (va_A w0 s.heap.size)) args s 0 0 (va_A w0 s.heap.size)) (F0 m 27 ls []) := by
  refine zLP_walk ?_
  rintro R ⟨y3, y4, σ⟩ hR h H locs ls hP hD hS hl
  dsimp only at hP hD hl
  dsimp only [b_M_mayHold_27] at h
  refine lv_iload hx hb nD_M_mayHold_27 (lv_at hl 4 rfl) ?_
  refine lv_aload_n hx hb nD_M_mayHold_29 rfl (lv_at hl 0 rfl) ?_
  refine va_get (D := D) (ci := 5) (v := .int (σ.1 7)) (C := nR_M) (T := nT_M) (N := 23) hx hb hw wu_M hown hK hP 0 yc_0 rfl 19 (by decide) (hw _ wm_442) (fun _ h9 => h9) rfl nD_M_mayHold_30 ?_
  refine lv_icmp_ge (tgt := 85) hx hb nD_M_mayHold_33 (by decide) (fun hc => ?_) (fun hc => ?_)
  · have h := h.1 hc
    exact hk y3 y4 σ _ _ ls h hP hD hS hl
  · have h := h.2 hc
    refine lv_iload_n hx hb nD_M_mayHold_36 rfl (lv_at hl 3 rfl) ?_
    refine lv_if_ne (tgt := 73) hx hb nD_M_mayHold_37 (by decide) (fun hc => ?_) (fun hc => ?_)
    · have h := h.2 hc
      refine lv_iconst (v := (1 : Int32)) hx hb nD_M_mayHold_73 (by decide) ?_
      refine lv_goto (tgt := 78) hx hb nD_M_mayHold_74 (by decide) ?_
      refine lv_istore_n hx hb nD_M_mayHold_78 rfl hl (by decide) rfl (fun ls hl => ?_)
      have hl : lv_has ls 5 [(3, .int (1 : Int32)), (0, .ref (a 0)), (1, .int x1), (2, .int x2), (4, .int y4)] := hl
      refine lv_iinc (k := 4) (v := y4 + 1) hx hb nD_M_mayHold_79 hl rfl rfl (by decide) rfl (fun ls hl => ?_)
      have hl : lv_has ls 5 [(4, .int (y4 + 1)), (3, .int (1 : Int32)), (0, .ref (a 0)), (1, .int x1), (2, .int x2)] := hl
      refine lv_goto (tgt := 27) hx hb nD_M_mayHold_82 (by decide) ?_
      have hl := lv_sub (l' := [(0, .ref (a 0)), (1, .int x1), (2, .int x2), (3, .int (1 : Int32)), (4, .int (y4 + 1))]) hl [2, 3, 4, 1, 0] rfl
      exact hR _ h _ _ ls hP hD hS hl
    · have h := h.1 hc
      refine lv_iload_n hx hb nD_M_mayHold_40 rfl (lv_at hl 1 rfl) ?_
      refine lv_aload_n hx hb nD_M_mayHold_41 rfl (lv_at hl 0 rfl) ?_
      refine lv_iload hx hb nD_M_mayHold_42 (lv_at hl 4 rfl) ?_
      refine zC_i (va_runV (As := [.int y4]) (rest := [.int x1]) ⟨hx, hb, hml, hown, hw⟩ (c_M_sizeOf l D tc a y4 σ _ h _) (mcV 1 hw wm_562 wm_559 wm_561 wm_23 wm_33 rfl rfl nh_M_sizeOf ⟨Nat.le_of_ble_eq_true rfl, Nat.le_of_ble_eq_true rfl⟩) (zp_V (ci := 5) hP hD hK hn rfl yc_0) rfl rfl hl.1 rfl (lv_room (Nat.le_of_ble_eq_true rfl)) nD_M_mayHold_44 ⟨Nat.zero_le _, Nat.zero_le _⟩) hD hS hA (fun r2 σ1 H locs h hP hD hS => ?_)
      refine lv_icmp_ge (tgt := 77) hx hb nD_M_mayHold_47 (by decide) (fun hc => ?_) (fun hc => ?_)
      · have h := h.1 hc
        refine lv_iconst (v := (0 : Int32)) hx hb nD_M_mayHold_77 (by decide) ?_
        refine lv_istore_n hx hb nD_M_mayHold_78 rfl hl (by decide) rfl (fun ls hl => ?_)
        have hl : lv_has ls 5 [(3, .int (0 : Int32)), (0, .ref (a 0)), (1, .int x1), (2, .int x2), (4, .int y4)] := hl
        refine lv_iinc (k := 4) (v := y4 + 1) hx hb nD_M_mayHold_79 hl rfl rfl (by decide) rfl (fun ls hl => ?_)
        have hl : lv_has ls 5 [(4, .int (y4 + 1)), (3, .int (0 : Int32)), (0, .ref (a 0)), (1, .int x1), (2, .int x2)] := hl
        refine lv_goto (tgt := 27) hx hb nD_M_mayHold_82 (by decide) ?_
        have hl := lv_sub (l' := [(0, .ref (a 0)), (1, .int x1), (2, .int x2), (3, .int (0 : Int32)), (4, .int (y4 + 1))]) hl [2, 3, 4, 1, 0] rfl
        exact hR _ h _ _ ls hP hD hS hl
      · have h := h.2 hc
        refine lv_aload_n hx hb nD_M_mayHold_50 rfl (lv_at hl 0 rfl) ?_
        refine va_get (D := D) (ci := 5) (v := .ref (a 12)) (C := nR_M) (T := nT_M) (N := 23) hx hb hw wu_M hown hK hP 0 yc_0 rfl 20 (by decide) (hw _ wm_443) (fun _ h9 => h9) rfl nD_M_mayHold_51 ?_
        refine lv_iload hx hb nD_M_mayHold_54 (lv_at hl 4 rfl) ?_
        obtain ⟨hi3, h⟩ := h
        refine va_lald (D := D) hx hb hK hP 12 11 yc_12 rfl hi3 nD_M_mayHold_56 ?_
        refine lv_iconst (v := (4 : Int32)) hx hb nD_M_mayHold_57 (by decide) ?_
        refine lv_iconst (v := (4 : Int32)) hx hb nD_M_mayHold_58 (by decide) ?_
        refine lv_iload_n hx hb nD_M_mayHold_59 rfl (lv_at hl 1 rfl) ?_
        refine lv_imul hx hb nD_M_mayHold_60 ?_
        refine lv_iadd hx hb nD_M_mayHold_61 ?_
        refine lv_lshr (v := (σ1.2.2 0 y4.toNatClampNeg) >>> (((4 : Int32) + ((4 : Int32) * x1)).toInt64 &&& 63)) hx hb nD_M_mayHold_62 rfl ?_
        refine lv_ldc2 (v := (15 : Int64)) hx hb hown (hw _ wm_563) nD_M_mayHold_63 ?_
        refine lv_land hx hb nD_M_mayHold_66 ?_
        refine lv_iload_n hx hb nD_M_mayHold_67 rfl (lv_at hl 2 rfl) ?_
        refine lv_i2l (v := x2.toInt64) hx hb nD_M_mayHold_68 rfl ?_
        refine W.lcmp hx hb nD_M_mayHold_69 ?_
        refine lv_if_ne (tgt := 77) hx hb nD_M_mayHold_70 (by decide) (fun hc => ?_) (fun hc => ?_)
        · have h := h.2 hc
          refine lv_iconst (v := (0 : Int32)) hx hb nD_M_mayHold_77 (by decide) ?_
          refine lv_istore_n hx hb nD_M_mayHold_78 rfl hl (by decide) rfl (fun ls hl => ?_)
          have hl : lv_has ls 5 [(3, .int (0 : Int32)), (0, .ref (a 0)), (1, .int x1), (2, .int x2), (4, .int y4)] := hl
          refine lv_iinc (k := 4) (v := y4 + 1) hx hb nD_M_mayHold_79 hl rfl rfl (by decide) rfl (fun ls hl => ?_)
          have hl : lv_has ls 5 [(4, .int (y4 + 1)), (3, .int (0 : Int32)), (0, .ref (a 0)), (1, .int x1), (2, .int x2)] := hl
          refine lv_goto (tgt := 27) hx hb nD_M_mayHold_82 (by decide) ?_
          have hl := lv_sub (l' := [(0, .ref (a 0)), (1, .int x1), (2, .int x2), (3, .int (0 : Int32)), (4, .int (y4 + 1))]) hl [2, 3, 4, 1, 0] rfl
          exact hR _ h _ _ ls hP hD hS hl
        · have h := h.1 hc
          refine lv_iconst (v := (1 : Int32)) hx hb nD_M_mayHold_73 (by decide) ?_
          refine lv_goto (tgt := 78) hx hb nD_M_mayHold_74 (by decide) ?_
          refine lv_istore_n hx hb nD_M_mayHold_78 rfl hl (by decide) rfl (fun ls hl => ?_)
          have hl : lv_has ls 5 [(3, .int (1 : Int32)), (0, .ref (a 0)), (1, .int x1), (2, .int x2), (4, .int y4)] := hl
          refine lv_iinc (k := 4) (v := y4 + 1) hx hb nD_M_mayHold_79 hl rfl rfl (by decide) rfl (fun ls hl => ?_)
          have hl : lv_has ls 5 [(4, .int (y4 + 1)), (3, .int (1 : Int32)), (0, .ref (a 0)), (1, .int x1), (2, .int x2)] := hl
          refine lv_goto (tgt := 27) hx hb nD_M_mayHold_82 (by decide) ?_
          have hl := lv_sub (l' := [(0, .ref (a 0)), (1, .int x1), (2, .int x2), (3, .int (1 : Int32)), (4, .int (y4 + 1))]) hl [2, 3, 4, 1, 0] rfl
          exact hR _ h _ _ ls hP hD hS hl
set_option maxHeartbeats 4000000 in
set_option maxRecDepth 100000 in
theorem c_M_mayHold (l : Launch) (D : va_G) (tc : Nat → ClassId) (a : Nat → Nat) (x1 : Int32) (x2 : Int32) (σ : zS) (post : Int32 → zS → Prop) (h : j_M_mayHold x1 x2 σ post) : mWi l nM_M_mayHold nC_M_mayHold 5 (some .boolean) ({ frames := 1, cells := 0, slots := 0, locals := 21 } : Room) D (ztM tc) [.ref (a 0), .int x1, .int x2] (zM a tc σ) (zQi (zM a tc) post) := by
  intro sz
  refine mt_W (by decide) (Nat.le_of_ble_eq_true rfl) ?_
  intro p e s m below meth c ls hx hb hml hr hown hlocks hin hw hn hP hK hD hS hA hl hsz
  subst hsz
  have hl : lv_has ls 5 [(0, .ref (a 0)), (1, .int x1), (2, .int x2)] := hl
  unfold j_M_mayHold at h
  refine lv_iload_n hx hb nD_M_mayHold_0 rfl (lv_at hl 1 rfl) ?_
  refine lv_if_lt (tgt := 20) hx hb nD_M_mayHold_1 (by decide) (fun hc => ?_) (fun hc => ?_)
  · have h := h.1 hc
    refine lv_iconst (v := (0 : Int32)) hx hb nD_M_mayHold_20 (by decide) ?_
    exact mw_z hx hb hr hlocks rfl ⟨σ, rfl, h⟩ hP hK hD hS nD_M_mayHold_21
  · have h := h.2 hc
    refine lv_iload_n hx hb nD_M_mayHold_4 rfl (lv_at hl 1 rfl) ?_
    refine lv_bipush (v := (7 : Int32)) hx hb nD_M_mayHold_5 (by decide) ?_
    refine lv_icmp_gt (tgt := 20) hx hb nD_M_mayHold_7 (by decide) (fun hc => ?_) (fun hc => ?_)
    · have h := h.1 hc
      refine lv_iconst (v := (0 : Int32)) hx hb nD_M_mayHold_20 (by decide) ?_
      exact mw_z hx hb hr hlocks rfl ⟨σ, rfl, h⟩ hP hK hD hS nD_M_mayHold_21
    · have h := h.2 hc
      refine lv_iload_n hx hb nD_M_mayHold_10 rfl (lv_at hl 2 rfl) ?_
      refine lv_if_lt (tgt := 20) hx hb nD_M_mayHold_11 (by decide) (fun hc => ?_) (fun hc => ?_)
      · have h := h.1 hc
        refine lv_iconst (v := (0 : Int32)) hx hb nD_M_mayHold_20 (by decide) ?_
        exact mw_z hx hb hr hlocks rfl ⟨σ, rfl, h⟩ hP hK hD hS nD_M_mayHold_21
      · have h := h.2 hc
        refine lv_iload_n hx hb nD_M_mayHold_14 rfl (lv_at hl 2 rfl) ?_
        refine lv_bipush (v := (15 : Int32)) hx hb nD_M_mayHold_15 (by decide) ?_
        refine lv_icmp_le (tgt := 22) hx hb nD_M_mayHold_17 (by decide) (fun hc => ?_) (fun hc => ?_)
        · have h := h.1 hc
          refine lv_iconst (v := (0 : Int32)) hx hb nD_M_mayHold_22 (by decide) ?_
          refine lv_istore_n hx hb nD_M_mayHold_23 rfl hl (by decide) rfl (fun ls hl => ?_)
          have hl : lv_has ls 5 [(3, .int (0 : Int32)), (0, .ref (a 0)), (1, .int x1), (2, .int x2)] := hl
          refine lv_iconst (v := (0 : Int32)) hx hb nD_M_mayHold_24 (by decide) ?_
          refine lv_istore hx hb nD_M_mayHold_25 hl (by decide) rfl (fun ls hl => ?_)
          have hl : lv_has ls 5 [(4, .int (0 : Int32)), (3, .int (0 : Int32)), (0, .ref (a 0)), (1, .int x1), (2, .int x2)] := hl
          have hl := lv_sub (l' := [(0, .ref (a 0)), (1, .int x1), (2, .int x2), (3, .int (0 : Int32)), (4, .int (0 : Int32))]) hl [2, 3, 4, 1, 0] rfl
          refine wl_M_mayHold_27 (l := l) x1 x2 post _ hx hb hml hr hown hlocks hw hn hK hA (fun v4 v5 σ6 H locs ls h hP hD hS hl => ?_) ((0 : Int32), (0 : Int32), σ) h _ _ ls hP hD hS hl
          refine lv_iload_n hx hb nD_M_mayHold_85 rfl (lv_at hl 3 rfl) ?_
          exact mw_z hx hb hr hlocks h.1 ⟨σ6, rfl, h.2⟩ hP hK hD hS nD_M_mayHold_86
        · have h := h.2 hc
          refine lv_iconst (v := (0 : Int32)) hx hb nD_M_mayHold_20 (by decide) ?_
          exact mw_z hx hb hr hlocks rfl ⟨σ, rfl, h⟩ hP hK hD hS nD_M_mayHold_21
set_option maxHeartbeats 4000000 in
set_option maxRecDepth 100000 in
theorem c_M_certain (l : Launch) (D : va_G) (tc : Nat → ClassId) (a : Nat → Nat) (x1 : Int32) (σ : zS) (post : Int32 → zS → Prop) (h : j_M_certain x1 σ post) : mWi l nM_M_certain nC_M_certain 2 (some .boolean) ({ frames := 1, cells := 0, slots := 0, locals := 23 } : Room) D (ztM tc) [.ref (a 0), .int x1] (zM a tc σ) (zQi (zM a tc) post) := by
  intro sz
  refine mt_W (by decide) (Nat.le_of_ble_eq_true rfl) ?_
  intro p e s m below meth c ls hx hb hml hr hown hlocks hin hw hn hP hK hD hS hA hl hsz
  subst hsz
  have hl : lv_has ls 2 [(0, .ref (a 0)), (1, .int x1)] := hl
  unfold j_M_certain at h
  refine lv_aload_n hx hb nD_M_certain_0 rfl (lv_at hl 0 rfl) ?_
  refine lv_iload_n hx hb nD_M_certain_1 rfl (lv_at hl 1 rfl) ?_
  refine zC_i (va_runV (As := [.int x1]) (rest := []) ⟨hx, hb, hml, hown, hw⟩ (c_M_openOf l D tc a x1 σ _ h _) (mcV 1 hw wm_506 wm_503 wm_505 wm_20 wm_33 rfl rfl nh_M_openOf ⟨Nat.le_of_ble_eq_true rfl, Nat.le_of_ble_eq_true rfl⟩) (zp_V (ci := 5) hP hD hK hn rfl yc_0) rfl rfl hl.1 rfl (lv_room (Nat.le_of_ble_eq_true rfl)) nD_M_certain_2 ⟨Nat.zero_le _, Nat.zero_le _⟩) hD hS hA (fun r2 σ1 H locs h hP hD hS => ?_)
  refine lv_if_lt (tgt := 35) hx hb nD_M_certain_5 (by decide) (fun hc => ?_) (fun hc => ?_)
  · have h := h.1 hc
    refine lv_iconst (v := (0 : Int32)) hx hb nD_M_certain_35 (by decide) ?_
    exact mw_z hx hb hr hlocks rfl ⟨σ1, rfl, h⟩ hP hK hD hS nD_M_certain_36
  · have h := h.2 hc
    refine lv_aload_n hx hb nD_M_certain_8 rfl (lv_at hl 0 rfl) ?_
    refine va_get (D := D) (ci := 5) (v := .long (σ1.2.2 2 0)) (C := nR_M) (T := nT_M) (N := 23) hx hb hw wu_M hown hK hP 0 yc_0 rfl 18 (by decide) (hw _ wm_441) (fun _ h9 => h9) rfl nD_M_certain_9 ?_
    refine lv_lconst (v := (0 : Int64)) hx hb nD_M_certain_12 (by decide) ?_
    refine W.lcmp hx hb nD_M_certain_13 ?_
    refine lv_if_le (tgt := 35) hx hb nD_M_certain_14 (by decide) (fun hc => ?_) (fun hc => ?_)
    · have h := h.1 hc
      refine lv_iconst (v := (0 : Int32)) hx hb nD_M_certain_35 (by decide) ?_
      exact mw_z hx hb hr hlocks rfl ⟨σ1, rfl, h⟩ hP hK hD hS nD_M_certain_36
    · have h := h.2 hc
      refine lv_aload_n hx hb nD_M_certain_17 rfl (lv_at hl 0 rfl) ?_
      refine va_get (D := D) (ci := 5) (v := .ref (a 13)) (C := nR_M) (T := nT_M) (N := 23) hx hb hw wu_M hown hK hP 0 yc_0 rfl 21 (by decide) (hw _ wm_444) (fun _ h9 => h9) rfl nD_M_certain_18 ?_
      refine lv_iload_n hx hb nD_M_certain_21 rfl (lv_at hl 1 rfl) ?_
      obtain ⟨hi3, h⟩ := h
      refine va_lald (D := D) hx hb hK hP 13 12 yc_13 rfl hi3 nD_M_certain_22 ?_
      refine lv_aload_n hx hb nD_M_certain_23 rfl (lv_at hl 0 rfl) ?_
      refine va_get (D := D) (ci := 5) (v := .long (σ1.2.2 2 0)) (C := nR_M) (T := nT_M) (N := 23) hx hb hw wu_M hown hK hP 0 yc_0 rfl 18 (by decide) (hw _ wm_441) (fun _ h9 => h9) rfl nD_M_certain_24 ?_
      refine W.lcmp hx hb nD_M_certain_27 ?_
      refine lv_if_ne (tgt := 35) hx hb nD_M_certain_28 (by decide) (fun hc => ?_) (fun hc => ?_)
      · have h := h.2 hc
        refine lv_iconst (v := (0 : Int32)) hx hb nD_M_certain_35 (by decide) ?_
        exact mw_z hx hb hr hlocks rfl ⟨σ1, rfl, h⟩ hP hK hD hS nD_M_certain_36
      · have h := h.1 hc
        refine lv_iconst (v := (1 : Int32)) hx hb nD_M_certain_31 (by decide) ?_
        refine lv_goto (tgt := 36) hx hb nD_M_certain_32 (by decide) ?_
        exact mw_z hx hb hr hlocks rfl ⟨σ1, rfl, h⟩ hP hK hD hS nD_M_certain_36
set_option maxHeartbeats 4000000 in
set_option maxRecDepth 100000 in
theorem wl_M_answers_14 {l : Launch} {p : Program} {e : Env} {s : State} {m : MethodId} {args : Array Value} {below : List Frame} {meth : Method} {c : Code} {D : va_G} {tc : Nat → ClassId} {a : Nat → Nat} {w0 : va_W} (x1 : Int32) (post : Int32 → zS → Prop) (K : Int32 → Int32 → zS → Prop) (hx : p.tables.exec = Jvm.exec) (hb : c.code = nC_M_answers) (hml : c.maxLocals = 4) (hr : meth.sig.returnType = (some .int)) (hown : s.vm.findClass nM_M_answers.cls = some m.cls) (hlocks : meth.locks = false) (hw : ∀ w ∈ wA, w.before args s = true) (hn : mN s) (hK : va_K D nCl (ztM tc) s) (hA : ∀ q, s.heap.size ≤ q → va_A w0 s.heap.size q)
    (hk : ∀ (y2 : Int32) (y3 : Int32) (σ : zS) (H : Heap) (locs : List Loc) (ls : Array Slot), K y2 y3 σ → va_P D nCl (zM a tc σ) H → va_D (va_A w0 s.heap.size) (zM a tc σ) → va_S (va_A w0 s.heap.size) s.heap H locs → lv_has ls 4 [(0, .ref (a 0)), (1, .int x1), (2, .int y2), (3, .int y3)] → W p l e ({ frames := 1, cells := 0, slots := 0, locals := 23 } : Room) s m args below meth c H locs 0 0 (MQ below (va_Qi (zQi (zM a tc) post) (mQW D (ztM tc) w0 s.heap.size) (va_A w0 s.heap.size)) args s 0 0 (va_A w0 s.heap.size)) (F0 m 39 ls [])) : ∀ q : Int32 × Int32 × zS, zLP (b_M_answers_14 x1 post K) q → ∀ (H : Heap) (locs : List Loc) (ls : Array Slot), va_P D nCl (zM a tc q.2.2) H → va_D (va_A w0 s.heap.size) (zM a tc q.2.2) → va_S (va_A w0 s.heap.size) s.heap H locs → lv_has ls 4 [(0, .ref (a 0)), (1, .int x1), (2, .int q.1), (3, .int q.2.1)] → W p l e ({ frames := 1, cells := 0, slots := 0, locals := 23 } : Room) s m args below meth c H locs 0 0 (MQ below (va_Qi (zQi (zM a tc) post) (mQW D (ztM tc) w0 s.heap.size) (va_A w0 s.heap.size)) args s 0 0 (va_A w0 s.heap.size)) (F0 m 14 ls []) := by
  refine zLP_walk ?_
  rintro R ⟨y2, y3, σ⟩ hR h H locs ls hP hD hS hl
  dsimp only at hP hD hl
  dsimp only [b_M_answers_14] at h
  refine lv_iload_n hx hb nD_M_answers_14 rfl (lv_at hl 3 rfl) ?_
  refine lv_bipush (v := (17 : Int32)) hx hb nD_M_answers_15 (by decide) ?_
  refine lv_icmp_ge (tgt := 39) hx hb nD_M_answers_17 (by decide) (fun hc => ?_) (fun hc => ?_)
  · have h := h.1 hc
    exact hk y2 y3 σ _ _ ls h hP hD hS hl
  · have h := h.2 hc
    refine lv_iload_n hx hb nD_M_answers_20 rfl (lv_at hl 2 rfl) ?_
    refine lv_aload_n hx hb nD_M_answers_21 rfl (lv_at hl 0 rfl) ?_
    refine va_get (D := D) (ci := 5) (v := .ref (a 14)) (C := nR_M) (T := nT_M) (N := 23) hx hb hw wu_M hown hK hP 0 yc_0 rfl 22 (by decide) (hw _ wm_445) (fun _ h9 => h9) rfl nD_M_answers_22 ?_
    refine lv_iload_n hx hb nD_M_answers_25 rfl (lv_at hl 1 rfl) ?_
    obtain ⟨hi3, h⟩ := h
    refine va_iald (D := D) hx hb hK hP 14 13 yc_14 rfl hi3 nD_M_answers_26 ?_
    refine lv_iload_n hx hb nD_M_answers_27 rfl (lv_at hl 3 rfl) ?_
    refine lv_ishr hx hb nD_M_answers_28 ?_
    refine lv_iconst (v := (1 : Int32)) hx hb nD_M_answers_29 (by decide) ?_
    refine lv_iand hx hb nD_M_answers_30 ?_
    refine lv_iadd hx hb nD_M_answers_31 ?_
    refine lv_topi (fun v4 e_v4 => ?_)
    have h := h v4 e_v4
    clear e_v4
    refine lv_istore_n hx hb nD_M_answers_32 rfl hl (by decide) rfl (fun ls hl => ?_)
    have hl : lv_has ls 4 [(2, .int v4), (0, .ref (a 0)), (1, .int x1), (3, .int y3)] := hl
    refine lv_iinc (k := 3) (v := y3 + 1) hx hb nD_M_answers_33 hl rfl rfl (by decide) rfl (fun ls hl => ?_)
    have hl : lv_has ls 4 [(3, .int (y3 + 1)), (2, .int v4), (0, .ref (a 0)), (1, .int x1)] := hl
    refine lv_goto (tgt := 14) hx hb nD_M_answers_36 (by decide) ?_
    have hl := lv_sub (l' := [(0, .ref (a 0)), (1, .int x1), (2, .int v4), (3, .int (y3 + 1))]) hl [2, 3, 1, 0] rfl
    exact hR _ h _ _ ls hP hD hS hl
set_option maxHeartbeats 4000000 in
set_option maxRecDepth 100000 in
theorem c_M_answers (l : Launch) (D : va_G) (tc : Nat → ClassId) (a : Nat → Nat) (x1 : Int32) (σ : zS) (post : Int32 → zS → Prop) (h : j_M_answers x1 σ post) : mWi l nM_M_answers nC_M_answers 4 (some .int) ({ frames := 1, cells := 0, slots := 0, locals := 23 } : Room) D (ztM tc) [.ref (a 0), .int x1] (zM a tc σ) (zQi (zM a tc) post) := by
  intro sz
  refine mt_W (by decide) (Nat.le_of_ble_eq_true rfl) ?_
  intro p e s m below meth c ls hx hb hml hr hown hlocks hin hw hn hP hK hD hS hA hl hsz
  subst hsz
  have hl : lv_has ls 4 [(0, .ref (a 0)), (1, .int x1)] := hl
  unfold j_M_answers at h
  refine lv_aload_n hx hb nD_M_answers_0 rfl (lv_at hl 0 rfl) ?_
  refine lv_iload_n hx hb nD_M_answers_1 rfl (lv_at hl 1 rfl) ?_
  refine zC_i (va_runV (As := [.int x1]) (rest := []) ⟨hx, hb, hml, hown, hw⟩ (c_M_openOf l D tc a x1 σ _ h _) (mcV 1 hw wm_506 wm_503 wm_505 wm_20 wm_33 rfl rfl nh_M_openOf ⟨Nat.le_of_ble_eq_true rfl, Nat.le_of_ble_eq_true rfl⟩) (zp_V (ci := 5) hP hD hK hn rfl yc_0) rfl rfl hl.1 rfl (lv_room (Nat.le_of_ble_eq_true rfl)) nD_M_answers_2 ⟨Nat.zero_le _, Nat.zero_le _⟩) hD hS hA (fun r2 σ1 H locs h hP hD hS => ?_)
  refine lv_if_ge (tgt := 10) hx hb nD_M_answers_5 (by decide) (fun hc => ?_) (fun hc => ?_)
  · have h := h.1 hc
    refine lv_iconst (v := (0 : Int32)) hx hb nD_M_answers_10 (by decide) ?_
    refine lv_istore_n hx hb nD_M_answers_11 rfl hl (by decide) rfl (fun ls hl => ?_)
    have hl : lv_has ls 4 [(2, .int (0 : Int32)), (0, .ref (a 0)), (1, .int x1)] := hl
    refine lv_iconst (v := (0 : Int32)) hx hb nD_M_answers_12 (by decide) ?_
    refine lv_istore_n hx hb nD_M_answers_13 rfl hl (by decide) rfl (fun ls hl => ?_)
    have hl : lv_has ls 4 [(3, .int (0 : Int32)), (2, .int (0 : Int32)), (0, .ref (a 0)), (1, .int x1)] := hl
    have hl := lv_sub (l' := [(0, .ref (a 0)), (1, .int x1), (2, .int (0 : Int32)), (3, .int (0 : Int32))]) hl [2, 3, 1, 0] rfl
    refine wl_M_answers_14 (l := l) x1 post _ hx hb hml hr hown hlocks hw hn hK hA (fun v5 v6 σ7 H locs ls h hP hD hS hl => ?_) ((0 : Int32), (0 : Int32), σ1) h _ _ ls hP hD hS hl
    refine lv_iload_n hx hb nD_M_answers_39 rfl (lv_at hl 2 rfl) ?_
    exact mw_i hx hb hr hlocks ⟨σ7, rfl, h⟩ hP hK hD hS nD_M_answers_40
  · have h := h.2 hc
    refine lv_iconst (v := (0 : Int32)) hx hb nD_M_answers_8 (by decide) ?_
    exact mw_i hx hb hr hlocks ⟨σ1, rfl, h⟩ hP hK hD hS nD_M_answers_9
