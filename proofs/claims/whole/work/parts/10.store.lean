set_option maxHeartbeats 4000000 in
set_option maxRecDepth 100000 in
theorem c_X4_setUp (l : Launch) (D : va_G) (tc : Nat → ClassId) (a : Nat → Nat) (x1 : Int32) (x2 : Int32) (σ : zS) (post : zS → Prop) (h : j_X4_setUp x1 x2 σ post) : mWv l nM_X4_setUp nC_X4_setUp 3 ({ frames := 1, cells := 0, slots := 0, locals := 15 } : Room) D (ztX tc) [.ref (a 1), .int x1, .int x2] (zX a tc σ) (zQv (zX a tc) post) := by
  intro sz
  refine mt_W (by decide) (Nat.le_of_ble_eq_true rfl) ?_
  intro p e s m below meth c ls hx hb hml hr hown hlocks hin hw hn hP hK hD hS hA hl hsz
  subst hsz
  have hl : lv_has ls 3 [(0, .ref (a 1)), (1, .int x1), (2, .int x2)] := hl
  unfold j_X4_setUp at h
  refine lv_aload_n hx hb nD_X4_setUp_0 rfl (lv_at hl 0 rfl) ?_
  refine lv_iload_n hx hb nD_X4_setUp_1 rfl (lv_at hl 1 rfl) ?_
  refine lv_iconst (v := (1 : Int32)) hx hb nD_X4_setUp_2 (by decide) ?_
  refine lv_icmp_eq (tgt := 11) hx hb nD_X4_setUp_3 (by decide) (fun hc => ?_) (fun hc => ?_)
  · have h := h.1 hc
    refine lv_iload_n hx hb nD_X4_setUp_11 rfl (lv_at hl 1 rfl) ?_
    refine lv_goto (tgt := 16) hx hb nD_X4_setUp_12 (by decide) ?_
    refine va_put (D := D) (ci := 3) (v := .int x1) (ty := .int) (C := nR_X4) (T := nT_X4) (N := 2) hx hb hw wu_X4 nY_X4 nO_X4 nN_X4 hown hK hP hD hS 1 xc_1 rfl 0 (by decide) (hw _ wm_49) (fun _ h9 => h9) rfl (by decide +kernel) rfl rfl (Nat.le_of_ble_eq_true rfl) nD_X4_setUp_16 (fun H locs hP hD hS => ?_)
    obtain ⟨σ1, e_σ1⟩ : ∃ z : zS, z = zI σ 0 x1 := ⟨_, rfl⟩
    obtain ⟨hP, hD⟩ := znew (w := zX a tc) e_σ1 (xp_1_0) hP hD
    have h := h σ1 e_σ1
    clear e_σ1
    refine lv_aload_n hx hb nD_X4_setUp_19 rfl (lv_at hl 0 rfl) ?_
    refine lv_iconst (v := (1 : Int32)) hx hb nD_X4_setUp_20 (by decide) ?_
    refine lv_iload_n hx hb nD_X4_setUp_21 rfl (lv_at hl 2 rfl) ?_
    refine lv_bipush (v := (8 : Int32)) hx hb nD_X4_setUp_22 (by decide) ?_
    refine va_mmin hx hb (hml.trans hl.1.symm) hown (hw _ wm_134) (hw _ wm_135) (hw _ wm_30) (hw _ wm_136) (Nat.le_of_ble_eq_true rfl) (Nat.le_of_ble_eq_true rfl) (Nat.zero_le _) (Nat.zero_le _) nD_X4_setUp_24 ?_
    refine va_mmax hx hb (hml.trans hl.1.symm) hown (hw _ wm_137) (hw _ wm_138) (hw _ wm_30) (hw _ wm_139) (Nat.le_of_ble_eq_true rfl) (Nat.le_of_ble_eq_true rfl) (Nat.zero_le _) (Nat.zero_le _) nD_X4_setUp_27 ?_
    refine va_put (D := D) (ci := 3) (v := .int (if (1 : Int32) < (if (8 : Int32) < x2 then (8 : Int32) else x2) then (if (8 : Int32) < x2 then (8 : Int32) else x2) else (1 : Int32))) (ty := .int) (C := nR_X4) (T := nT_X4) (N := 2) hx hb hw wu_X4 nY_X4 nO_X4 nN_X4 hown hK hP hD hS 1 xc_1 rfl 1 (by decide) (hw _ wm_50) (fun _ h9 => h9) rfl (by decide +kernel) rfl rfl (Nat.le_of_ble_eq_true rfl) nD_X4_setUp_30 (fun H locs hP hD hS => ?_)
    obtain ⟨σ2, e_σ2⟩ : ∃ z : zS, z = zI σ1 1 (if (1 : Int32) < (if (8 : Int32) < x2 then (8 : Int32) else x2) then (if (8 : Int32) < x2 then (8 : Int32) else x2) else (1 : Int32)) := ⟨_, rfl⟩
    obtain ⟨hP, hD⟩ := znew (w := zX a tc) e_σ2 (xp_1_1) hP hD
    have h := h σ2 e_σ2
    clear e_σ2
    exact mw_v hx hb hr hlocks ⟨σ2, rfl, h⟩ hP hK hD hS nD_X4_setUp_33
  · have h := h.2 hc
    refine lv_iload_n hx hb nD_X4_setUp_6 rfl (lv_at hl 1 rfl) ?_
    refine lv_iconst (v := (2 : Int32)) hx hb nD_X4_setUp_7 (by decide) ?_
    refine lv_icmp_ne (tgt := 15) hx hb nD_X4_setUp_8 (by decide) (fun hc => ?_) (fun hc => ?_)
    · have h := h.2 hc
      refine lv_iconst (v := (0 : Int32)) hx hb nD_X4_setUp_15 (by decide) ?_
      refine va_put (D := D) (ci := 3) (v := .int (0 : Int32)) (ty := .int) (C := nR_X4) (T := nT_X4) (N := 2) hx hb hw wu_X4 nY_X4 nO_X4 nN_X4 hown hK hP hD hS 1 xc_1 rfl 0 (by decide) (hw _ wm_49) (fun _ h9 => h9) rfl (by decide +kernel) rfl rfl (Nat.le_of_ble_eq_true rfl) nD_X4_setUp_16 (fun H locs hP hD hS => ?_)
      obtain ⟨σ3, e_σ3⟩ : ∃ z : zS, z = zI σ 0 (0 : Int32) := ⟨_, rfl⟩
      obtain ⟨hP, hD⟩ := znew (w := zX a tc) e_σ3 (xp_1_0) hP hD
      have h := h σ3 e_σ3
      clear e_σ3
      refine lv_aload_n hx hb nD_X4_setUp_19 rfl (lv_at hl 0 rfl) ?_
      refine lv_iconst (v := (1 : Int32)) hx hb nD_X4_setUp_20 (by decide) ?_
      refine lv_iload_n hx hb nD_X4_setUp_21 rfl (lv_at hl 2 rfl) ?_
      refine lv_bipush (v := (8 : Int32)) hx hb nD_X4_setUp_22 (by decide) ?_
      refine va_mmin hx hb (hml.trans hl.1.symm) hown (hw _ wm_134) (hw _ wm_135) (hw _ wm_30) (hw _ wm_136) (Nat.le_of_ble_eq_true rfl) (Nat.le_of_ble_eq_true rfl) (Nat.zero_le _) (Nat.zero_le _) nD_X4_setUp_24 ?_
      refine va_mmax hx hb (hml.trans hl.1.symm) hown (hw _ wm_137) (hw _ wm_138) (hw _ wm_30) (hw _ wm_139) (Nat.le_of_ble_eq_true rfl) (Nat.le_of_ble_eq_true rfl) (Nat.zero_le _) (Nat.zero_le _) nD_X4_setUp_27 ?_
      refine va_put (D := D) (ci := 3) (v := .int (if (1 : Int32) < (if (8 : Int32) < x2 then (8 : Int32) else x2) then (if (8 : Int32) < x2 then (8 : Int32) else x2) else (1 : Int32))) (ty := .int) (C := nR_X4) (T := nT_X4) (N := 2) hx hb hw wu_X4 nY_X4 nO_X4 nN_X4 hown hK hP hD hS 1 xc_1 rfl 1 (by decide) (hw _ wm_50) (fun _ h9 => h9) rfl (by decide +kernel) rfl rfl (Nat.le_of_ble_eq_true rfl) nD_X4_setUp_30 (fun H locs hP hD hS => ?_)
      obtain ⟨σ4, e_σ4⟩ : ∃ z : zS, z = zI σ3 1 (if (1 : Int32) < (if (8 : Int32) < x2 then (8 : Int32) else x2) then (if (8 : Int32) < x2 then (8 : Int32) else x2) else (1 : Int32)) := ⟨_, rfl⟩
      obtain ⟨hP, hD⟩ := znew (w := zX a tc) e_σ4 (xp_1_1) hP hD
      have h := h σ4 e_σ4
      clear e_σ4
      exact mw_v hx hb hr hlocks ⟨σ4, rfl, h⟩ hP hK hD hS nD_X4_setUp_33
    · have h := h.1 hc
      refine lv_iload_n hx hb nD_X4_setUp_11 rfl (lv_at hl 1 rfl) ?_
      refine lv_goto (tgt := 16) hx hb nD_X4_setUp_12 (by decide) ?_
      refine va_put (D := D) (ci := 3) (v := .int x1) (ty := .int) (C := nR_X4) (T := nT_X4) (N := 2) hx hb hw wu_X4 nY_X4 nO_X4 nN_X4 hown hK hP hD hS 1 xc_1 rfl 0 (by decide) (hw _ wm_49) (fun _ h9 => h9) rfl (by decide +kernel) rfl rfl (Nat.le_of_ble_eq_true rfl) nD_X4_setUp_16 (fun H locs hP hD hS => ?_)
      obtain ⟨σ5, e_σ5⟩ : ∃ z : zS, z = zI σ 0 x1 := ⟨_, rfl⟩
      obtain ⟨hP, hD⟩ := znew (w := zX a tc) e_σ5 (xp_1_0) hP hD
      have h := h σ5 e_σ5
      clear e_σ5
      refine lv_aload_n hx hb nD_X4_setUp_19 rfl (lv_at hl 0 rfl) ?_
      refine lv_iconst (v := (1 : Int32)) hx hb nD_X4_setUp_20 (by decide) ?_
      refine lv_iload_n hx hb nD_X4_setUp_21 rfl (lv_at hl 2 rfl) ?_
      refine lv_bipush (v := (8 : Int32)) hx hb nD_X4_setUp_22 (by decide) ?_
      refine va_mmin hx hb (hml.trans hl.1.symm) hown (hw _ wm_134) (hw _ wm_135) (hw _ wm_30) (hw _ wm_136) (Nat.le_of_ble_eq_true rfl) (Nat.le_of_ble_eq_true rfl) (Nat.zero_le _) (Nat.zero_le _) nD_X4_setUp_24 ?_
      refine va_mmax hx hb (hml.trans hl.1.symm) hown (hw _ wm_137) (hw _ wm_138) (hw _ wm_30) (hw _ wm_139) (Nat.le_of_ble_eq_true rfl) (Nat.le_of_ble_eq_true rfl) (Nat.zero_le _) (Nat.zero_le _) nD_X4_setUp_27 ?_
      refine va_put (D := D) (ci := 3) (v := .int (if (1 : Int32) < (if (8 : Int32) < x2 then (8 : Int32) else x2) then (if (8 : Int32) < x2 then (8 : Int32) else x2) else (1 : Int32))) (ty := .int) (C := nR_X4) (T := nT_X4) (N := 2) hx hb hw wu_X4 nY_X4 nO_X4 nN_X4 hown hK hP hD hS 1 xc_1 rfl 1 (by decide) (hw _ wm_50) (fun _ h9 => h9) rfl (by decide +kernel) rfl rfl (Nat.le_of_ble_eq_true rfl) nD_X4_setUp_30 (fun H locs hP hD hS => ?_)
      obtain ⟨σ6, e_σ6⟩ : ∃ z : zS, z = zI σ5 1 (if (1 : Int32) < (if (8 : Int32) < x2 then (8 : Int32) else x2) then (if (8 : Int32) < x2 then (8 : Int32) else x2) else (1 : Int32)) := ⟨_, rfl⟩
      obtain ⟨hP, hD⟩ := znew (w := zX a tc) e_σ6 (xp_1_1) hP hD
      have h := h σ6 e_σ6
      clear e_σ6
      exact mw_v hx hb hr hlocks ⟨σ6, rfl, h⟩ hP hK hD hS nD_X4_setUp_33
set_option maxHeartbeats 4000000 in
set_option maxRecDepth 100000 in
theorem c_X4_letsPut (l : Launch) (D : va_G) (tc : Nat → ClassId) (a : Nat → Nat) (x1 : Int32) (σ : zS) (post : Int32 → zS → Prop) (h : j_X4_letsPut x1 σ post) : mWi l nM_X4_letsPut nC_X4_letsPut 2 (some .boolean) ({ frames := 0, cells := 0, slots := 0, locals := 0 } : Room) D (ztX tc) [.ref (a 1), .int x1] (zX a tc σ) (zQi (zX a tc) post) := by
  intro sz
  refine mt_W (by decide) (Nat.le_of_ble_eq_true rfl) ?_
  intro p e s m below meth c ls hx hb hml hr hown hlocks hin hw hn hP hK hD hS hA hl hsz
  subst hsz
  have hl : lv_has ls 2 [(0, .ref (a 1)), (1, .int x1)] := hl
  unfold j_X4_letsPut at h
  refine lv_aload_n hx hb nD_X4_letsPut_0 rfl (lv_at hl 0 rfl) ?_
  refine va_get (D := D) (ci := 3) (v := .int (σ.1 0)) (C := nR_X4) (T := nT_X4) (N := 2) hx hb hw wu_X4 hown hK hP 1 xc_1 rfl 0 (by decide) (hw _ wm_49) (fun _ h9 => h9) rfl nD_X4_letsPut_1 ?_
  refine lv_iconst (v := (2 : Int32)) hx hb nD_X4_letsPut_4 (by decide) ?_
  refine lv_icmp_ne (tgt := 12) hx hb nD_X4_letsPut_5 (by decide) (fun hc => ?_) (fun hc => ?_)
  · have h := h.2 hc
    refine lv_iconst (v := (1 : Int32)) hx hb nD_X4_letsPut_12 (by decide) ?_
    refine lv_goto (tgt := 17) hx hb nD_X4_letsPut_13 (by decide) ?_
    exact mw_z hx hb hr hlocks rfl ⟨σ, rfl, h⟩ hP hK hD hS nD_X4_letsPut_17
  · have h := h.1 hc
    refine lv_iload_n hx hb nD_X4_letsPut_8 rfl (lv_at hl 1 rfl) ?_
    refine lv_if_ne (tgt := 16) hx hb nD_X4_letsPut_9 (by decide) (fun hc => ?_) (fun hc => ?_)
    · have h := h.2 hc
      refine lv_iconst (v := (0 : Int32)) hx hb nD_X4_letsPut_16 (by decide) ?_
      exact mw_z hx hb hr hlocks rfl ⟨σ, rfl, h⟩ hP hK hD hS nD_X4_letsPut_17
    · have h := h.1 hc
      refine lv_iconst (v := (1 : Int32)) hx hb nD_X4_letsPut_12 (by decide) ?_
      refine lv_goto (tgt := 17) hx hb nD_X4_letsPut_13 (by decide) ?_
      exact mw_z hx hb hr hlocks rfl ⟨σ, rfl, h⟩ hP hK hD hS nD_X4_letsPut_17
set_option maxHeartbeats 4000000 in
set_option maxRecDepth 100000 in
theorem c_X4_hasRoom (l : Launch) (D : va_G) (tc : Nat → ClassId) (a : Nat → Nat) (x1 : Int64) (σ : zS) (post : Int32 → zS → Prop) (h : j_X4_hasRoom x1 σ post) : mWi l nM_X4_hasRoom nC_X4_hasRoom 3 (some .boolean) ({ frames := 1, cells := 0, slots := 0, locals := 21 } : Room) D (ztX tc) [.ref (a 1), .long x1] (zX a tc σ) (zQi (zX a tc) post) := by
  intro sz
  refine mt_W (by decide) (Nat.le_of_ble_eq_true rfl) ?_
  intro p e s m below meth c ls hx hb hml hr hown hlocks hin hw hn hP hK hD hS hA hl hsz
  subst hsz
  have hl : lv_has ls 3 [(0, .ref (a 1)), (1, .long x1)] := hl
  unfold j_X4_hasRoom at h
  refine lv_lload_n hx hb nD_X4_hasRoom_0 rfl (lv_at hl 1 rfl) ?_
  refine vp_callSi (W.runS (As := [.long x1]) (rest := []) ⟨hx, hb, hml, hown, hw⟩ (c_X2_length l x1 _ h) (mcS 1 hw wm_199 wm_197 wm_198 wm_32 rfl rfl nh_X2_length ⟨Nat.le_of_ble_eq_true rfl, Nat.le_of_ble_eq_true rfl⟩) mp_S rfl rfl hl.1 rfl (lv_room (Nat.le_of_ble_eq_true rfl)) nD_X4_hasRoom_1 ⟨Nat.zero_le _, Nat.zero_le _⟩) (fun r1 h => ?_)
  refine lv_aload_n hx hb nD_X4_hasRoom_4 rfl (lv_at hl 0 rfl) ?_
  refine va_get (D := D) (ci := 3) (v := .int (σ.1 1)) (C := nR_X4) (T := nT_X4) (N := 2) hx hb hw wu_X4 hown hK hP 1 xc_1 rfl 1 (by decide) (hw _ wm_50) (fun _ h9 => h9) rfl nD_X4_hasRoom_5 ?_
  refine lv_icmp_ge (tgt := 15) hx hb nD_X4_hasRoom_8 (by decide) (fun hc => ?_) (fun hc => ?_)
  · have h := h.1 hc
    refine lv_iconst (v := (0 : Int32)) hx hb nD_X4_hasRoom_15 (by decide) ?_
    exact mw_z hx hb hr hlocks rfl ⟨σ, rfl, h⟩ hP hK hD hS nD_X4_hasRoom_16
  · have h := h.2 hc
    refine lv_iconst (v := (1 : Int32)) hx hb nD_X4_hasRoom_11 (by decide) ?_
    refine lv_goto (tgt := 16) hx hb nD_X4_hasRoom_12 (by decide) ?_
    exact mw_z hx hb hr hlocks rfl ⟨σ, rfl, h⟩ hP hK hD hS nD_X4_hasRoom_16
set_option maxHeartbeats 4000000 in
set_option maxRecDepth 100000 in
theorem c_X4_takesBack (l : Launch) (D : va_G) (tc : Nat → ClassId) (a : Nat → Nat) (x1 : Int32) (σ : zS) (post : Int32 → zS → Prop) (h : j_X4_takesBack x1 σ post) : mWi l nM_X4_takesBack nC_X4_takesBack 2 (some .boolean) ({ frames := 0, cells := 0, slots := 0, locals := 0 } : Room) D (ztX tc) [.ref (a 1), .int x1] (zX a tc σ) (zQi (zX a tc) post) := by
  intro sz
  refine mt_W (by decide) (Nat.le_of_ble_eq_true rfl) ?_
  intro p e s m below meth c ls hx hb hml hr hown hlocks hin hw hn hP hK hD hS hA hl hsz
  subst hsz
  have hl : lv_has ls 2 [(0, .ref (a 1)), (1, .int x1)] := hl
  unfold j_X4_takesBack at h
  refine lv_aload_n hx hb nD_X4_takesBack_0 rfl (lv_at hl 0 rfl) ?_
  refine va_get (D := D) (ci := 3) (v := .int (σ.1 0)) (C := nR_X4) (T := nT_X4) (N := 2) hx hb hw wu_X4 hown hK hP 1 xc_1 rfl 0 (by decide) (hw _ wm_49) (fun _ h9 => h9) rfl nD_X4_takesBack_1 ?_
  refine lv_iconst (v := (1 : Int32)) hx hb nD_X4_takesBack_4 (by decide) ?_
  refine lv_icmp_eq (tgt := 20) hx hb nD_X4_takesBack_5 (by decide) (fun hc => ?_) (fun hc => ?_)
  · have h := h.1 hc
    refine lv_iconst (v := (1 : Int32)) hx hb nD_X4_takesBack_20 (by decide) ?_
    refine lv_goto (tgt := 25) hx hb nD_X4_takesBack_21 (by decide) ?_
    exact mw_z hx hb hr hlocks rfl ⟨σ, rfl, h⟩ hP hK hD hS nD_X4_takesBack_25
  · have h := h.2 hc
    refine lv_aload_n hx hb nD_X4_takesBack_8 rfl (lv_at hl 0 rfl) ?_
    refine va_get (D := D) (ci := 3) (v := .int (σ.1 0)) (C := nR_X4) (T := nT_X4) (N := 2) hx hb hw wu_X4 hown hK hP 1 xc_1 rfl 0 (by decide) (hw _ wm_49) (fun _ h9 => h9) rfl nD_X4_takesBack_9 ?_
    refine lv_iconst (v := (2 : Int32)) hx hb nD_X4_takesBack_12 (by decide) ?_
    refine lv_icmp_ne (tgt := 24) hx hb nD_X4_takesBack_13 (by decide) (fun hc => ?_) (fun hc => ?_)
    · have h := h.2 hc
      refine lv_iconst (v := (0 : Int32)) hx hb nD_X4_takesBack_24 (by decide) ?_
      exact mw_z hx hb hr hlocks rfl ⟨σ, rfl, h⟩ hP hK hD hS nD_X4_takesBack_25
    · have h := h.1 hc
      refine lv_iload_n hx hb nD_X4_takesBack_16 rfl (lv_at hl 1 rfl) ?_
      refine lv_if_ne (tgt := 24) hx hb nD_X4_takesBack_17 (by decide) (fun hc => ?_) (fun hc => ?_)
      · have h := h.2 hc
        refine lv_iconst (v := (0 : Int32)) hx hb nD_X4_takesBack_24 (by decide) ?_
        exact mw_z hx hb hr hlocks rfl ⟨σ, rfl, h⟩ hP hK hD hS nD_X4_takesBack_25
      · have h := h.1 hc
        refine lv_iconst (v := (1 : Int32)) hx hb nD_X4_takesBack_20 (by decide) ?_
        refine lv_goto (tgt := 25) hx hb nD_X4_takesBack_21 (by decide) ?_
        exact mw_z hx hb hr hlocks rfl ⟨σ, rfl, h⟩ hP hK hD hS nD_X4_takesBack_25
set_option maxHeartbeats 4000000 in
set_option maxRecDepth 100000 in
theorem c_X4_replyTo (l : Launch) (D : va_G) (tc : Nat → ClassId) (a : Nat → Nat) (j1 : Nat) (x2 : Int64) (hj1 : j1 < 8) (σ : zS) (post : Int32 → zS → Prop) (h : j_X4_replyTo j1 x2 σ post) : mWi l nM_X4_replyTo nC_X4_replyTo 4 (some .int) ({ frames := 2, cells := 0, slots := 0, locals := 43 } : Room) D (ztX tc) [.ref (a 1), .ref (a (11 + j1)), .long x2] (zX a tc σ) (zQi (zX a tc) post) := by
  intro sz
  refine mt_W (by decide) (Nat.le_of_ble_eq_true rfl) ?_
  intro p e s m below meth c ls hx hb hml hr hown hlocks hin hw hn hP hK hD hS hA hl hsz
  subst hsz
  have hl : lv_has ls 4 [(0, .ref (a 1)), (1, .ref (a (11 + j1))), (2, .long x2)] := hl
  unfold j_X4_replyTo at h
  refine lv_aload_n hx hb nD_X4_replyTo_0 rfl (lv_at hl 1 rfl) ?_
  refine va_getN (D := D) (ci := 0) (v := .int (σ.2.1 6 j1)) (C := nR_X0) (T := nT_X0) (N := 5) hx hb hw wu_X0 hown hK hP (11 + j1) (xcC hj1) rfl 1 (by decide) (hn.use wn_108) (fun _ h9 => h9) rfl nD_X4_replyTo_1 ?_
  refine lv_if_eq (tgt := 21) hx hb nD_X4_replyTo_4 (by decide) (fun hc => ?_) (fun hc => ?_)
  · have h := h.1 hc
    refine lv_lload_n hx hb nD_X4_replyTo_21 rfl (lv_at hl 2 rfl) ?_
    refine lv_lconst (v := (0 : Int64)) hx hb nD_X4_replyTo_22 (by decide) ?_
    refine W.lcmp hx hb nD_X4_replyTo_23 ?_
    refine lv_if_ne (tgt := 29) hx hb nD_X4_replyTo_24 (by decide) (fun hc => ?_) (fun hc => ?_)
    · have h := h.2 hc
      refine lv_lload_n hx hb nD_X4_replyTo_29 rfl (lv_at hl 2 rfl) ?_
      refine lv_aload_n hx hb nD_X4_replyTo_30 rfl (lv_at hl 0 rfl) ?_
      refine lv_aload_n hx hb nD_X4_replyTo_31 rfl (lv_at hl 1 rfl) ?_
      refine va_getN (D := D) (ci := 0) (v := .int (σ.2.1 5 j1)) (C := nR_X0) (T := nT_X0) (N := 5) hx hb hw wu_X0 hown hK hP (11 + j1) (xcC hj1) rfl 0 (by decide) (hn.use wn_106) (fun _ h9 => h9) rfl nD_X4_replyTo_32 ?_
      refine zC_i (va_runV (As := [.int (σ.2.1 5 j1)]) (rest := [.long x2]) ⟨hx, hb, hml, hown, hw⟩ (c_X4_takesBack l D tc a (σ.2.1 5 j1) σ _ h _) (mcV 1 hw wm_203 wm_200 wm_202 wm_7 wm_26 rfl rfl nh_X4_takesBack ⟨Nat.le_of_ble_eq_true rfl, Nat.le_of_ble_eq_true rfl⟩) (zp_V (ci := 3) hP hD hK hn rfl xc_1) rfl rfl hl.1 rfl (lv_room (Nat.le_of_ble_eq_true rfl)) nD_X4_replyTo_35 ⟨Nat.zero_le _, Nat.zero_le _⟩) hD hS hA (fun r2 σ1 H locs h hP hD hS => ?_)
      refine lv_if_eq (tgt := 50) hx hb nD_X4_replyTo_38 (by decide) (fun hc => ?_) (fun hc => ?_)
      · have h := h.1 hc
        refine lv_iconst (v := (0 : Int32)) hx hb nD_X4_replyTo_50 (by decide) ?_
        refine vp_callSi (W.runS (As := [.long x2, .int (0 : Int32)]) (rest := []) ⟨hx, hb, hml, hown, hw⟩ (c_X2_valueAt l x2 (0 : Int32) _ h) (mcS 2 hw wm_206 wm_204 wm_205 wm_32 rfl rfl nh_X2_valueAt ⟨Nat.le_of_ble_eq_true rfl, Nat.le_of_ble_eq_true rfl⟩) mp_S rfl rfl hl.1 rfl (lv_room (Nat.le_of_ble_eq_true rfl)) nD_X4_replyTo_51 ⟨Nat.zero_le _, Nat.zero_le _⟩) (fun r3 h => ?_)
        exact mw_i hx hb hr hlocks ⟨σ1, rfl, h⟩ hP hK hD hS nD_X4_replyTo_54
      · have h := h.2 hc
        refine lv_lload_n hx hb nD_X4_replyTo_41 rfl (lv_at hl 2 rfl) ?_
        refine vp_callSi (W.runS (As := [.long x2]) (rest := [.long x2]) ⟨hx, hb, hml, hown, hw⟩ (c_X2_length l x2 _ h) (mcS 1 hw wm_199 wm_197 wm_198 wm_32 rfl rfl nh_X2_length ⟨Nat.le_of_ble_eq_true rfl, Nat.le_of_ble_eq_true rfl⟩) mp_S rfl rfl hl.1 rfl (lv_room (Nat.le_of_ble_eq_true rfl)) nD_X4_replyTo_42 ⟨Nat.zero_le _, Nat.zero_le _⟩) (fun r4 h => ?_)
        refine lv_iconst (v := (1 : Int32)) hx hb nD_X4_replyTo_45 (by decide) ?_
        refine lv_isub hx hb nD_X4_replyTo_46 ?_
        refine lv_goto (tgt := 51) hx hb nD_X4_replyTo_47 (by decide) ?_
        refine vp_callSi (W.runS (As := [.long x2, .int (r4 - (1 : Int32))]) (rest := []) ⟨hx, hb, hml, hown, hw⟩ (c_X2_valueAt l x2 (r4 - (1 : Int32)) _ h) (mcS 2 hw wm_206 wm_204 wm_205 wm_32 rfl rfl nh_X2_valueAt ⟨Nat.le_of_ble_eq_true rfl, Nat.le_of_ble_eq_true rfl⟩) mp_S rfl rfl hl.1 rfl (lv_room (Nat.le_of_ble_eq_true rfl)) nD_X4_replyTo_51 ⟨Nat.zero_le _, Nat.zero_le _⟩) (fun r5 h => ?_)
        exact mw_i hx hb hr hlocks ⟨σ1, rfl, h⟩ hP hK hD hS nD_X4_replyTo_54
    · have h := h.1 hc
      refine lv_iconst (v := (-1 : Int32)) hx hb nD_X4_replyTo_27 (by decide) ?_
      exact mw_i hx hb hr hlocks ⟨σ, rfl, h⟩ hP hK hD hS nD_X4_replyTo_28
  · have h := h.2 hc
    refine lv_aload_n hx hb nD_X4_replyTo_7 rfl (lv_at hl 0 rfl) ?_
    refine lv_lload_n hx hb nD_X4_replyTo_8 rfl (lv_at hl 2 rfl) ?_
    refine zC_i (va_runV (As := [.long x2]) (rest := []) ⟨hx, hb, hml, hown, hw⟩ (c_X4_hasRoom l D tc a x2 σ _ h _) (mcV 1 hw wm_196 wm_193 wm_195 wm_6 wm_26 rfl rfl nh_X4_hasRoom ⟨Nat.le_of_ble_eq_true rfl, Nat.le_of_ble_eq_true rfl⟩) (zp_V (ci := 3) hP hD hK hn rfl xc_1) rfl rfl hl.1 rfl (lv_room (Nat.le_of_ble_eq_true rfl)) nD_X4_replyTo_9 ⟨Nat.zero_le _, Nat.zero_le _⟩) hD hS hA (fun r7 σ6 H locs h hP hD hS => ?_)
    refine lv_if_eq (tgt := 19) hx hb nD_X4_replyTo_12 (by decide) (fun hc => ?_) (fun hc => ?_)
    · have h := h.1 hc
      refine lv_iconst (v := (0 : Int32)) hx hb nD_X4_replyTo_19 (by decide) ?_
      exact mw_i hx hb hr hlocks ⟨σ6, rfl, h⟩ hP hK hD hS nD_X4_replyTo_20
    · have h := h.2 hc
      refine lv_iconst (v := (1 : Int32)) hx hb nD_X4_replyTo_15 (by decide) ?_
      refine lv_goto (tgt := 20) hx hb nD_X4_replyTo_16 (by decide) ?_
      exact mw_i hx hb hr hlocks ⟨σ6, rfl, h⟩ hP hK hD hS nD_X4_replyTo_20
set_option maxHeartbeats 4000000 in
set_option maxRecDepth 100000 in
theorem c_X4_rowAfter (l : Launch) (D : va_G) (tc : Nat → ClassId) (a : Nat → Nat) (j1 : Nat) (x2 : Int64) (hj1 : j1 < 8) (σ : zS) (post : Int64 → zS → Prop) (h : j_X4_rowAfter j1 x2 σ post) : mWl l nM_X4_rowAfter nC_X4_rowAfter 4 ({ frames := 2, cells := 0, slots := 0, locals := 44 } : Room) D (ztX tc) [.ref (a 1), .ref (a (11 + j1)), .long x2] (zX a tc σ) (zQl (zX a tc) post) := by
  intro sz
  refine mt_W (by decide) (Nat.le_of_ble_eq_true rfl) ?_
  intro p e s m below meth c ls hx hb hml hr hown hlocks hin hw hn hP hK hD hS hA hl hsz
  subst hsz
  have hl : lv_has ls 4 [(0, .ref (a 1)), (1, .ref (a (11 + j1))), (2, .long x2)] := hl
  unfold j_X4_rowAfter at h
  refine lv_aload_n hx hb nD_X4_rowAfter_0 rfl (lv_at hl 1 rfl) ?_
  refine va_getN (D := D) (ci := 0) (v := .int (σ.2.1 6 j1)) (C := nR_X0) (T := nT_X0) (N := 5) hx hb hw wu_X0 hown hK hP (11 + j1) (xcC hj1) rfl 1 (by decide) (hn.use wn_108) (fun _ h9 => h9) rfl nD_X4_rowAfter_1 ?_
  refine lv_if_eq (tgt := 28) hx hb nD_X4_rowAfter_4 (by decide) (fun hc => ?_) (fun hc => ?_)
  · have h := h.1 hc
    refine lv_lload_n hx hb nD_X4_rowAfter_28 rfl (lv_at hl 2 rfl) ?_
    refine lv_lconst (v := (0 : Int64)) hx hb nD_X4_rowAfter_29 (by decide) ?_
    refine W.lcmp hx hb nD_X4_rowAfter_30 ?_
    refine lv_if_ne (tgt := 36) hx hb nD_X4_rowAfter_31 (by decide) (fun hc => ?_) (fun hc => ?_)
    · have h := h.2 hc
      refine lv_aload_n hx hb nD_X4_rowAfter_36 rfl (lv_at hl 0 rfl) ?_
      refine lv_aload_n hx hb nD_X4_rowAfter_37 rfl (lv_at hl 1 rfl) ?_
      refine va_getN (D := D) (ci := 0) (v := .int (σ.2.1 5 j1)) (C := nR_X0) (T := nT_X0) (N := 5) hx hb hw wu_X0 hown hK hP (11 + j1) (xcC hj1) rfl 0 (by decide) (hn.use wn_106) (fun _ h9 => h9) rfl nD_X4_rowAfter_38 ?_
      refine zC_i (va_runV (As := [.int (σ.2.1 5 j1)]) (rest := []) ⟨hx, hb, hml, hown, hw⟩ (c_X4_takesBack l D tc a (σ.2.1 5 j1) σ _ h _) (mcV 1 hw wm_203 wm_200 wm_202 wm_7 wm_26 rfl rfl nh_X4_takesBack ⟨Nat.le_of_ble_eq_true rfl, Nat.le_of_ble_eq_true rfl⟩) (zp_V (ci := 3) hP hD hK hn rfl xc_1) rfl rfl hl.1 rfl (lv_room (Nat.le_of_ble_eq_true rfl)) nD_X4_rowAfter_41 ⟨Nat.zero_le _, Nat.zero_le _⟩) hD hS hA (fun r2 σ1 H locs h hP hD hS => ?_)
      refine lv_if_eq (tgt := 54) hx hb nD_X4_rowAfter_44 (by decide) (fun hc => ?_) (fun hc => ?_)
      · have h := h.1 hc
        refine lv_lload_n hx hb nD_X4_rowAfter_54 rfl (lv_at hl 2 rfl) ?_
        refine vp_callSl (W.runS (As := [.long x2]) (rest := []) ⟨hx, hb, hml, hown, hw⟩ (c_X2_withoutFront l x2 _ h) (mcS 1 hw wm_223 wm_221 wm_222 wm_32 rfl rfl nh_X2_withoutFront ⟨Nat.le_of_ble_eq_true rfl, Nat.le_of_ble_eq_true rfl⟩) mp_S rfl rfl hl.1 rfl (lv_room (Nat.le_of_ble_eq_true rfl)) nD_X4_rowAfter_55 ⟨Nat.zero_le _, Nat.zero_le _⟩) (fun r3 h => ?_)
        exact mw_l hx hb hr hlocks ⟨σ1, rfl, h⟩ hP hK hD hS nD_X4_rowAfter_58
      · have h := h.2 hc
        refine lv_lload_n hx hb nD_X4_rowAfter_47 rfl (lv_at hl 2 rfl) ?_
        refine vp_callSl (W.runS (As := [.long x2]) (rest := []) ⟨hx, hb, hml, hown, hw⟩ (c_X2_withoutBack l x2 _ h) (mcS 1 hw wm_218 wm_216 wm_217 wm_32 rfl rfl nh_X2_withoutBack ⟨Nat.le_of_ble_eq_true rfl, Nat.le_of_ble_eq_true rfl⟩) mp_S rfl rfl hl.1 rfl (lv_room (Nat.le_of_ble_eq_true rfl)) nD_X4_rowAfter_48 ⟨Nat.zero_le _, Nat.zero_le _⟩) (fun r4 h => ?_)
        refine lv_goto (tgt := 58) hx hb nD_X4_rowAfter_51 (by decide) ?_
        exact mw_l hx hb hr hlocks ⟨σ1, rfl, h⟩ hP hK hD hS nD_X4_rowAfter_58
    · have h := h.1 hc
      refine lv_lload_n hx hb nD_X4_rowAfter_34 rfl (lv_at hl 2 rfl) ?_
      exact mw_l hx hb hr hlocks ⟨σ, rfl, h⟩ hP hK hD hS nD_X4_rowAfter_35
  · have h := h.2 hc
    refine lv_aload_n hx hb nD_X4_rowAfter_7 rfl (lv_at hl 0 rfl) ?_
    refine lv_lload_n hx hb nD_X4_rowAfter_8 rfl (lv_at hl 2 rfl) ?_
    refine zC_i (va_runV (As := [.long x2]) (rest := []) ⟨hx, hb, hml, hown, hw⟩ (c_X4_hasRoom l D tc a x2 σ _ h _) (mcV 1 hw wm_196 wm_193 wm_195 wm_6 wm_26 rfl rfl nh_X4_hasRoom ⟨Nat.le_of_ble_eq_true rfl, Nat.le_of_ble_eq_true rfl⟩) (zp_V (ci := 3) hP hD hK hn rfl xc_1) rfl rfl hl.1 rfl (lv_room (Nat.le_of_ble_eq_true rfl)) nD_X4_rowAfter_9 ⟨Nat.zero_le _, Nat.zero_le _⟩) hD hS hA (fun r6 σ5 H locs h hP hD hS => ?_)
    refine lv_if_eq (tgt := 26) hx hb nD_X4_rowAfter_12 (by decide) (fun hc => ?_) (fun hc => ?_)
    · have h := h.1 hc
      refine lv_lload_n hx hb nD_X4_rowAfter_26 rfl (lv_at hl 2 rfl) ?_
      exact mw_l hx hb hr hlocks ⟨σ5, rfl, h⟩ hP hK hD hS nD_X4_rowAfter_27
    · have h := h.2 hc
      refine lv_lload_n hx hb nD_X4_rowAfter_15 rfl (lv_at hl 2 rfl) ?_
      refine lv_aload_n hx hb nD_X4_rowAfter_16 rfl (lv_at hl 1 rfl) ?_
      refine va_getN (D := D) (ci := 0) (v := .int (σ5.2.1 7 j1)) (C := nR_X0) (T := nT_X0) (N := 5) hx hb hw wu_X0 hown hK hP (11 + j1) (xcC hj1) rfl 2 (by decide) (hn.use wn_111) (fun _ h9 => h9) rfl nD_X4_rowAfter_17 ?_
      refine vp_callSl (W.runS (As := [.long x2, .int (σ5.2.1 7 j1)]) (rest := []) ⟨hx, hb, hml, hown, hw⟩ (c_X2_withBack l x2 (σ5.2.1 7 j1) _ h) (mcS 2 hw wm_213 wm_211 wm_212 wm_32 rfl rfl nh_X2_withBack ⟨Nat.le_of_ble_eq_true rfl, Nat.le_of_ble_eq_true rfl⟩) mp_S rfl rfl hl.1 rfl (lv_room (Nat.le_of_ble_eq_true rfl)) nD_X4_rowAfter_20 ⟨Nat.zero_le _, Nat.zero_le _⟩) (fun r7 h => ?_)
      refine lv_goto (tgt := 27) hx hb nD_X4_rowAfter_23 (by decide) ?_
      exact mw_l hx hb hr hlocks ⟨σ5, rfl, h⟩ hP hK hD hS nD_X4_rowAfter_27
set_option maxHeartbeats 4000000 in
set_option maxRecDepth 100000 in
theorem c_X0_startPut (l : Launch) (D : va_G) (tc : Nat → ClassId) (a : Nat → Nat) (j : Nat) (x1 : Int32) (x2 : Int32) (x3 : Int32) (hj : j < 8) (σ : zS) (post : zS → Prop) (h : j_X0_startPut j x1 x2 x3 σ post) : mWv l nM_X0_startPut nC_X0_startPut 4 ({ frames := 0, cells := 0, slots := 0, locals := 0 } : Room) D (ztX tc) [.ref (a (11 + j)), .int x1, .int x2, .int x3] (zX a tc σ) (zQv (zX a tc) post) := by
  intro sz
  refine mt_W (by decide) (Nat.le_of_ble_eq_true rfl) ?_
  intro p e s m below meth c ls hx hb hml hr hown hlocks hin hw hn hP hK hD hS hA hl hsz
  subst hsz
  have hl : lv_has ls 4 [(0, .ref (a (11 + j))), (1, .int x1), (2, .int x2), (3, .int x3)] := hl
  unfold j_X0_startPut at h
  refine lv_aload_n hx hb nD_X0_startPut_0 rfl (lv_at hl 0 rfl) ?_
  refine lv_iload_n hx hb nD_X0_startPut_1 rfl (lv_at hl 1 rfl) ?_
  refine va_put (D := D) (ci := 0) (v := .int x1) (ty := .int) (C := nR_X0) (T := nT_X0) (N := 5) hx hb hw wu_X0 nY_X0 nO_X0 nN_X0 hown hK hP hD hS (11 + j) (xcC hj) rfl 0 (by decide) (hw _ wm_105) (fun _ h9 => h9) rfl (by decide +kernel) rfl rfl (Nat.le_of_ble_eq_true rfl) nD_X0_startPut_2 (fun H locs hP hD hS => ?_)
  obtain ⟨σ1, e_σ1⟩ : ∃ z : zS, z = zA σ 5 j x1 := ⟨_, rfl⟩
  obtain ⟨hP, hD⟩ := znew (w := zX a tc) e_σ1 (xpC_0 hj) hP hD
  have h := h σ1 e_σ1
  clear e_σ1
  refine lv_aload_n hx hb nD_X0_startPut_5 rfl (lv_at hl 0 rfl) ?_
  refine lv_iconst (v := (1 : Int32)) hx hb nD_X0_startPut_6 (by decide) ?_
  refine va_put (D := D) (ci := 0) (v := .int (1 : Int32)) (ty := .boolean) (C := nR_X0) (T := nT_X0) (N := 5) hx hb hw wu_X0 nY_X0 nO_X0 nN_X0 hown hK hP hD hS (11 + j) (xcC hj) rfl 1 (by decide) (hw _ wm_107) (fun _ h9 => h9) rfl (by decide +kernel) rfl rfl (Nat.le_of_ble_eq_true rfl) nD_X0_startPut_7 (fun H locs hP hD hS => ?_)
  obtain ⟨σ2, e_σ2⟩ : ∃ z : zS, z = zA σ1 6 j (1 : Int32) := ⟨_, rfl⟩
  obtain ⟨hP, hD⟩ := znew (w := zX a tc) e_σ2 (xpC_1 hj) hP hD
  have h := h σ2 e_σ2
  clear e_σ2
  refine lv_aload_n hx hb nD_X0_startPut_10 rfl (lv_at hl 0 rfl) ?_
  refine lv_iload_n hx hb nD_X0_startPut_11 rfl (lv_at hl 2 rfl) ?_
  refine va_put (D := D) (ci := 0) (v := .int x2) (ty := .int) (C := nR_X0) (T := nT_X0) (N := 5) hx hb hw wu_X0 nY_X0 nO_X0 nN_X0 hown hK hP hD hS (11 + j) (xcC hj) rfl 2 (by decide) (hw _ wm_110) (fun _ h9 => h9) rfl (by decide +kernel) rfl rfl (Nat.le_of_ble_eq_true rfl) nD_X0_startPut_12 (fun H locs hP hD hS => ?_)
  obtain ⟨σ3, e_σ3⟩ : ∃ z : zS, z = zA σ2 7 j x2 := ⟨_, rfl⟩
  obtain ⟨hP, hD⟩ := znew (w := zX a tc) e_σ3 (xpC_2 hj) hP hD
  have h := h σ3 e_σ3
  clear e_σ3
  refine lv_aload_n hx hb nD_X0_startPut_15 rfl (lv_at hl 0 rfl) ?_
  refine lv_iload_n hx hb nD_X0_startPut_16 rfl (lv_at hl 3 rfl) ?_
  refine va_put (D := D) (ci := 0) (v := .int x3) (ty := .int) (C := nR_X0) (T := nT_X0) (N := 5) hx hb hw wu_X0 nY_X0 nO_X0 nN_X0 hown hK hP hD hS (11 + j) (xcC hj) rfl 3 (by decide) (hw _ wm_112) (fun _ h9 => h9) rfl (by decide +kernel) rfl rfl (Nat.le_of_ble_eq_true rfl) nD_X0_startPut_17 (fun H locs hP hD hS => ?_)
  obtain ⟨σ4, e_σ4⟩ : ∃ z : zS, z = zA σ3 8 j x3 := ⟨_, rfl⟩
  obtain ⟨hP, hD⟩ := znew (w := zX a tc) e_σ4 (xpC_3 hj) hP hD
  have h := h σ4 e_σ4
  clear e_σ4
  exact mw_v hx hb hr hlocks ⟨σ4, rfl, h⟩ hP hK hD hS nD_X0_startPut_20
set_option maxHeartbeats 4000000 in
set_option maxRecDepth 100000 in
theorem c_X0_startTake (l : Launch) (D : va_G) (tc : Nat → ClassId) (a : Nat → Nat) (j : Nat) (x1 : Int32) (x2 : Int32) (hj : j < 8) (σ : zS) (post : zS → Prop) (h : j_X0_startTake j x1 x2 σ post) : mWv l nM_X0_startTake nC_X0_startTake 3 ({ frames := 0, cells := 0, slots := 0, locals := 0 } : Room) D (ztX tc) [.ref (a (11 + j)), .int x1, .int x2] (zX a tc σ) (zQv (zX a tc) post) := by
  intro sz
  refine mt_W (by decide) (Nat.le_of_ble_eq_true rfl) ?_
  intro p e s m below meth c ls hx hb hml hr hown hlocks hin hw hn hP hK hD hS hA hl hsz
  subst hsz
  have hl : lv_has ls 3 [(0, .ref (a (11 + j))), (1, .int x1), (2, .int x2)] := hl
  unfold j_X0_startTake at h
  refine lv_aload_n hx hb nD_X0_startTake_0 rfl (lv_at hl 0 rfl) ?_
  refine lv_iload_n hx hb nD_X0_startTake_1 rfl (lv_at hl 1 rfl) ?_
  refine va_put (D := D) (ci := 0) (v := .int x1) (ty := .int) (C := nR_X0) (T := nT_X0) (N := 5) hx hb hw wu_X0 nY_X0 nO_X0 nN_X0 hown hK hP hD hS (11 + j) (xcC hj) rfl 0 (by decide) (hw _ wm_105) (fun _ h9 => h9) rfl (by decide +kernel) rfl rfl (Nat.le_of_ble_eq_true rfl) nD_X0_startTake_2 (fun H locs hP hD hS => ?_)
  obtain ⟨σ1, e_σ1⟩ : ∃ z : zS, z = zA σ 5 j x1 := ⟨_, rfl⟩
  obtain ⟨hP, hD⟩ := znew (w := zX a tc) e_σ1 (xpC_0 hj) hP hD
  have h := h σ1 e_σ1
  clear e_σ1
  refine lv_aload_n hx hb nD_X0_startTake_5 rfl (lv_at hl 0 rfl) ?_
  refine lv_iconst (v := (0 : Int32)) hx hb nD_X0_startTake_6 (by decide) ?_
  refine va_put (D := D) (ci := 0) (v := .int (0 : Int32)) (ty := .boolean) (C := nR_X0) (T := nT_X0) (N := 5) hx hb hw wu_X0 nY_X0 nO_X0 nN_X0 hown hK hP hD hS (11 + j) (xcC hj) rfl 1 (by decide) (hw _ wm_107) (fun _ h9 => h9) rfl (by decide +kernel) rfl rfl (Nat.le_of_ble_eq_true rfl) nD_X0_startTake_7 (fun H locs hP hD hS => ?_)
  obtain ⟨σ2, e_σ2⟩ : ∃ z : zS, z = zA σ1 6 j (0 : Int32) := ⟨_, rfl⟩
  obtain ⟨hP, hD⟩ := znew (w := zX a tc) e_σ2 (xpC_1 hj) hP hD
  have h := h σ2 e_σ2
  clear e_σ2
  refine lv_aload_n hx hb nD_X0_startTake_10 rfl (lv_at hl 0 rfl) ?_
  refine lv_iload_n hx hb nD_X0_startTake_11 rfl (lv_at hl 2 rfl) ?_
  refine va_put (D := D) (ci := 0) (v := .int x2) (ty := .int) (C := nR_X0) (T := nT_X0) (N := 5) hx hb hw wu_X0 nY_X0 nO_X0 nN_X0 hown hK hP hD hS (11 + j) (xcC hj) rfl 3 (by decide) (hw _ wm_112) (fun _ h9 => h9) rfl (by decide +kernel) rfl rfl (Nat.le_of_ble_eq_true rfl) nD_X0_startTake_12 (fun H locs hP hD hS => ?_)
  obtain ⟨σ3, e_σ3⟩ : ∃ z : zS, z = zA σ2 8 j x2 := ⟨_, rfl⟩
  obtain ⟨hP, hD⟩ := znew (w := zX a tc) e_σ3 (xpC_3 hj) hP hD
  have h := h σ3 e_σ3
  clear e_σ3
  exact mw_v hx hb hr hlocks ⟨σ3, rfl, h⟩ hP hK hD hS nD_X0_startTake_15
