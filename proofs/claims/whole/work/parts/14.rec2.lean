set_option maxHeartbeats 4000000 in
set_option maxRecDepth 100000 in
theorem c_X5_review (l : Launch) (D : va_G) (tc : Nat → ClassId) (a : Nat → Nat) (σ : zS) (post : zS → Prop) (h : j_X5_review  σ post) : mWv l nM_X5_review nC_X5_review 1 ({ frames := 22, cells := 0, slots := 0, locals := 556 } : Room) D (ztX tc) [.ref (a 0)] (zX a tc σ) (zQv (zX a tc) post) := by
  intro sz
  refine mt_W (by decide) (Nat.le_of_ble_eq_true rfl) ?_
  intro p e s m below meth c ls hx hb hml hr hown hlocks hin hw hn hP hK hD hS hA hl hsz
  subst hsz
  have hl : lv_has ls 1 [(0, .ref (a 0))] := hl
  unfold j_X5_review at h
  refine lv_aload_n hx hb nD_X5_review_0 rfl (lv_at hl 0 rfl) ?_
  refine va_get (D := D) (ci := 4) (v := .ref (a 5)) (C := nR_X5) (T := nT_X5) (N := 10) hx hb hw wu_X5 hown hK hP 0 xc_0 rfl 4 (by decide) (hw _ wm_233) (fun _ h9 => h9) rfl nD_X5_review_1 ?_
  refine zC_v (va_runV (As := []) (rest := []) ⟨hx, hb, hml, hown, hw⟩ (c_X1_clear l D tc a σ _ h _) (mcV 0 hw wm_150 wm_147 wm_148 wm_149 wm_27 rfl rfl nh_X1_clear ⟨Nat.le_of_ble_eq_true rfl, Nat.le_of_ble_eq_true rfl⟩) (zp_V (ci := 1) hP hD hK hn rfl xc_5) rfl rfl hl.1 rfl (lv_room (Nat.le_of_ble_eq_true rfl)) nD_X5_review_4 ⟨Nat.zero_le _, Nat.zero_le _⟩) hD hS hA (fun σ1 H locs h hP hD hS => ?_)
  refine lv_aload_n hx hb nD_X5_review_7 rfl (lv_at hl 0 rfl) ?_
  refine lv_iconst (v := (0 : Int32)) hx hb nD_X5_review_8 (by decide) ?_
  refine lv_lconst (v := (0 : Int64)) hx hb nD_X5_review_9 (by decide) ?_
  refine lv_iconst (v := (0 : Int32)) hx hb nD_X5_review_10 (by decide) ?_
  refine zC_v (va_runV (As := [.int (0 : Int32), .long (0 : Int64), .int (0 : Int32)]) (rest := []) ⟨hx, hb, hml, hown, hw⟩ (c_X5_lengthenList l D tc a (0 : Int32) (0 : Int64) (0 : Int32) σ1 _ h _) (mcV 3 hw wm_160 wm_157 wm_159 wm_2 wm_25 rfl rfl nh_X5_lengthenList ⟨Nat.le_of_ble_eq_true rfl, Nat.le_of_ble_eq_true rfl⟩) (zp_V (ci := 4) hP hD hK hn rfl xc_0) rfl rfl hl.1 rfl (lv_room (Nat.le_of_ble_eq_true rfl)) nD_X5_review_11 ⟨Nat.zero_le _, Nat.zero_le _⟩) hD hS hA (fun σ2 H locs h hP hD hS => ?_)
  refine lv_aload_n hx hb nD_X5_review_14 rfl (lv_at hl 0 rfl) ?_
  refine va_get (D := D) (ci := 4) (v := .int (σ2.1 6)) (C := nR_X5) (T := nT_X5) (N := 10) hx hb hw wu_X5 hown hK hP 0 xc_0 rfl 9 (by decide) (hw _ wm_238) (fun _ h9 => h9) rfl nD_X5_review_15 ?_
  refine lv_if_ne (tgt := 36) hx hb nD_X5_review_18 (by decide) (fun hc => ?_) (fun hc => ?_)
  · have h := h.2 hc
    exact mw_v hx hb hr hlocks ⟨σ2, rfl, h⟩ hP hK hD hS nD_X5_review_36
  · have h := h.1 hc
    refine lv_aload_n hx hb nD_X5_review_21 rfl (lv_at hl 0 rfl) ?_
    refine zC_i (va_runV (As := []) (rest := []) ⟨hx, hb, hml, hown, hw⟩ (c_X5_fits l D tc a σ2 _ h _) (mcV 0 hw wm_228 wm_225 wm_226 wm_227 wm_25 rfl rfl nh_X5_fits ⟨Nat.le_of_ble_eq_true rfl, Nat.le_of_ble_eq_true rfl⟩) (zp_V (ci := 4) hP hD hK hn rfl xc_0) rfl rfl hl.1 rfl (lv_room (Nat.le_of_ble_eq_true rfl)) nD_X5_review_22 ⟨Nat.zero_le _, Nat.zero_le _⟩) hD hS hA (fun r4 σ3 H locs h hP hD hS => ?_)
    refine lv_if_ne (tgt := 36) hx hb nD_X5_review_25 (by decide) (fun hc => ?_) (fun hc => ?_)
    · have h := h.2 hc
      exact mw_v hx hb hr hlocks ⟨σ3, rfl, h⟩ hP hK hD hS nD_X5_review_36
    · have h := h.1 hc
      refine lv_aload_n hx hb nD_X5_review_28 rfl (lv_at hl 0 rfl) ?_
      refine lv_aload_n hx hb nD_X5_review_29 rfl (lv_at hl 0 rfl) ?_
      refine va_get (D := D) (ci := 4) (v := .int (σ3.1 5)) (C := nR_X5) (T := nT_X5) (N := 10) hx hb hw wu_X5 hown hK hP 0 xc_0 rfl 8 (by decide) (hw _ wm_237) (fun _ h9 => h9) rfl nD_X5_review_30 ?_
      refine va_put (D := D) (ci := 4) (v := .int (σ3.1 5)) (ty := .int) (C := nR_X5) (T := nT_X5) (N := 10) hx hb hw wu_X5 nY_X5 nO_X5 nN_X5 hown hK hP hD hS 0 xc_0 rfl 9 (by decide) (hw _ wm_238) (fun _ h9 => h9) rfl (by decide +kernel) rfl rfl (Nat.le_of_ble_eq_true rfl) nD_X5_review_33 (fun H locs hP hD hS => ?_)
      obtain ⟨σ5, e_σ5⟩ : ∃ z : zS, z = zI σ3 6 (σ3.1 5) := ⟨_, rfl⟩
      obtain ⟨hP, hD⟩ := znew (w := zX a tc) e_σ5 (xp_0_9) hP hD
      have h := h σ5 e_σ5
      clear e_σ5
      exact mw_v hx hb hr hlocks ⟨σ5, rfl, h⟩ hP hK hD hS nD_X5_review_36
set_option maxHeartbeats 4000000 in
set_option maxRecDepth 100000 in
theorem c_X5_startRecord (l : Launch) (D : va_G) (tc : Nat → ClassId) (a : Nat → Nat) (x1 : Int32) (x2 : Int32) (σ : zS) (post : zS → Prop) (h : j_X5_startRecord x1 x2 σ post) : mWv l nM_X5_startRecord nC_X5_startRecord 3 ({ frames := 23, cells := 0, slots := 0, locals := 576 } : Room) D (ztX tc) [.ref (a 0), .int x1, .int x2] (zX a tc σ) (zQv (zX a tc) post) := by
  intro sz
  refine mt_W (by decide) (Nat.le_of_ble_eq_true rfl) ?_
  intro p e s m below meth c ls hx hb hml hr hown hlocks hin hw hn hP hK hD hS hA hl hsz
  subst hsz
  have hl : lv_has ls 3 [(0, .ref (a 0)), (1, .int x1), (2, .int x2)] := hl
  unfold j_X5_startRecord at h
  refine lv_aload_n hx hb nD_X5_startRecord_0 rfl (lv_at hl 0 rfl) ?_
  refine va_get (D := D) (ci := 4) (v := .ref (a 1)) (C := nR_X5) (T := nT_X5) (N := 10) hx hb hw wu_X5 hown hK hP 0 xc_0 rfl 0 (by decide) (hw _ wm_229) (fun _ h9 => h9) rfl nD_X5_startRecord_1 ?_
  refine lv_iload_n hx hb nD_X5_startRecord_4 rfl (lv_at hl 1 rfl) ?_
  refine lv_iload_n hx hb nD_X5_startRecord_5 rfl (lv_at hl 2 rfl) ?_
  refine zC_v (va_runV (As := [.int x1, .int x2]) (rest := []) ⟨hx, hb, hml, hown, hw⟩ (c_X4_setUp l D tc a x1 x2 σ _ h _) (mcV 2 hw wm_133 wm_130 wm_131 wm_132 wm_26 rfl rfl nh_X4_setUp ⟨Nat.le_of_ble_eq_true rfl, Nat.le_of_ble_eq_true rfl⟩) (zp_V (ci := 3) hP hD hK hn rfl xc_1) rfl rfl hl.1 rfl (lv_room (Nat.le_of_ble_eq_true rfl)) nD_X5_startRecord_6 ⟨Nat.zero_le _, Nat.zero_le _⟩) hD hS hA (fun σ1 H locs h hP hD hS => ?_)
  refine lv_aload_n hx hb nD_X5_startRecord_9 rfl (lv_at hl 0 rfl) ?_
  refine va_get (D := D) (ci := 4) (v := .ref (a 3)) (C := nR_X5) (T := nT_X5) (N := 10) hx hb hw wu_X5 hown hK hP 0 xc_0 rfl 2 (by decide) (hw _ wm_231) (fun _ h9 => h9) rfl nD_X5_startRecord_10 ?_
  refine lv_iconst (v := (-1 : Int32)) hx hb nD_X5_startRecord_13 (by decide) ?_
  refine zC_fill (q0 := 3) (t0 := 1) (rest := []) ⟨hx, hb, hml, hown, hw⟩ wm_140 (by decide) hK hn hP hD hS hA xc_3 rfl hl.1 (lv_room (Nat.le_of_ble_eq_true rfl)) nD_X5_startRecord_14 ⟨Nat.le_of_ble_eq_true rfl, Nat.le_of_ble_eq_true rfl⟩ ⟨Nat.zero_le _, Nat.zero_le _⟩ wm_142 wm_141 wm_31 (fun H locs hP hD hS => ?_)
  obtain ⟨σ2, e_σ2⟩ : ∃ z : zS, z = zF σ1 0 (zfl (σ1.2.1 0) 3 (-1 : Int32)) := ⟨_, rfl⟩
  obtain ⟨hP, hD⟩ := znew (w := zX a tc) e_σ2 (xf_3) hP hD
  have h := h σ2 e_σ2
  clear e_σ2
  refine lv_aload_n hx hb nD_X5_startRecord_17 rfl (lv_at hl 0 rfl) ?_
  refine lv_iconst (v := (0 : Int32)) hx hb nD_X5_startRecord_18 (by decide) ?_
  refine va_put (D := D) (ci := 4) (v := .int (0 : Int32)) (ty := .int) (C := nR_X5) (T := nT_X5) (N := 10) hx hb hw wu_X5 nY_X5 nO_X5 nN_X5 hown hK hP hD hS 0 xc_0 rfl 5 (by decide) (hw _ wm_234) (fun _ h9 => h9) rfl (by decide +kernel) rfl rfl (Nat.le_of_ble_eq_true rfl) nD_X5_startRecord_19 (fun H locs hP hD hS => ?_)
  obtain ⟨σ3, e_σ3⟩ : ∃ z : zS, z = zI σ2 2 (0 : Int32) := ⟨_, rfl⟩
  obtain ⟨hP, hD⟩ := znew (w := zX a tc) e_σ3 (xp_0_5) hP hD
  have h := h σ3 e_σ3
  clear e_σ3
  refine lv_aload_n hx hb nD_X5_startRecord_22 rfl (lv_at hl 0 rfl) ?_
  refine lv_iconst (v := (0 : Int32)) hx hb nD_X5_startRecord_23 (by decide) ?_
  refine va_put (D := D) (ci := 4) (v := .int (0 : Int32)) (ty := .int) (C := nR_X5) (T := nT_X5) (N := 10) hx hb hw wu_X5 nY_X5 nO_X5 nN_X5 hown hK hP hD hS 0 xc_0 rfl 6 (by decide) (hw _ wm_235) (fun _ h9 => h9) rfl (by decide +kernel) rfl rfl (Nat.le_of_ble_eq_true rfl) nD_X5_startRecord_24 (fun H locs hP hD hS => ?_)
  obtain ⟨σ4, e_σ4⟩ : ∃ z : zS, z = zI σ3 3 (0 : Int32) := ⟨_, rfl⟩
  obtain ⟨hP, hD⟩ := znew (w := zX a tc) e_σ4 (xp_0_6) hP hD
  have h := h σ4 e_σ4
  clear e_σ4
  refine lv_aload_n hx hb nD_X5_startRecord_27 rfl (lv_at hl 0 rfl) ?_
  refine lv_iconst (v := (0 : Int32)) hx hb nD_X5_startRecord_28 (by decide) ?_
  refine va_put (D := D) (ci := 4) (v := .int (0 : Int32)) (ty := .int) (C := nR_X5) (T := nT_X5) (N := 10) hx hb hw wu_X5 nY_X5 nO_X5 nN_X5 hown hK hP hD hS 0 xc_0 rfl 7 (by decide) (hw _ wm_236) (fun _ h9 => h9) rfl (by decide +kernel) rfl rfl (Nat.le_of_ble_eq_true rfl) nD_X5_startRecord_29 (fun H locs hP hD hS => ?_)
  obtain ⟨σ5, e_σ5⟩ : ∃ z : zS, z = zI σ4 4 (0 : Int32) := ⟨_, rfl⟩
  obtain ⟨hP, hD⟩ := znew (w := zX a tc) e_σ5 (xp_0_7) hP hD
  have h := h σ5 e_σ5
  clear e_σ5
  refine lv_aload_n hx hb nD_X5_startRecord_32 rfl (lv_at hl 0 rfl) ?_
  refine lv_iconst (v := (0 : Int32)) hx hb nD_X5_startRecord_33 (by decide) ?_
  refine va_put (D := D) (ci := 4) (v := .int (0 : Int32)) (ty := .int) (C := nR_X5) (T := nT_X5) (N := 10) hx hb hw wu_X5 nY_X5 nO_X5 nN_X5 hown hK hP hD hS 0 xc_0 rfl 8 (by decide) (hw _ wm_237) (fun _ h9 => h9) rfl (by decide +kernel) rfl rfl (Nat.le_of_ble_eq_true rfl) nD_X5_startRecord_34 (fun H locs hP hD hS => ?_)
  obtain ⟨σ6, e_σ6⟩ : ∃ z : zS, z = zI σ5 5 (0 : Int32) := ⟨_, rfl⟩
  obtain ⟨hP, hD⟩ := znew (w := zX a tc) e_σ6 (xp_0_8) hP hD
  have h := h σ6 e_σ6
  clear e_σ6
  refine lv_aload_n hx hb nD_X5_startRecord_37 rfl (lv_at hl 0 rfl) ?_
  refine lv_iconst (v := (0 : Int32)) hx hb nD_X5_startRecord_38 (by decide) ?_
  refine va_put (D := D) (ci := 4) (v := .int (0 : Int32)) (ty := .int) (C := nR_X5) (T := nT_X5) (N := 10) hx hb hw wu_X5 nY_X5 nO_X5 nN_X5 hown hK hP hD hS 0 xc_0 rfl 9 (by decide) (hw _ wm_238) (fun _ h9 => h9) rfl (by decide +kernel) rfl rfl (Nat.le_of_ble_eq_true rfl) nD_X5_startRecord_39 (fun H locs hP hD hS => ?_)
  obtain ⟨σ7, e_σ7⟩ : ∃ z : zS, z = zI σ6 6 (0 : Int32) := ⟨_, rfl⟩
  obtain ⟨hP, hD⟩ := znew (w := zX a tc) e_σ7 (xp_0_9) hP hD
  have h := h σ7 e_σ7
  clear e_σ7
  refine lv_aload_n hx hb nD_X5_startRecord_42 rfl (lv_at hl 0 rfl) ?_
  refine zC_v (va_runV (As := []) (rest := []) ⟨hx, hb, hml, hown, hw⟩ (c_X5_review l D tc a σ7 _ h _) (mcV 0 hw wm_146 wm_143 wm_145 wm_1 wm_25 rfl rfl nh_X5_review ⟨Nat.le_of_ble_eq_true rfl, Nat.le_of_ble_eq_true rfl⟩) (zp_V (ci := 4) hP hD hK hn rfl xc_0) rfl rfl hl.1 rfl (lv_room (Nat.le_of_ble_eq_true rfl)) nD_X5_startRecord_43 ⟨Nat.zero_le _, Nat.zero_le _⟩) hD hS hA (fun σ8 H locs h hP hD hS => ?_)
  exact mw_v hx hb hr hlocks ⟨σ8, rfl, h⟩ hP hK hD hS nD_X5_startRecord_46
set_option maxHeartbeats 4000000 in
set_option maxRecDepth 100000 in
theorem c_X5_renew (l : Launch) (D : va_G) (tc : Nat → ClassId) (a : Nat → Nat) (x1 : Int32) (x2 : Int32) (σ : zS) (post : zS → Prop) (h : j_X5_renew x1 x2 σ post) : mWv l nM_X5_renew nC_X5_renew 3 ({ frames := 24, cells := 0, slots := 0, locals := 598 } : Room) D (ztX tc) [.ref (a 0), .int x1, .int x2] (zX a tc σ) (zQv (zX a tc) post) := by
  intro sz
  refine mt_W (by decide) (Nat.le_of_ble_eq_true rfl) ?_
  intro p e s m below meth c ls hx hb hml hr hown hlocks hin hw hn hP hK hD hS hA hl hsz
  subst hsz
  have hl : lv_has ls 3 [(0, .ref (a 0)), (1, .int x1), (2, .int x2)] := hl
  unfold j_X5_renew at h
  refine lv_aload_n hx hb nD_X5_renew_0 rfl (lv_at hl 0 rfl) ?_
  refine lv_iload_n hx hb nD_X5_renew_1 rfl (lv_at hl 1 rfl) ?_
  refine lv_iload_n hx hb nD_X5_renew_2 rfl (lv_at hl 2 rfl) ?_
  refine zC_v (va_runV (As := [.int x1, .int x2]) (rest := []) ⟨hx, hb, hml, hown, hw⟩ (c_X5_startRecord l D tc a x1 x2 σ _ h _) (mcV 2 hw wm_129 wm_126 wm_128 wm_0 wm_25 rfl rfl nh_X5_startRecord ⟨Nat.le_of_ble_eq_true rfl, Nat.le_of_ble_eq_true rfl⟩) (zp_V (ci := 4) hP hD hK hn rfl xc_0) rfl rfl hl.1 rfl (lv_room (Nat.le_of_ble_eq_true rfl)) nD_X5_renew_3 ⟨Nat.zero_le _, Nat.zero_le _⟩) hD hS hA (fun σ1 H locs h hP hD hS => ?_)
  exact mw_v hx hb hr hlocks ⟨σ1, rfl, h⟩ hP hK hD hS nD_X5_renew_6
set_option maxHeartbeats 4000000 in
set_option maxRecDepth 100000 in
theorem c_X5_beginPut (l : Launch) (D : va_G) (tc : Nat → ClassId) (a : Nat → Nat) (x1 : Int32) (x2 : Int32) (σ : zS) (post : Int32 → zS → Prop) (h : j_X5_beginPut x1 x2 σ post) : mWi l nM_X5_beginPut nC_X5_beginPut 3 (some .boolean) ({ frames := 23, cells := 0, slots := 0, locals := 576 } : Room) D (ztX tc) [.ref (a 0), .int x1, .int x2] (zX a tc σ) (zQi (zX a tc) post) := by
  intro sz
  refine mt_W (by decide) (Nat.le_of_ble_eq_true rfl) ?_
  intro p e s m below meth c ls hx hb hml hr hown hlocks hin hw hn hP hK hD hS hA hl hsz
  subst hsz
  have hl : lv_has ls 3 [(0, .ref (a 0)), (1, .int x1), (2, .int x2)] := hl
  unfold j_X5_beginPut at h
  refine lv_aload_n hx hb nD_X5_beginPut_0 rfl (lv_at hl 0 rfl) ?_
  refine lv_iload_n hx hb nD_X5_beginPut_1 rfl (lv_at hl 1 rfl) ?_
  refine zC_i (va_runV (As := [.int x1]) (rest := []) ⟨hx, hb, hml, hown, hw⟩ (c_X5_mayBegin l D tc a x1 σ _ h _) (mcV 1 hw wm_271 wm_268 wm_270 wm_8 wm_25 rfl rfl nh_X5_mayBegin ⟨Nat.le_of_ble_eq_true rfl, Nat.le_of_ble_eq_true rfl⟩) (zp_V (ci := 4) hP hD hK hn rfl xc_0) rfl rfl hl.1 rfl (lv_room (Nat.le_of_ble_eq_true rfl)) nD_X5_beginPut_2 ⟨Nat.zero_le _, Nat.zero_le _⟩) hD hS hA (fun r2 σ1 H locs h hP hD hS => ?_)
  refine lv_if_eq (tgt := 26) hx hb nD_X5_beginPut_5 (by decide) (fun hc => ?_) (fun hc => ?_)
  · have h := h.1 hc
    refine lv_iconst (v := (0 : Int32)) hx hb nD_X5_beginPut_26 (by decide) ?_
    exact mw_z hx hb hr hlocks rfl ⟨σ1, rfl, h⟩ hP hK hD hS nD_X5_beginPut_27
  · have h := h.2 hc
    refine lv_iload_n hx hb nD_X5_beginPut_8 rfl (lv_at hl 2 rfl) ?_
    refine vp_callSi (W.runS (As := [.int x2]) (rest := []) ⟨hx, hb, hml, hown, hw⟩ (c_X5_isValue l x2 _ h) (mcS 1 hw wm_277 wm_275 wm_276 wm_25 rfl rfl nh_X5_isValue ⟨Nat.le_of_ble_eq_true rfl, Nat.le_of_ble_eq_true rfl⟩) mp_S rfl rfl hl.1 rfl (lv_room (Nat.le_of_ble_eq_true rfl)) nD_X5_beginPut_9 ⟨Nat.zero_le _, Nat.zero_le _⟩) (fun r3 h => ?_)
    refine lv_if_eq (tgt := 26) hx hb nD_X5_beginPut_12 (by decide) (fun hc => ?_) (fun hc => ?_)
    · have h := h.1 hc
      refine lv_iconst (v := (0 : Int32)) hx hb nD_X5_beginPut_26 (by decide) ?_
      exact mw_z hx hb hr hlocks rfl ⟨σ1, rfl, h⟩ hP hK hD hS nD_X5_beginPut_27
    · have h := h.2 hc
      refine lv_aload_n hx hb nD_X5_beginPut_15 rfl (lv_at hl 0 rfl) ?_
      refine va_get (D := D) (ci := 4) (v := .ref (a 1)) (C := nR_X5) (T := nT_X5) (N := 10) hx hb hw wu_X5 hown hK hP 0 xc_0 rfl 0 (by decide) (hw _ wm_229) (fun _ h9 => h9) rfl nD_X5_beginPut_16 ?_
      refine lv_iload_n hx hb nD_X5_beginPut_19 rfl (lv_at hl 1 rfl) ?_
      refine zC_i (va_runV (As := [.int x1]) (rest := []) ⟨hx, hb, hml, hown, hw⟩ (c_X4_letsPut l D tc a x1 σ1 _ h _) (mcV 1 hw wm_281 wm_278 wm_279 wm_280 wm_26 rfl rfl nh_X4_letsPut ⟨Nat.le_of_ble_eq_true rfl, Nat.le_of_ble_eq_true rfl⟩) (zp_V (ci := 3) hP hD hK hn rfl xc_1) rfl rfl hl.1 rfl (lv_room (Nat.le_of_ble_eq_true rfl)) nD_X5_beginPut_20 ⟨Nat.zero_le _, Nat.zero_le _⟩) hD hS hA (fun r5 σ4 H locs h hP hD hS => ?_)
      refine lv_if_ne (tgt := 28) hx hb nD_X5_beginPut_23 (by decide) (fun hc => ?_) (fun hc => ?_)
      · have h := h.2 hc
        refine lv_aload_n hx hb nD_X5_beginPut_28 rfl (lv_at hl 0 rfl) ?_
        refine va_get (D := D) (ci := 4) (v := .ref (a 2)) (C := nR_X5) (T := nT_X5) (N := 10) hx hb hw wu_X5 hown hK hP 0 xc_0 rfl 1 (by decide) (hw _ wm_230) (fun _ h9 => h9) rfl nD_X5_beginPut_29 ?_
        refine lv_aload_n hx hb nD_X5_beginPut_32 rfl (lv_at hl 0 rfl) ?_
        refine va_get (D := D) (ci := 4) (v := .int (σ4.1 2)) (C := nR_X5) (T := nT_X5) (N := 10) hx hb hw wu_X5 hown hK hP 0 xc_0 rfl 5 (by decide) (hw _ wm_234) (fun _ h9 => h9) rfl nD_X5_beginPut_33 ?_
        obtain ⟨hi6, h⟩ := h
        refine va_aldq (D := D) hx hb hK hP 2 0 xc_2 rfl hi6 nD_X5_beginPut_36 ?_
        refine W.eq (g2 := F0 m 37 ls [.ref (a (11 + ((σ4.1 2).toNatClampNeg)))]) rfl ?_
        refine lv_iload_n hx hb nD_X5_beginPut_37 rfl (lv_at hl 1 rfl) ?_
        refine lv_iload_n hx hb nD_X5_beginPut_38 rfl (lv_at hl 2 rfl) ?_
        refine lv_aload_n hx hb nD_X5_beginPut_39 rfl (lv_at hl 0 rfl) ?_
        refine va_get (D := D) (ci := 4) (v := .int (σ4.1 3)) (C := nR_X5) (T := nT_X5) (N := 10) hx hb hw wu_X5 hown hK hP 0 xc_0 rfl 6 (by decide) (hw _ wm_235) (fun _ h9 => h9) rfl nD_X5_beginPut_40 ?_
        refine zC_v (va_runV (As := [.int x1, .int x2, .int (σ4.1 3)]) (rest := []) ⟨hx, hb, hml, hown, hw⟩ (c_X0_startPut l D tc a ((σ4.1 2).toNatClampNeg) x1 x2 (σ4.1 3) (zin hi6) σ4 _ h _) (mcV 3 hw wm_285 wm_282 wm_283 wm_284 wm_29 rfl rfl nh_X0_startPut ⟨Nat.le_of_ble_eq_true rfl, Nat.le_of_ble_eq_true rfl⟩) (zp_V (ci := 0) hP hD hK hn rfl (xcC (zin hi6))) rfl rfl hl.1 rfl (lv_room (Nat.le_of_ble_eq_true rfl)) nD_X5_beginPut_43 ⟨Nat.zero_le _, Nat.zero_le _⟩) hD hS hA (fun σ7 H locs h hP hD hS => ?_)
        refine lv_aload_n hx hb nD_X5_beginPut_46 rfl (lv_at hl 0 rfl) ?_
        refine lv_iload_n hx hb nD_X5_beginPut_47 rfl (lv_at hl 1 rfl) ?_
        refine zC_v (va_runV (As := [.int x1]) (rest := []) ⟨hx, hb, hml, hown, hw⟩ (c_X5_openNextCall l D tc a x1 σ7 _ h _) (mcV 1 hw wm_289 wm_286 wm_288 wm_9 wm_25 rfl rfl nh_X5_openNextCall ⟨Nat.le_of_ble_eq_true rfl, Nat.le_of_ble_eq_true rfl⟩) (zp_V (ci := 4) hP hD hK hn rfl xc_0) rfl rfl hl.1 rfl (lv_room (Nat.le_of_ble_eq_true rfl)) nD_X5_beginPut_48 ⟨Nat.zero_le _, Nat.zero_le _⟩) hD hS hA (fun σ8 H locs h hP hD hS => ?_)
        refine lv_aload_n hx hb nD_X5_beginPut_51 rfl (lv_at hl 0 rfl) ?_
        refine zC_v (va_runV (As := []) (rest := []) ⟨hx, hb, hml, hown, hw⟩ (c_X5_review l D tc a σ8 _ h _) (mcV 0 hw wm_146 wm_143 wm_145 wm_1 wm_25 rfl rfl nh_X5_review ⟨Nat.le_of_ble_eq_true rfl, Nat.le_of_ble_eq_true rfl⟩) (zp_V (ci := 4) hP hD hK hn rfl xc_0) rfl rfl hl.1 rfl (lv_room (Nat.le_of_ble_eq_true rfl)) nD_X5_beginPut_52 ⟨Nat.zero_le _, Nat.zero_le _⟩) hD hS hA (fun σ9 H locs h hP hD hS => ?_)
        refine lv_iconst (v := (1 : Int32)) hx hb nD_X5_beginPut_55 (by decide) ?_
        exact mw_z hx hb hr hlocks rfl ⟨σ9, rfl, h⟩ hP hK hD hS nD_X5_beginPut_56
      · have h := h.1 hc
        refine lv_iconst (v := (0 : Int32)) hx hb nD_X5_beginPut_26 (by decide) ?_
        exact mw_z hx hb hr hlocks rfl ⟨σ4, rfl, h⟩ hP hK hD hS nD_X5_beginPut_27
set_option maxHeartbeats 4000000 in
set_option maxRecDepth 100000 in
theorem c_X5_beginTake (l : Launch) (D : va_G) (tc : Nat → ClassId) (a : Nat → Nat) (x1 : Int32) (σ : zS) (post : Int32 → zS → Prop) (h : j_X5_beginTake x1 σ post) : mWi l nM_X5_beginTake nC_X5_beginTake 2 (some .boolean) ({ frames := 23, cells := 0, slots := 0, locals := 576 } : Room) D (ztX tc) [.ref (a 0), .int x1] (zX a tc σ) (zQi (zX a tc) post) := by
  intro sz
  refine mt_W (by decide) (Nat.le_of_ble_eq_true rfl) ?_
  intro p e s m below meth c ls hx hb hml hr hown hlocks hin hw hn hP hK hD hS hA hl hsz
  subst hsz
  have hl : lv_has ls 2 [(0, .ref (a 0)), (1, .int x1)] := hl
  unfold j_X5_beginTake at h
  refine lv_aload_n hx hb nD_X5_beginTake_0 rfl (lv_at hl 0 rfl) ?_
  refine lv_iload_n hx hb nD_X5_beginTake_1 rfl (lv_at hl 1 rfl) ?_
  refine zC_i (va_runV (As := [.int x1]) (rest := []) ⟨hx, hb, hml, hown, hw⟩ (c_X5_mayBegin l D tc a x1 σ _ h _) (mcV 1 hw wm_271 wm_268 wm_270 wm_8 wm_25 rfl rfl nh_X5_mayBegin ⟨Nat.le_of_ble_eq_true rfl, Nat.le_of_ble_eq_true rfl⟩) (zp_V (ci := 4) hP hD hK hn rfl xc_0) rfl rfl hl.1 rfl (lv_room (Nat.le_of_ble_eq_true rfl)) nD_X5_beginTake_2 ⟨Nat.zero_le _, Nat.zero_le _⟩) hD hS hA (fun r2 σ1 H locs h hP hD hS => ?_)
  refine lv_if_ne (tgt := 10) hx hb nD_X5_beginTake_5 (by decide) (fun hc => ?_) (fun hc => ?_)
  · have h := h.2 hc
    refine lv_aload_n hx hb nD_X5_beginTake_10 rfl (lv_at hl 0 rfl) ?_
    refine va_get (D := D) (ci := 4) (v := .ref (a 2)) (C := nR_X5) (T := nT_X5) (N := 10) hx hb hw wu_X5 hown hK hP 0 xc_0 rfl 1 (by decide) (hw _ wm_230) (fun _ h9 => h9) rfl nD_X5_beginTake_11 ?_
    refine lv_aload_n hx hb nD_X5_beginTake_14 rfl (lv_at hl 0 rfl) ?_
    refine va_get (D := D) (ci := 4) (v := .int (σ1.1 2)) (C := nR_X5) (T := nT_X5) (N := 10) hx hb hw wu_X5 hown hK hP 0 xc_0 rfl 5 (by decide) (hw _ wm_234) (fun _ h9 => h9) rfl nD_X5_beginTake_15 ?_
    obtain ⟨hi3, h⟩ := h
    refine va_aldq (D := D) hx hb hK hP 2 0 xc_2 rfl hi3 nD_X5_beginTake_18 ?_
    refine W.eq (g2 := F0 m 19 ls [.ref (a (11 + ((σ1.1 2).toNatClampNeg)))]) rfl ?_
    refine lv_iload_n hx hb nD_X5_beginTake_19 rfl (lv_at hl 1 rfl) ?_
    refine lv_aload_n hx hb nD_X5_beginTake_20 rfl (lv_at hl 0 rfl) ?_
    refine va_get (D := D) (ci := 4) (v := .int (σ1.1 3)) (C := nR_X5) (T := nT_X5) (N := 10) hx hb hw wu_X5 hown hK hP 0 xc_0 rfl 6 (by decide) (hw _ wm_235) (fun _ h9 => h9) rfl nD_X5_beginTake_21 ?_
    refine zC_v (va_runV (As := [.int x1, .int (σ1.1 3)]) (rest := []) ⟨hx, hb, hml, hown, hw⟩ (c_X0_startTake l D tc a ((σ1.1 2).toNatClampNeg) x1 (σ1.1 3) (zin hi3) σ1 _ h _) (mcV 2 hw wm_297 wm_294 wm_295 wm_296 wm_29 rfl rfl nh_X0_startTake ⟨Nat.le_of_ble_eq_true rfl, Nat.le_of_ble_eq_true rfl⟩) (zp_V (ci := 0) hP hD hK hn rfl (xcC (zin hi3))) rfl rfl hl.1 rfl (lv_room (Nat.le_of_ble_eq_true rfl)) nD_X5_beginTake_24 ⟨Nat.zero_le _, Nat.zero_le _⟩) hD hS hA (fun σ4 H locs h hP hD hS => ?_)
    refine lv_aload_n hx hb nD_X5_beginTake_27 rfl (lv_at hl 0 rfl) ?_
    refine lv_iload_n hx hb nD_X5_beginTake_28 rfl (lv_at hl 1 rfl) ?_
    refine zC_v (va_runV (As := [.int x1]) (rest := []) ⟨hx, hb, hml, hown, hw⟩ (c_X5_openNextCall l D tc a x1 σ4 _ h _) (mcV 1 hw wm_289 wm_286 wm_288 wm_9 wm_25 rfl rfl nh_X5_openNextCall ⟨Nat.le_of_ble_eq_true rfl, Nat.le_of_ble_eq_true rfl⟩) (zp_V (ci := 4) hP hD hK hn rfl xc_0) rfl rfl hl.1 rfl (lv_room (Nat.le_of_ble_eq_true rfl)) nD_X5_beginTake_29 ⟨Nat.zero_le _, Nat.zero_le _⟩) hD hS hA (fun σ5 H locs h hP hD hS => ?_)
    refine lv_aload_n hx hb nD_X5_beginTake_32 rfl (lv_at hl 0 rfl) ?_
    refine zC_v (va_runV (As := []) (rest := []) ⟨hx, hb, hml, hown, hw⟩ (c_X5_review l D tc a σ5 _ h _) (mcV 0 hw wm_146 wm_143 wm_145 wm_1 wm_25 rfl rfl nh_X5_review ⟨Nat.le_of_ble_eq_true rfl, Nat.le_of_ble_eq_true rfl⟩) (zp_V (ci := 4) hP hD hK hn rfl xc_0) rfl rfl hl.1 rfl (lv_room (Nat.le_of_ble_eq_true rfl)) nD_X5_beginTake_33 ⟨Nat.zero_le _, Nat.zero_le _⟩) hD hS hA (fun σ6 H locs h hP hD hS => ?_)
    refine lv_iconst (v := (1 : Int32)) hx hb nD_X5_beginTake_36 (by decide) ?_
    exact mw_z hx hb hr hlocks rfl ⟨σ6, rfl, h⟩ hP hK hD hS nD_X5_beginTake_37
  · have h := h.1 hc
    refine lv_iconst (v := (0 : Int32)) hx hb nD_X5_beginTake_8 (by decide) ?_
    exact mw_z hx hb hr hlocks rfl ⟨σ1, rfl, h⟩ hP hK hD hS nD_X5_beginTake_9
set_option maxHeartbeats 4000000 in
set_option maxRecDepth 100000 in
theorem c_X5_endPut (l : Launch) (D : va_G) (tc : Nat → ClassId) (a : Nat → Nat) (x1 : Int32) (x2 : Int32) (σ : zS) (post : Int32 → zS → Prop) (h : j_X5_endPut x1 x2 σ post) : mWi l nM_X5_endPut nC_X5_endPut 3 (some .boolean) ({ frames := 23, cells := 0, slots := 0, locals := 576 } : Room) D (ztX tc) [.ref (a 0), .int x1, .int x2] (zX a tc σ) (zQi (zX a tc) post) := by
  intro sz
  refine mt_W (by decide) (Nat.le_of_ble_eq_true rfl) ?_
  intro p e s m below meth c ls hx hb hml hr hown hlocks hin hw hn hP hK hD hS hA hl hsz
  subst hsz
  have hl : lv_has ls 3 [(0, .ref (a 0)), (1, .int x1), (2, .int x2)] := hl
  unfold j_X5_endPut at h
  refine lv_aload_n hx hb nD_X5_endPut_0 rfl (lv_at hl 0 rfl) ?_
  refine lv_iload_n hx hb nD_X5_endPut_1 rfl (lv_at hl 1 rfl) ?_
  refine zC_i (va_runV (As := [.int x1]) (rest := []) ⟨hx, hb, hml, hown, hw⟩ (c_X5_hasOpenCall l D tc a x1 σ _ h _) (mcV 1 hw wm_305 wm_302 wm_304 wm_10 wm_25 rfl rfl nh_X5_hasOpenCall ⟨Nat.le_of_ble_eq_true rfl, Nat.le_of_ble_eq_true rfl⟩) (zp_V (ci := 4) hP hD hK hn rfl xc_0) rfl rfl hl.1 rfl (lv_room (Nat.le_of_ble_eq_true rfl)) nD_X5_endPut_2 ⟨Nat.zero_le _, Nat.zero_le _⟩) hD hS hA (fun r2 σ1 H locs h hP hD hS => ?_)
  refine lv_if_eq (tgt := 25) hx hb nD_X5_endPut_5 (by decide) (fun hc => ?_) (fun hc => ?_)
  · have h := h.1 hc
    refine lv_iconst (v := (0 : Int32)) hx hb nD_X5_endPut_25 (by decide) ?_
    exact mw_z hx hb hr hlocks rfl ⟨σ1, rfl, h⟩ hP hK hD hS nD_X5_endPut_26
  · have h := h.2 hc
    refine lv_aload_n hx hb nD_X5_endPut_8 rfl (lv_at hl 0 rfl) ?_
    refine va_get (D := D) (ci := 4) (v := .ref (a 2)) (C := nR_X5) (T := nT_X5) (N := 10) hx hb hw wu_X5 hown hK hP 0 xc_0 rfl 1 (by decide) (hw _ wm_230) (fun _ h9 => h9) rfl nD_X5_endPut_9 ?_
    refine lv_aload_n hx hb nD_X5_endPut_12 rfl (lv_at hl 0 rfl) ?_
    refine va_get (D := D) (ci := 4) (v := .ref (a 3)) (C := nR_X5) (T := nT_X5) (N := 10) hx hb hw wu_X5 hown hK hP 0 xc_0 rfl 2 (by decide) (hw _ wm_231) (fun _ h9 => h9) rfl nD_X5_endPut_13 ?_
    refine lv_iload_n hx hb nD_X5_endPut_16 rfl (lv_at hl 1 rfl) ?_
    obtain ⟨hi3, h⟩ := h
    refine va_iald (D := D) hx hb hK hP 3 1 xc_3 rfl hi3 nD_X5_endPut_17 ?_
    obtain ⟨hi4, h⟩ := h
    refine va_aldq (D := D) hx hb hK hP 2 0 xc_2 rfl hi4 nD_X5_endPut_18 ?_
    refine W.eq (g2 := F0 m 19 ls [.ref (a (11 + ((σ1.2.1 0 x1.toNatClampNeg).toNatClampNeg)))]) rfl ?_
    refine va_getN (D := D) (ci := 0) (v := .int (σ1.2.1 6 ((σ1.2.1 0 x1.toNatClampNeg).toNatClampNeg))) (C := nR_X0) (T := nT_X0) (N := 5) hx hb hw wu_X0 hown hK hP (11 + ((σ1.2.1 0 x1.toNatClampNeg).toNatClampNeg)) (xcC (zin hi4)) rfl 1 (by decide) (hn.use wn_109) (fun _ h9 => h9) rfl nD_X5_endPut_19 ?_
    refine lv_if_ne (tgt := 27) hx hb nD_X5_endPut_22 (by decide) (fun hc => ?_) (fun hc => ?_)
    · have h := h.2 hc
      refine lv_aload_n hx hb nD_X5_endPut_27 rfl (lv_at hl 0 rfl) ?_
      refine lv_iload_n hx hb nD_X5_endPut_28 rfl (lv_at hl 1 rfl) ?_
      refine lv_iload_n hx hb nD_X5_endPut_29 rfl (lv_at hl 2 rfl) ?_
      refine lv_if_eq (tgt := 37) hx hb nD_X5_endPut_30 (by decide) (fun hc => ?_) (fun hc => ?_)
      · have h := h.1 hc
        refine lv_iconst (v := (0 : Int32)) hx hb nD_X5_endPut_37 (by decide) ?_
        refine zC_v (va_runV (As := [.int x1, .int (0 : Int32)]) (rest := []) ⟨hx, hb, hml, hown, hw⟩ (c_X5_endOpenCall l D tc a x1 (0 : Int32) σ1 _ h _) (mcV 2 hw wm_309 wm_306 wm_308 wm_11 wm_25 rfl rfl nh_X5_endOpenCall ⟨Nat.le_of_ble_eq_true rfl, Nat.le_of_ble_eq_true rfl⟩) (zp_V (ci := 4) hP hD hK hn rfl xc_0) rfl rfl hl.1 rfl (lv_room (Nat.le_of_ble_eq_true rfl)) nD_X5_endPut_38 ⟨Nat.zero_le _, Nat.zero_le _⟩) hD hS hA (fun σ5 H locs h hP hD hS => ?_)
        refine lv_aload_n hx hb nD_X5_endPut_41 rfl (lv_at hl 0 rfl) ?_
        refine zC_v (va_runV (As := []) (rest := []) ⟨hx, hb, hml, hown, hw⟩ (c_X5_review l D tc a σ5 _ h _) (mcV 0 hw wm_146 wm_143 wm_145 wm_1 wm_25 rfl rfl nh_X5_review ⟨Nat.le_of_ble_eq_true rfl, Nat.le_of_ble_eq_true rfl⟩) (zp_V (ci := 4) hP hD hK hn rfl xc_0) rfl rfl hl.1 rfl (lv_room (Nat.le_of_ble_eq_true rfl)) nD_X5_endPut_42 ⟨Nat.zero_le _, Nat.zero_le _⟩) hD hS hA (fun σ6 H locs h hP hD hS => ?_)
        refine lv_iconst (v := (1 : Int32)) hx hb nD_X5_endPut_45 (by decide) ?_
        exact mw_z hx hb hr hlocks rfl ⟨σ6, rfl, h⟩ hP hK hD hS nD_X5_endPut_46
      · have h := h.2 hc
        refine lv_iconst (v := (1 : Int32)) hx hb nD_X5_endPut_33 (by decide) ?_
        refine lv_goto (tgt := 38) hx hb nD_X5_endPut_34 (by decide) ?_
        refine zC_v (va_runV (As := [.int x1, .int (1 : Int32)]) (rest := []) ⟨hx, hb, hml, hown, hw⟩ (c_X5_endOpenCall l D tc a x1 (1 : Int32) σ1 _ h _) (mcV 2 hw wm_309 wm_306 wm_308 wm_11 wm_25 rfl rfl nh_X5_endOpenCall ⟨Nat.le_of_ble_eq_true rfl, Nat.le_of_ble_eq_true rfl⟩) (zp_V (ci := 4) hP hD hK hn rfl xc_0) rfl rfl hl.1 rfl (lv_room (Nat.le_of_ble_eq_true rfl)) nD_X5_endPut_38 ⟨Nat.zero_le _, Nat.zero_le _⟩) hD hS hA (fun σ7 H locs h hP hD hS => ?_)
        refine lv_aload_n hx hb nD_X5_endPut_41 rfl (lv_at hl 0 rfl) ?_
        refine zC_v (va_runV (As := []) (rest := []) ⟨hx, hb, hml, hown, hw⟩ (c_X5_review l D tc a σ7 _ h _) (mcV 0 hw wm_146 wm_143 wm_145 wm_1 wm_25 rfl rfl nh_X5_review ⟨Nat.le_of_ble_eq_true rfl, Nat.le_of_ble_eq_true rfl⟩) (zp_V (ci := 4) hP hD hK hn rfl xc_0) rfl rfl hl.1 rfl (lv_room (Nat.le_of_ble_eq_true rfl)) nD_X5_endPut_42 ⟨Nat.zero_le _, Nat.zero_le _⟩) hD hS hA (fun σ8 H locs h hP hD hS => ?_)
        refine lv_iconst (v := (1 : Int32)) hx hb nD_X5_endPut_45 (by decide) ?_
        exact mw_z hx hb hr hlocks rfl ⟨σ8, rfl, h⟩ hP hK hD hS nD_X5_endPut_46
    · have h := h.1 hc
      refine lv_iconst (v := (0 : Int32)) hx hb nD_X5_endPut_25 (by decide) ?_
      exact mw_z hx hb hr hlocks rfl ⟨σ1, rfl, h⟩ hP hK hD hS nD_X5_endPut_26
set_option maxHeartbeats 4000000 in
set_option maxRecDepth 100000 in
theorem c_X5_endTake (l : Launch) (D : va_G) (tc : Nat → ClassId) (a : Nat → Nat) (x1 : Int32) (x2 : Int32) (σ : zS) (post : Int32 → zS → Prop) (h : j_X5_endTake x1 x2 σ post) : mWi l nM_X5_endTake nC_X5_endTake 3 (some .boolean) ({ frames := 23, cells := 0, slots := 0, locals := 576 } : Room) D (ztX tc) [.ref (a 0), .int x1, .int x2] (zX a tc σ) (zQi (zX a tc) post) := by
  intro sz
  refine mt_W (by decide) (Nat.le_of_ble_eq_true rfl) ?_
  intro p e s m below meth c ls hx hb hml hr hown hlocks hin hw hn hP hK hD hS hA hl hsz
  subst hsz
  have hl : lv_has ls 3 [(0, .ref (a 0)), (1, .int x1), (2, .int x2)] := hl
  unfold j_X5_endTake at h
  refine lv_aload_n hx hb nD_X5_endTake_0 rfl (lv_at hl 0 rfl) ?_
  refine lv_iload_n hx hb nD_X5_endTake_1 rfl (lv_at hl 1 rfl) ?_
  refine zC_i (va_runV (As := [.int x1]) (rest := []) ⟨hx, hb, hml, hown, hw⟩ (c_X5_hasOpenCall l D tc a x1 σ _ h _) (mcV 1 hw wm_305 wm_302 wm_304 wm_10 wm_25 rfl rfl nh_X5_hasOpenCall ⟨Nat.le_of_ble_eq_true rfl, Nat.le_of_ble_eq_true rfl⟩) (zp_V (ci := 4) hP hD hK hn rfl xc_0) rfl rfl hl.1 rfl (lv_room (Nat.le_of_ble_eq_true rfl)) nD_X5_endTake_2 ⟨Nat.zero_le _, Nat.zero_le _⟩) hD hS hA (fun r2 σ1 H locs h hP hD hS => ?_)
  refine lv_if_eq (tgt := 25) hx hb nD_X5_endTake_5 (by decide) (fun hc => ?_) (fun hc => ?_)
  · have h := h.1 hc
    refine lv_iconst (v := (0 : Int32)) hx hb nD_X5_endTake_25 (by decide) ?_
    exact mw_z hx hb hr hlocks rfl ⟨σ1, rfl, h⟩ hP hK hD hS nD_X5_endTake_26
  · have h := h.2 hc
    refine lv_aload_n hx hb nD_X5_endTake_8 rfl (lv_at hl 0 rfl) ?_
    refine va_get (D := D) (ci := 4) (v := .ref (a 2)) (C := nR_X5) (T := nT_X5) (N := 10) hx hb hw wu_X5 hown hK hP 0 xc_0 rfl 1 (by decide) (hw _ wm_230) (fun _ h9 => h9) rfl nD_X5_endTake_9 ?_
    refine lv_aload_n hx hb nD_X5_endTake_12 rfl (lv_at hl 0 rfl) ?_
    refine va_get (D := D) (ci := 4) (v := .ref (a 3)) (C := nR_X5) (T := nT_X5) (N := 10) hx hb hw wu_X5 hown hK hP 0 xc_0 rfl 2 (by decide) (hw _ wm_231) (fun _ h9 => h9) rfl nD_X5_endTake_13 ?_
    refine lv_iload_n hx hb nD_X5_endTake_16 rfl (lv_at hl 1 rfl) ?_
    obtain ⟨hi3, h⟩ := h
    refine va_iald (D := D) hx hb hK hP 3 1 xc_3 rfl hi3 nD_X5_endTake_17 ?_
    obtain ⟨hi4, h⟩ := h
    refine va_aldq (D := D) hx hb hK hP 2 0 xc_2 rfl hi4 nD_X5_endTake_18 ?_
    refine W.eq (g2 := F0 m 19 ls [.ref (a (11 + ((σ1.2.1 0 x1.toNatClampNeg).toNatClampNeg)))]) rfl ?_
    refine va_getN (D := D) (ci := 0) (v := .int (σ1.2.1 6 ((σ1.2.1 0 x1.toNatClampNeg).toNatClampNeg))) (C := nR_X0) (T := nT_X0) (N := 5) hx hb hw wu_X0 hown hK hP (11 + ((σ1.2.1 0 x1.toNatClampNeg).toNatClampNeg)) (xcC (zin hi4)) rfl 1 (by decide) (hn.use wn_109) (fun _ h9 => h9) rfl nD_X5_endTake_19 ?_
    refine lv_if_eq (tgt := 27) hx hb nD_X5_endTake_22 (by decide) (fun hc => ?_) (fun hc => ?_)
    · have h := h.1 hc
      refine lv_iload_n hx hb nD_X5_endTake_27 rfl (lv_at hl 2 rfl) ?_
      refine lv_iconst (v := (-1 : Int32)) hx hb nD_X5_endTake_28 (by decide) ?_
      refine lv_icmp_eq (tgt := 41) hx hb nD_X5_endTake_29 (by decide) (fun hc => ?_) (fun hc => ?_)
      · have h := h.1 hc
        refine lv_aload_n hx hb nD_X5_endTake_41 rfl (lv_at hl 0 rfl) ?_
        refine lv_iload_n hx hb nD_X5_endTake_42 rfl (lv_at hl 1 rfl) ?_
        refine lv_iload_n hx hb nD_X5_endTake_43 rfl (lv_at hl 2 rfl) ?_
        refine zC_v (va_runV (As := [.int x1, .int x2]) (rest := []) ⟨hx, hb, hml, hown, hw⟩ (c_X5_endOpenCall l D tc a x1 x2 σ1 _ h _) (mcV 2 hw wm_309 wm_306 wm_308 wm_11 wm_25 rfl rfl nh_X5_endOpenCall ⟨Nat.le_of_ble_eq_true rfl, Nat.le_of_ble_eq_true rfl⟩) (zp_V (ci := 4) hP hD hK hn rfl xc_0) rfl rfl hl.1 rfl (lv_room (Nat.le_of_ble_eq_true rfl)) nD_X5_endTake_44 ⟨Nat.zero_le _, Nat.zero_le _⟩) hD hS hA (fun σ5 H locs h hP hD hS => ?_)
        refine lv_aload_n hx hb nD_X5_endTake_47 rfl (lv_at hl 0 rfl) ?_
        refine zC_v (va_runV (As := []) (rest := []) ⟨hx, hb, hml, hown, hw⟩ (c_X5_review l D tc a σ5 _ h _) (mcV 0 hw wm_146 wm_143 wm_145 wm_1 wm_25 rfl rfl nh_X5_review ⟨Nat.le_of_ble_eq_true rfl, Nat.le_of_ble_eq_true rfl⟩) (zp_V (ci := 4) hP hD hK hn rfl xc_0) rfl rfl hl.1 rfl (lv_room (Nat.le_of_ble_eq_true rfl)) nD_X5_endTake_48 ⟨Nat.zero_le _, Nat.zero_le _⟩) hD hS hA (fun σ6 H locs h hP hD hS => ?_)
        refine lv_iconst (v := (1 : Int32)) hx hb nD_X5_endTake_51 (by decide) ?_
        exact mw_z hx hb hr hlocks rfl ⟨σ6, rfl, h⟩ hP hK hD hS nD_X5_endTake_52
      · have h := h.2 hc
        refine lv_iload_n hx hb nD_X5_endTake_32 rfl (lv_at hl 2 rfl) ?_
        refine vp_callSi (W.runS (As := [.int x2]) (rest := []) ⟨hx, hb, hml, hown, hw⟩ (c_X5_isValue l x2 _ h) (mcS 1 hw wm_277 wm_275 wm_276 wm_25 rfl rfl nh_X5_isValue ⟨Nat.le_of_ble_eq_true rfl, Nat.le_of_ble_eq_true rfl⟩) mp_S rfl rfl hl.1 rfl (lv_room (Nat.le_of_ble_eq_true rfl)) nD_X5_endTake_33 ⟨Nat.zero_le _, Nat.zero_le _⟩) (fun r7 h => ?_)
        refine lv_if_ne (tgt := 41) hx hb nD_X5_endTake_36 (by decide) (fun hc => ?_) (fun hc => ?_)
        · have h := h.2 hc
          refine lv_aload_n hx hb nD_X5_endTake_41 rfl (lv_at hl 0 rfl) ?_
          refine lv_iload_n hx hb nD_X5_endTake_42 rfl (lv_at hl 1 rfl) ?_
          refine lv_iload_n hx hb nD_X5_endTake_43 rfl (lv_at hl 2 rfl) ?_
          refine zC_v (va_runV (As := [.int x1, .int x2]) (rest := []) ⟨hx, hb, hml, hown, hw⟩ (c_X5_endOpenCall l D tc a x1 x2 σ1 _ h _) (mcV 2 hw wm_309 wm_306 wm_308 wm_11 wm_25 rfl rfl nh_X5_endOpenCall ⟨Nat.le_of_ble_eq_true rfl, Nat.le_of_ble_eq_true rfl⟩) (zp_V (ci := 4) hP hD hK hn rfl xc_0) rfl rfl hl.1 rfl (lv_room (Nat.le_of_ble_eq_true rfl)) nD_X5_endTake_44 ⟨Nat.zero_le _, Nat.zero_le _⟩) hD hS hA (fun σ8 H locs h hP hD hS => ?_)
          refine lv_aload_n hx hb nD_X5_endTake_47 rfl (lv_at hl 0 rfl) ?_
          refine zC_v (va_runV (As := []) (rest := []) ⟨hx, hb, hml, hown, hw⟩ (c_X5_review l D tc a σ8 _ h _) (mcV 0 hw wm_146 wm_143 wm_145 wm_1 wm_25 rfl rfl nh_X5_review ⟨Nat.le_of_ble_eq_true rfl, Nat.le_of_ble_eq_true rfl⟩) (zp_V (ci := 4) hP hD hK hn rfl xc_0) rfl rfl hl.1 rfl (lv_room (Nat.le_of_ble_eq_true rfl)) nD_X5_endTake_48 ⟨Nat.zero_le _, Nat.zero_le _⟩) hD hS hA (fun σ9 H locs h hP hD hS => ?_)
          refine lv_iconst (v := (1 : Int32)) hx hb nD_X5_endTake_51 (by decide) ?_
          exact mw_z hx hb hr hlocks rfl ⟨σ9, rfl, h⟩ hP hK hD hS nD_X5_endTake_52
        · have h := h.1 hc
          refine lv_iconst (v := (0 : Int32)) hx hb nD_X5_endTake_39 (by decide) ?_
          exact mw_z hx hb hr hlocks rfl ⟨σ1, rfl, h⟩ hP hK hD hS nD_X5_endTake_40
    · have h := h.2 hc
      refine lv_iconst (v := (0 : Int32)) hx hb nD_X5_endTake_25 (by decide) ?_
      exact mw_z hx hb hr hlocks rfl ⟨σ1, rfl, h⟩ hP hK hD hS nD_X5_endTake_26
set_option maxHeartbeats 4000000 in
set_option maxRecDepth 100000 in
theorem c_X5_giveUp (l : Launch) (D : va_G) (tc : Nat → ClassId) (a : Nat → Nat) (x1 : Int32) (σ : zS) (post : Int32 → zS → Prop) (h : j_X5_giveUp x1 σ post) : mWi l nM_X5_giveUp nC_X5_giveUp 2 (some .boolean) ({ frames := 23, cells := 0, slots := 0, locals := 576 } : Room) D (ztX tc) [.ref (a 0), .int x1] (zX a tc σ) (zQi (zX a tc) post) := by
  intro sz
  refine mt_W (by decide) (Nat.le_of_ble_eq_true rfl) ?_
  intro p e s m below meth c ls hx hb hml hr hown hlocks hin hw hn hP hK hD hS hA hl hsz
  subst hsz
  have hl : lv_has ls 2 [(0, .ref (a 0)), (1, .int x1)] := hl
  unfold j_X5_giveUp at h
  refine lv_aload_n hx hb nD_X5_giveUp_0 rfl (lv_at hl 0 rfl) ?_
  refine lv_iload_n hx hb nD_X5_giveUp_1 rfl (lv_at hl 1 rfl) ?_
  refine zC_i (va_runV (As := [.int x1]) (rest := []) ⟨hx, hb, hml, hown, hw⟩ (c_X5_hasOpenCall l D tc a x1 σ _ h _) (mcV 1 hw wm_305 wm_302 wm_304 wm_10 wm_25 rfl rfl nh_X5_hasOpenCall ⟨Nat.le_of_ble_eq_true rfl, Nat.le_of_ble_eq_true rfl⟩) (zp_V (ci := 4) hP hD hK hn rfl xc_0) rfl rfl hl.1 rfl (lv_room (Nat.le_of_ble_eq_true rfl)) nD_X5_giveUp_2 ⟨Nat.zero_le _, Nat.zero_le _⟩) hD hS hA (fun r2 σ1 H locs h hP hD hS => ?_)
  refine lv_if_ne (tgt := 10) hx hb nD_X5_giveUp_5 (by decide) (fun hc => ?_) (fun hc => ?_)
  · have h := h.2 hc
    refine lv_aload_n hx hb nD_X5_giveUp_10 rfl (lv_at hl 0 rfl) ?_
    refine lv_dup hx hb nD_X5_giveUp_11 rfl ?_
    refine va_get (D := D) (ci := 4) (v := .int (σ1.1 4)) (C := nR_X5) (T := nT_X5) (N := 10) hx hb hw wu_X5 hown hK hP 0 xc_0 rfl 7 (by decide) (hw _ wm_236) (fun _ h9 => h9) rfl nD_X5_giveUp_12 ?_
    refine lv_iconst (v := (1 : Int32)) hx hb nD_X5_giveUp_15 (by decide) ?_
    refine lv_aload_n hx hb nD_X5_giveUp_16 rfl (lv_at hl 0 rfl) ?_
    refine va_get (D := D) (ci := 4) (v := .ref (a 3)) (C := nR_X5) (T := nT_X5) (N := 10) hx hb hw wu_X5 hown hK hP 0 xc_0 rfl 2 (by decide) (hw _ wm_231) (fun _ h9 => h9) rfl nD_X5_giveUp_17 ?_
    refine lv_iload_n hx hb nD_X5_giveUp_20 rfl (lv_at hl 1 rfl) ?_
    obtain ⟨hi3, h⟩ := h
    refine va_iald (D := D) hx hb hK hP 3 1 xc_3 rfl hi3 nD_X5_giveUp_21 ?_
    refine lv_ishl hx hb nD_X5_giveUp_22 ?_
    refine lv_ior hx hb nD_X5_giveUp_23 ?_
    refine va_put (D := D) (ci := 4) (v := .int ((σ1.1 4) ||| ((1 : Int32) <<< ((σ1.2.1 0 x1.toNatClampNeg) &&& 31)))) (ty := .int) (C := nR_X5) (T := nT_X5) (N := 10) hx hb hw wu_X5 nY_X5 nO_X5 nN_X5 hown hK hP hD hS 0 xc_0 rfl 7 (by decide) (hw _ wm_236) (fun _ h9 => h9) rfl (by decide +kernel) rfl rfl (Nat.le_of_ble_eq_true rfl) nD_X5_giveUp_24 (fun H locs hP hD hS => ?_)
    obtain ⟨σ4, e_σ4⟩ : ∃ z : zS, z = zI σ1 4 ((σ1.1 4) ||| ((1 : Int32) <<< ((σ1.2.1 0 x1.toNatClampNeg) &&& 31))) := ⟨_, rfl⟩
    obtain ⟨hP, hD⟩ := znew (w := zX a tc) e_σ4 (xp_0_7) hP hD
    have h := h σ4 e_σ4
    clear e_σ4
    refine lv_aload_n hx hb nD_X5_giveUp_27 rfl (lv_at hl 0 rfl) ?_
    refine lv_iload_n hx hb nD_X5_giveUp_28 rfl (lv_at hl 1 rfl) ?_
    refine zC_v (va_runV (As := [.int x1]) (rest := []) ⟨hx, hb, hml, hown, hw⟩ (c_X5_closeOpenCall l D tc a x1 σ4 _ h _) (mcV 1 hw wm_313 wm_310 wm_312 wm_12 wm_25 rfl rfl nh_X5_closeOpenCall ⟨Nat.le_of_ble_eq_true rfl, Nat.le_of_ble_eq_true rfl⟩) (zp_V (ci := 4) hP hD hK hn rfl xc_0) rfl rfl hl.1 rfl (lv_room (Nat.le_of_ble_eq_true rfl)) nD_X5_giveUp_29 ⟨Nat.zero_le _, Nat.zero_le _⟩) hD hS hA (fun σ5 H locs h hP hD hS => ?_)
    refine lv_aload_n hx hb nD_X5_giveUp_32 rfl (lv_at hl 0 rfl) ?_
    refine zC_v (va_runV (As := []) (rest := []) ⟨hx, hb, hml, hown, hw⟩ (c_X5_review l D tc a σ5 _ h _) (mcV 0 hw wm_146 wm_143 wm_145 wm_1 wm_25 rfl rfl nh_X5_review ⟨Nat.le_of_ble_eq_true rfl, Nat.le_of_ble_eq_true rfl⟩) (zp_V (ci := 4) hP hD hK hn rfl xc_0) rfl rfl hl.1 rfl (lv_room (Nat.le_of_ble_eq_true rfl)) nD_X5_giveUp_33 ⟨Nat.zero_le _, Nat.zero_le _⟩) hD hS hA (fun σ6 H locs h hP hD hS => ?_)
    refine lv_iconst (v := (1 : Int32)) hx hb nD_X5_giveUp_36 (by decide) ?_
    exact mw_z hx hb hr hlocks rfl ⟨σ6, rfl, h⟩ hP hK hD hS nD_X5_giveUp_37
  · have h := h.1 hc
    refine lv_iconst (v := (0 : Int32)) hx hb nD_X5_giveUp_8 (by decide) ?_
    exact mw_z hx hb hr hlocks rfl ⟨σ1, rfl, h⟩ hP hK hD hS nD_X5_giveUp_9
