set_option maxHeartbeats 4000000 in
set_option maxRecDepth 100000 in
theorem c_X5_hasOpenCall (l : Launch) (D : va_G) (tc : Nat → ClassId) (a : Nat → Nat) (x1 : Int32) (σ : zS) (post : Int32 → zS → Prop) (h : j_X5_hasOpenCall x1 σ post) : mWi l nM_X5_hasOpenCall nC_X5_hasOpenCall 2 (some .boolean) ({ frames := 1, cells := 0, slots := 0, locals := 20 } : Room) D (ztX tc) [.ref (a 0), .int x1] (zX a tc σ) (zQi (zX a tc) post) := by
  intro sz
  refine mt_W (by decide) (Nat.le_of_ble_eq_true rfl) ?_
  intro p e s m below meth c ls hx hb hml hr hown hlocks hin hw hn hP hK hD hS hA hl hsz
  subst hsz
  have hl : lv_has ls 2 [(0, .ref (a 0)), (1, .int x1)] := hl
  unfold j_X5_hasOpenCall at h
  refine lv_iload_n hx hb nD_X5_hasOpenCall_0 rfl (lv_at hl 1 rfl) ?_
  refine vp_callSi (W.runS (As := [.int x1]) (rest := []) ⟨hx, hb, hml, hown, hw⟩ (c_X5_isWorker l x1 _ h) (mcS 1 hw wm_274 wm_272 wm_273 wm_25 rfl rfl nh_X5_isWorker ⟨Nat.le_of_ble_eq_true rfl, Nat.le_of_ble_eq_true rfl⟩) mp_S rfl rfl hl.1 rfl (lv_room (Nat.le_of_ble_eq_true rfl)) nD_X5_hasOpenCall_1 ⟨Nat.zero_le _, Nat.zero_le _⟩) (fun r1 h => ?_)
  refine lv_if_eq (tgt := 21) hx hb nD_X5_hasOpenCall_4 (by decide) (fun hc => ?_) (fun hc => ?_)
  · have h := h.1 hc
    refine lv_iconst (v := (0 : Int32)) hx hb nD_X5_hasOpenCall_21 (by decide) ?_
    exact mw_z hx hb hr hlocks rfl ⟨σ, rfl, h⟩ hP hK hD hS nD_X5_hasOpenCall_22
  · have h := h.2 hc
    refine lv_aload_n hx hb nD_X5_hasOpenCall_7 rfl (lv_at hl 0 rfl) ?_
    refine va_get (D := D) (ci := 4) (v := .ref (a 3)) (C := nR_X5) (T := nT_X5) (N := 10) hx hb hw wu_X5 hown hK hP 0 xc_0 rfl 2 (by decide) (hw _ wm_231) (fun _ h9 => h9) rfl nD_X5_hasOpenCall_8 ?_
    refine lv_iload_n hx hb nD_X5_hasOpenCall_11 rfl (lv_at hl 1 rfl) ?_
    obtain ⟨hi2, h⟩ := h
    refine va_iald (D := D) hx hb hK hP 3 1 xc_3 rfl hi2 nD_X5_hasOpenCall_12 ?_
    refine lv_iconst (v := (-1 : Int32)) hx hb nD_X5_hasOpenCall_13 (by decide) ?_
    refine lv_icmp_eq (tgt := 21) hx hb nD_X5_hasOpenCall_14 (by decide) (fun hc => ?_) (fun hc => ?_)
    · have h := h.1 hc
      refine lv_iconst (v := (0 : Int32)) hx hb nD_X5_hasOpenCall_21 (by decide) ?_
      exact mw_z hx hb hr hlocks rfl ⟨σ, rfl, h⟩ hP hK hD hS nD_X5_hasOpenCall_22
    · have h := h.2 hc
      refine lv_iconst (v := (1 : Int32)) hx hb nD_X5_hasOpenCall_17 (by decide) ?_
      refine lv_goto (tgt := 22) hx hb nD_X5_hasOpenCall_18 (by decide) ?_
      exact mw_z hx hb hr hlocks rfl ⟨σ, rfl, h⟩ hP hK hD hS nD_X5_hasOpenCall_22
set_option maxHeartbeats 4000000 in
set_option maxRecDepth 100000 in
theorem c_X5_mayBegin (l : Launch) (D : va_G) (tc : Nat → ClassId) (a : Nat → Nat) (x1 : Int32) (σ : zS) (post : Int32 → zS → Prop) (h : j_X5_mayBegin x1 σ post) : mWi l nM_X5_mayBegin nC_X5_mayBegin 2 (some .boolean) ({ frames := 1, cells := 0, slots := 0, locals := 20 } : Room) D (ztX tc) [.ref (a 0), .int x1] (zX a tc σ) (zQi (zX a tc) post) := by
  intro sz
  refine mt_W (by decide) (Nat.le_of_ble_eq_true rfl) ?_
  intro p e s m below meth c ls hx hb hml hr hown hlocks hin hw hn hP hK hD hS hA hl hsz
  subst hsz
  have hl : lv_has ls 2 [(0, .ref (a 0)), (1, .int x1)] := hl
  unfold j_X5_mayBegin at h
  refine lv_iload_n hx hb nD_X5_mayBegin_0 rfl (lv_at hl 1 rfl) ?_
  refine vp_callSi (W.runS (As := [.int x1]) (rest := []) ⟨hx, hb, hml, hown, hw⟩ (c_X5_isWorker l x1 _ h) (mcS 1 hw wm_274 wm_272 wm_273 wm_25 rfl rfl nh_X5_isWorker ⟨Nat.le_of_ble_eq_true rfl, Nat.le_of_ble_eq_true rfl⟩) mp_S rfl rfl hl.1 rfl (lv_room (Nat.le_of_ble_eq_true rfl)) nD_X5_mayBegin_1 ⟨Nat.zero_le _, Nat.zero_le _⟩) (fun r1 h => ?_)
  refine lv_if_eq (tgt := 30) hx hb nD_X5_mayBegin_4 (by decide) (fun hc => ?_) (fun hc => ?_)
  · have h := h.1 hc
    refine lv_iconst (v := (0 : Int32)) hx hb nD_X5_mayBegin_30 (by decide) ?_
    exact mw_z hx hb hr hlocks rfl ⟨σ, rfl, h⟩ hP hK hD hS nD_X5_mayBegin_31
  · have h := h.2 hc
    refine lv_aload_n hx hb nD_X5_mayBegin_7 rfl (lv_at hl 0 rfl) ?_
    refine va_get (D := D) (ci := 4) (v := .ref (a 3)) (C := nR_X5) (T := nT_X5) (N := 10) hx hb hw wu_X5 hown hK hP 0 xc_0 rfl 2 (by decide) (hw _ wm_231) (fun _ h9 => h9) rfl nD_X5_mayBegin_8 ?_
    refine lv_iload_n hx hb nD_X5_mayBegin_11 rfl (lv_at hl 1 rfl) ?_
    obtain ⟨hi2, h⟩ := h
    refine va_iald (D := D) hx hb hK hP 3 1 xc_3 rfl hi2 nD_X5_mayBegin_12 ?_
    refine lv_iconst (v := (-1 : Int32)) hx hb nD_X5_mayBegin_13 (by decide) ?_
    refine lv_icmp_ne (tgt := 30) hx hb nD_X5_mayBegin_14 (by decide) (fun hc => ?_) (fun hc => ?_)
    · have h := h.2 hc
      refine lv_iconst (v := (0 : Int32)) hx hb nD_X5_mayBegin_30 (by decide) ?_
      exact mw_z hx hb hr hlocks rfl ⟨σ, rfl, h⟩ hP hK hD hS nD_X5_mayBegin_31
    · have h := h.1 hc
      refine lv_aload_n hx hb nD_X5_mayBegin_17 rfl (lv_at hl 0 rfl) ?_
      refine va_get (D := D) (ci := 4) (v := .int (σ.1 2)) (C := nR_X5) (T := nT_X5) (N := 10) hx hb hw wu_X5 hown hK hP 0 xc_0 rfl 5 (by decide) (hw _ wm_234) (fun _ h9 => h9) rfl nD_X5_mayBegin_18 ?_
      refine lv_bipush (v := (8 : Int32)) hx hb nD_X5_mayBegin_21 (by decide) ?_
      refine lv_icmp_ge (tgt := 30) hx hb nD_X5_mayBegin_23 (by decide) (fun hc => ?_) (fun hc => ?_)
      · have h := h.1 hc
        refine lv_iconst (v := (0 : Int32)) hx hb nD_X5_mayBegin_30 (by decide) ?_
        exact mw_z hx hb hr hlocks rfl ⟨σ, rfl, h⟩ hP hK hD hS nD_X5_mayBegin_31
      · have h := h.2 hc
        refine lv_iconst (v := (1 : Int32)) hx hb nD_X5_mayBegin_26 (by decide) ?_
        refine lv_goto (tgt := 31) hx hb nD_X5_mayBegin_27 (by decide) ?_
        exact mw_z hx hb hr hlocks rfl ⟨σ, rfl, h⟩ hP hK hD hS nD_X5_mayBegin_31
set_option maxHeartbeats 4000000 in
set_option maxRecDepth 100000 in
theorem c_X5_openNextCall (l : Launch) (D : va_G) (tc : Nat → ClassId) (a : Nat → Nat) (x1 : Int32) (σ : zS) (post : zS → Prop) (h : j_X5_openNextCall x1 σ post) : mWv l nM_X5_openNextCall nC_X5_openNextCall 2 ({ frames := 0, cells := 0, slots := 0, locals := 0 } : Room) D (ztX tc) [.ref (a 0), .int x1] (zX a tc σ) (zQv (zX a tc) post) := by
  intro sz
  refine mt_W (by decide) (Nat.le_of_ble_eq_true rfl) ?_
  intro p e s m below meth c ls hx hb hml hr hown hlocks hin hw hn hP hK hD hS hA hl hsz
  subst hsz
  have hl : lv_has ls 2 [(0, .ref (a 0)), (1, .int x1)] := hl
  unfold j_X5_openNextCall at h
  refine lv_aload_n hx hb nD_X5_openNextCall_0 rfl (lv_at hl 0 rfl) ?_
  refine va_get (D := D) (ci := 4) (v := .ref (a 3)) (C := nR_X5) (T := nT_X5) (N := 10) hx hb hw wu_X5 hown hK hP 0 xc_0 rfl 2 (by decide) (hw _ wm_231) (fun _ h9 => h9) rfl nD_X5_openNextCall_1 ?_
  refine lv_iload_n hx hb nD_X5_openNextCall_4 rfl (lv_at hl 1 rfl) ?_
  refine lv_aload_n hx hb nD_X5_openNextCall_5 rfl (lv_at hl 0 rfl) ?_
  refine va_get (D := D) (ci := 4) (v := .int (σ.1 2)) (C := nR_X5) (T := nT_X5) (N := 10) hx hb hw wu_X5 hown hK hP 0 xc_0 rfl 5 (by decide) (hw _ wm_234) (fun _ h9 => h9) rfl nD_X5_openNextCall_6 ?_
  obtain ⟨hi1, h⟩ := h
  refine va_iast (D := D) hx hb hK hP hD hS 3 1 xc_3 rfl hi1 nD_X5_openNextCall_9 (fun H locs hP hD hS => ?_)
  obtain ⟨σ2, e_σ2⟩ : ∃ z : zS, z = zA σ 0 x1.toNatClampNeg (σ.1 2) := ⟨_, rfl⟩
  obtain ⟨hP, hD⟩ := znew (w := zX a tc) e_σ2 (xa_3) hP hD
  have h := h σ2 e_σ2
  clear e_σ2
  refine lv_aload_n hx hb nD_X5_openNextCall_10 rfl (lv_at hl 0 rfl) ?_
  refine lv_dup hx hb nD_X5_openNextCall_11 rfl ?_
  refine va_get (D := D) (ci := 4) (v := .int (σ2.1 2)) (C := nR_X5) (T := nT_X5) (N := 10) hx hb hw wu_X5 hown hK hP 0 xc_0 rfl 5 (by decide) (hw _ wm_234) (fun _ h9 => h9) rfl nD_X5_openNextCall_12 ?_
  refine lv_iconst (v := (1 : Int32)) hx hb nD_X5_openNextCall_15 (by decide) ?_
  refine lv_iadd hx hb nD_X5_openNextCall_16 ?_
  refine va_put (D := D) (ci := 4) (v := .int ((σ2.1 2) + (1 : Int32))) (ty := .int) (C := nR_X5) (T := nT_X5) (N := 10) hx hb hw wu_X5 nY_X5 nO_X5 nN_X5 hown hK hP hD hS 0 xc_0 rfl 5 (by decide) (hw _ wm_234) (fun _ h9 => h9) rfl (by decide +kernel) rfl rfl (Nat.le_of_ble_eq_true rfl) nD_X5_openNextCall_17 (fun H locs hP hD hS => ?_)
  obtain ⟨σ3, e_σ3⟩ : ∃ z : zS, z = zI σ2 2 ((σ2.1 2) + (1 : Int32)) := ⟨_, rfl⟩
  obtain ⟨hP, hD⟩ := znew (w := zX a tc) e_σ3 (xp_0_5) hP hD
  have h := h σ3 e_σ3
  clear e_σ3
  refine lv_aload_n hx hb nD_X5_openNextCall_20 rfl (lv_at hl 0 rfl) ?_
  refine lv_dup hx hb nD_X5_openNextCall_21 rfl ?_
  refine va_get (D := D) (ci := 4) (v := .int (σ3.1 5)) (C := nR_X5) (T := nT_X5) (N := 10) hx hb hw wu_X5 hown hK hP 0 xc_0 rfl 8 (by decide) (hw _ wm_237) (fun _ h9 => h9) rfl nD_X5_openNextCall_22 ?_
  refine lv_iconst (v := (1 : Int32)) hx hb nD_X5_openNextCall_25 (by decide) ?_
  refine lv_iadd hx hb nD_X5_openNextCall_26 ?_
  refine va_put (D := D) (ci := 4) (v := .int ((σ3.1 5) + (1 : Int32))) (ty := .int) (C := nR_X5) (T := nT_X5) (N := 10) hx hb hw wu_X5 nY_X5 nO_X5 nN_X5 hown hK hP hD hS 0 xc_0 rfl 8 (by decide) (hw _ wm_237) (fun _ h9 => h9) rfl (by decide +kernel) rfl rfl (Nat.le_of_ble_eq_true rfl) nD_X5_openNextCall_27 (fun H locs hP hD hS => ?_)
  obtain ⟨σ4, e_σ4⟩ : ∃ z : zS, z = zI σ3 5 ((σ3.1 5) + (1 : Int32)) := ⟨_, rfl⟩
  obtain ⟨hP, hD⟩ := znew (w := zX a tc) e_σ4 (xp_0_8) hP hD
  have h := h σ4 e_σ4
  clear e_σ4
  exact mw_v hx hb hr hlocks ⟨σ4, rfl, h⟩ hP hK hD hS nD_X5_openNextCall_30
set_option maxHeartbeats 4000000 in
set_option maxRecDepth 100000 in
theorem c_X5_closeOpenCall (l : Launch) (D : va_G) (tc : Nat → ClassId) (a : Nat → Nat) (x1 : Int32) (σ : zS) (post : zS → Prop) (h : j_X5_closeOpenCall x1 σ post) : mWv l nM_X5_closeOpenCall nC_X5_closeOpenCall 2 ({ frames := 0, cells := 0, slots := 0, locals := 0 } : Room) D (ztX tc) [.ref (a 0), .int x1] (zX a tc σ) (zQv (zX a tc) post) := by
  intro sz
  refine mt_W (by decide) (Nat.le_of_ble_eq_true rfl) ?_
  intro p e s m below meth c ls hx hb hml hr hown hlocks hin hw hn hP hK hD hS hA hl hsz
  subst hsz
  have hl : lv_has ls 2 [(0, .ref (a 0)), (1, .int x1)] := hl
  unfold j_X5_closeOpenCall at h
  refine lv_aload_n hx hb nD_X5_closeOpenCall_0 rfl (lv_at hl 0 rfl) ?_
  refine va_get (D := D) (ci := 4) (v := .ref (a 3)) (C := nR_X5) (T := nT_X5) (N := 10) hx hb hw wu_X5 hown hK hP 0 xc_0 rfl 2 (by decide) (hw _ wm_231) (fun _ h9 => h9) rfl nD_X5_closeOpenCall_1 ?_
  refine lv_iload_n hx hb nD_X5_closeOpenCall_4 rfl (lv_at hl 1 rfl) ?_
  refine lv_iconst (v := (-1 : Int32)) hx hb nD_X5_closeOpenCall_5 (by decide) ?_
  obtain ⟨hi1, h⟩ := h
  refine va_iast (D := D) hx hb hK hP hD hS 3 1 xc_3 rfl hi1 nD_X5_closeOpenCall_6 (fun H locs hP hD hS => ?_)
  obtain ⟨σ2, e_σ2⟩ : ∃ z : zS, z = zA σ 0 x1.toNatClampNeg (-1 : Int32) := ⟨_, rfl⟩
  obtain ⟨hP, hD⟩ := znew (w := zX a tc) e_σ2 (xa_3) hP hD
  have h := h σ2 e_σ2
  clear e_σ2
  refine lv_aload_n hx hb nD_X5_closeOpenCall_7 rfl (lv_at hl 0 rfl) ?_
  refine lv_dup hx hb nD_X5_closeOpenCall_8 rfl ?_
  refine va_get (D := D) (ci := 4) (v := .int (σ2.1 5)) (C := nR_X5) (T := nT_X5) (N := 10) hx hb hw wu_X5 hown hK hP 0 xc_0 rfl 8 (by decide) (hw _ wm_237) (fun _ h9 => h9) rfl nD_X5_closeOpenCall_9 ?_
  refine lv_iconst (v := (1 : Int32)) hx hb nD_X5_closeOpenCall_12 (by decide) ?_
  refine lv_iadd hx hb nD_X5_closeOpenCall_13 ?_
  refine va_put (D := D) (ci := 4) (v := .int ((σ2.1 5) + (1 : Int32))) (ty := .int) (C := nR_X5) (T := nT_X5) (N := 10) hx hb hw wu_X5 nY_X5 nO_X5 nN_X5 hown hK hP hD hS 0 xc_0 rfl 8 (by decide) (hw _ wm_237) (fun _ h9 => h9) rfl (by decide +kernel) rfl rfl (Nat.le_of_ble_eq_true rfl) nD_X5_closeOpenCall_14 (fun H locs hP hD hS => ?_)
  obtain ⟨σ3, e_σ3⟩ : ∃ z : zS, z = zI σ2 5 ((σ2.1 5) + (1 : Int32)) := ⟨_, rfl⟩
  obtain ⟨hP, hD⟩ := znew (w := zX a tc) e_σ3 (xp_0_8) hP hD
  have h := h σ3 e_σ3
  clear e_σ3
  exact mw_v hx hb hr hlocks ⟨σ3, rfl, h⟩ hP hK hD hS nD_X5_closeOpenCall_17
set_option maxHeartbeats 4000000 in
set_option maxRecDepth 100000 in
theorem c_X5_endOpenCall (l : Launch) (D : va_G) (tc : Nat → ClassId) (a : Nat → Nat) (x1 : Int32) (x2 : Int32) (σ : zS) (post : zS → Prop) (h : j_X5_endOpenCall x1 x2 σ post) : mWv l nM_X5_endOpenCall nC_X5_endOpenCall 4 ({ frames := 1, cells := 0, slots := 0, locals := 21 } : Room) D (ztX tc) [.ref (a 0), .int x1, .int x2] (zX a tc σ) (zQv (zX a tc) post) := by
  intro sz
  refine mt_W (by decide) (Nat.le_of_ble_eq_true rfl) ?_
  intro p e s m below meth c ls hx hb hml hr hown hlocks hin hw hn hP hK hD hS hA hl hsz
  subst hsz
  have hl : lv_has ls 4 [(0, .ref (a 0)), (1, .int x1), (2, .int x2)] := hl
  unfold j_X5_endOpenCall at h
  refine lv_aload_n hx hb nD_X5_endOpenCall_0 rfl (lv_at hl 0 rfl) ?_
  refine va_get (D := D) (ci := 4) (v := .ref (a 3)) (C := nR_X5) (T := nT_X5) (N := 10) hx hb hw wu_X5 hown hK hP 0 xc_0 rfl 2 (by decide) (hw _ wm_231) (fun _ h9 => h9) rfl nD_X5_endOpenCall_1 ?_
  refine lv_iload_n hx hb nD_X5_endOpenCall_4 rfl (lv_at hl 1 rfl) ?_
  obtain ⟨hi1, h⟩ := h
  refine va_iald (D := D) hx hb hK hP 3 1 xc_3 rfl hi1 nD_X5_endOpenCall_5 ?_
  refine lv_topi (fun v2 e_v2 => ?_)
  have h := h v2 e_v2
  clear e_v2
  refine lv_istore_n hx hb nD_X5_endOpenCall_6 rfl hl (by decide) rfl (fun ls hl => ?_)
  have hl : lv_has ls 4 [(3, .int v2), (0, .ref (a 0)), (1, .int x1), (2, .int x2)] := hl
  refine lv_aload_n hx hb nD_X5_endOpenCall_7 rfl (lv_at hl 1 rfl) ?_
  refine va_get (D := D) (ci := 4) (v := .ref (a 2)) (C := nR_X5) (T := nT_X5) (N := 10) hx hb hw wu_X5 hown hK hP 0 xc_0 rfl 1 (by decide) (hw _ wm_230) (fun _ h9 => h9) rfl nD_X5_endOpenCall_8 ?_
  refine lv_iload_n hx hb nD_X5_endOpenCall_11 rfl (lv_at hl 0 rfl) ?_
  obtain ⟨hi3, h⟩ := h
  refine va_aldq (D := D) hx hb hK hP 2 0 xc_2 rfl hi3 nD_X5_endOpenCall_12 ?_
  refine W.eq (g2 := F0 m 13 ls [.ref (a (11 + v2.toNatClampNeg))]) rfl ?_
  refine lv_iload_n hx hb nD_X5_endOpenCall_13 rfl (lv_at hl 3 rfl) ?_
  refine va_putN (D := D) (ci := 0) (v := .int x2) (ty := .int) (C := nR_X0) (T := nT_X0) (N := 5) hx hb hw wu_X0 nY_X0 nO_X0 nN_X0 hown hK hP hD hS (11 + v2.toNatClampNeg) (xcC (zin hi3)) rfl 4 (by decide) (hn.use wn_114) (fun _ h9 => h9) rfl (by decide +kernel) rfl rfl (Nat.le_of_ble_eq_true rfl) nD_X5_endOpenCall_14 (fun H locs hP hD hS => ?_)
  obtain ⟨σ4, e_σ4⟩ : ∃ z : zS, z = zA σ 9 v2.toNatClampNeg x2 := ⟨_, rfl⟩
  obtain ⟨hP, hD⟩ := znew (w := zX a tc) e_σ4 (xpC_4 (zin hi3)) hP hD
  have h := h σ4 e_σ4
  clear e_σ4
  refine lv_aload_n hx hb nD_X5_endOpenCall_17 rfl (lv_at hl 1 rfl) ?_
  refine lv_dup hx hb nD_X5_endOpenCall_18 rfl ?_
  refine va_get (D := D) (ci := 4) (v := .int (σ4.1 3)) (C := nR_X5) (T := nT_X5) (N := 10) hx hb hw wu_X5 hown hK hP 0 xc_0 rfl 6 (by decide) (hw _ wm_235) (fun _ h9 => h9) rfl nD_X5_endOpenCall_19 ?_
  refine lv_iconst (v := (1 : Int32)) hx hb nD_X5_endOpenCall_22 (by decide) ?_
  refine lv_iload_n hx hb nD_X5_endOpenCall_23 rfl (lv_at hl 0 rfl) ?_
  refine lv_ishl hx hb nD_X5_endOpenCall_24 ?_
  refine lv_ior hx hb nD_X5_endOpenCall_25 ?_
  refine va_put (D := D) (ci := 4) (v := .int ((σ4.1 3) ||| ((1 : Int32) <<< (v2 &&& 31)))) (ty := .int) (C := nR_X5) (T := nT_X5) (N := 10) hx hb hw wu_X5 nY_X5 nO_X5 nN_X5 hown hK hP hD hS 0 xc_0 rfl 6 (by decide) (hw _ wm_235) (fun _ h9 => h9) rfl (by decide +kernel) rfl rfl (Nat.le_of_ble_eq_true rfl) nD_X5_endOpenCall_26 (fun H locs hP hD hS => ?_)
  obtain ⟨σ5, e_σ5⟩ : ∃ z : zS, z = zI σ4 3 ((σ4.1 3) ||| ((1 : Int32) <<< (v2 &&& 31))) := ⟨_, rfl⟩
  obtain ⟨hP, hD⟩ := znew (w := zX a tc) e_σ5 (xp_0_6) hP hD
  have h := h σ5 e_σ5
  clear e_σ5
  refine lv_aload_n hx hb nD_X5_endOpenCall_29 rfl (lv_at hl 1 rfl) ?_
  refine lv_iload_n hx hb nD_X5_endOpenCall_30 rfl (lv_at hl 2 rfl) ?_
  refine zC_v (va_runV (As := [.int x1]) (rest := []) ⟨hx, hb, hml, hown, hw⟩ (c_X5_closeOpenCall l D tc a x1 σ5 _ h _) (mcV 1 hw wm_313 wm_310 wm_312 wm_12 wm_25 rfl rfl nh_X5_closeOpenCall ⟨Nat.le_of_ble_eq_true rfl, Nat.le_of_ble_eq_true rfl⟩) (zp_V (ci := 4) hP hD hK hn rfl xc_0) rfl rfl hl.1 rfl (lv_room (Nat.le_of_ble_eq_true rfl)) nD_X5_endOpenCall_31 ⟨Nat.zero_le _, Nat.zero_le _⟩) hD hS hA (fun σ6 H locs h hP hD hS => ?_)
  exact mw_v hx hb hr hlocks ⟨σ6, rfl, h⟩ hP hK hD hS nD_X5_endOpenCall_34
set_option maxHeartbeats 4000000 in
set_option maxRecDepth 100000 in
theorem c_X5_events (l : Launch) (D : va_G) (tc : Nat → ClassId) (a : Nat → Nat) (σ : zS) (post : Int32 → zS → Prop) (h : j_X5_events  σ post) : mWi l nM_X5_events nC_X5_events 1 (some .int) ({ frames := 0, cells := 0, slots := 0, locals := 0 } : Room) D (ztX tc) [.ref (a 0)] (zX a tc σ) (zQi (zX a tc) post) := by
  intro sz
  refine mt_W (by decide) (Nat.le_of_ble_eq_true rfl) ?_
  intro p e s m below meth c ls hx hb hml hr hown hlocks hin hw hn hP hK hD hS hA hl hsz
  subst hsz
  have hl : lv_has ls 1 [(0, .ref (a 0))] := hl
  unfold j_X5_events at h
  refine lv_aload_n hx hb nD_X5_events_0 rfl (lv_at hl 0 rfl) ?_
  refine va_get (D := D) (ci := 4) (v := .int (σ.1 5)) (C := nR_X5) (T := nT_X5) (N := 10) hx hb hw wu_X5 hown hK hP 0 xc_0 rfl 8 (by decide) (hw _ wm_237) (fun _ h9 => h9) rfl nD_X5_events_1 ?_
  exact mw_i hx hb hr hlocks ⟨σ, rfl, h⟩ hP hK hD hS nD_X5_events_4
set_option maxHeartbeats 4000000 in
set_option maxRecDepth 100000 in
theorem c_X5_begun (l : Launch) (D : va_G) (tc : Nat → ClassId) (a : Nat → Nat) (σ : zS) (post : Int32 → zS → Prop) (h : j_X5_begun  σ post) : mWi l nM_X5_begun nC_X5_begun 1 (some .int) ({ frames := 0, cells := 0, slots := 0, locals := 0 } : Room) D (ztX tc) [.ref (a 0)] (zX a tc σ) (zQi (zX a tc) post) := by
  intro sz
  refine mt_W (by decide) (Nat.le_of_ble_eq_true rfl) ?_
  intro p e s m below meth c ls hx hb hml hr hown hlocks hin hw hn hP hK hD hS hA hl hsz
  subst hsz
  have hl : lv_has ls 1 [(0, .ref (a 0))] := hl
  unfold j_X5_begun at h
  refine lv_aload_n hx hb nD_X5_begun_0 rfl (lv_at hl 0 rfl) ?_
  refine va_get (D := D) (ci := 4) (v := .int (σ.1 2)) (C := nR_X5) (T := nT_X5) (N := 10) hx hb hw wu_X5 hown hK hP 0 xc_0 rfl 5 (by decide) (hw _ wm_234) (fun _ h9 => h9) rfl nD_X5_begun_1 ?_
  exact mw_i hx hb hr hlocks ⟨σ, rfl, h⟩ hP hK hD hS nD_X5_begun_4
set_option maxHeartbeats 4000000 in
set_option maxRecDepth 100000 in
theorem c_X5_fits (l : Launch) (D : va_G) (tc : Nat → ClassId) (a : Nat → Nat) (σ : zS) (post : Int32 → zS → Prop) (h : j_X5_fits  σ post) : mWi l nM_X5_fits nC_X5_fits 1 (some .boolean) ({ frames := 0, cells := 0, slots := 0, locals := 0 } : Room) D (ztX tc) [.ref (a 0)] (zX a tc σ) (zQi (zX a tc) post) := by
  intro sz
  refine mt_W (by decide) (Nat.le_of_ble_eq_true rfl) ?_
  intro p e s m below meth c ls hx hb hml hr hown hlocks hin hw hn hP hK hD hS hA hl hsz
  subst hsz
  have hl : lv_has ls 1 [(0, .ref (a 0))] := hl
  unfold j_X5_fits at h
  refine lv_aload_n hx hb nD_X5_fits_0 rfl (lv_at hl 0 rfl) ?_
  refine va_get (D := D) (ci := 4) (v := .ref (a 5)) (C := nR_X5) (T := nT_X5) (N := 10) hx hb hw wu_X5 hown hK hP 0 xc_0 rfl 4 (by decide) (hw _ wm_233) (fun _ h9 => h9) rfl nD_X5_fits_1 ?_
  refine va_getN (D := D) (ci := 1) (v := .int (σ.1 7)) (C := nR_X1) (T := nT_X1) (N := 4) hx hb hw wu_X1 hown hK hP 5 xc_5 rfl 3 (by decide) (hn.use wn_90) (fun _ h9 => h9) rfl nD_X5_fits_4 ?_
  refine lv_if_le (tgt := 14) hx hb nD_X5_fits_7 (by decide) (fun hc => ?_) (fun hc => ?_)
  · have h := h.1 hc
    refine lv_iconst (v := (0 : Int32)) hx hb nD_X5_fits_14 (by decide) ?_
    exact mw_z hx hb hr hlocks rfl ⟨σ, rfl, h⟩ hP hK hD hS nD_X5_fits_15
  · have h := h.2 hc
    refine lv_iconst (v := (1 : Int32)) hx hb nD_X5_fits_10 (by decide) ?_
    refine lv_goto (tgt := 15) hx hb nD_X5_fits_11 (by decide) ?_
    exact mw_z hx hb hr hlocks rfl ⟨σ, rfl, h⟩ hP hK hD hS nD_X5_fits_15
set_option maxHeartbeats 4000000 in
set_option maxRecDepth 100000 in
theorem c_X5_brokenAt (l : Launch) (D : va_G) (tc : Nat → ClassId) (a : Nat → Nat) (σ : zS) (post : Int32 → zS → Prop) (h : j_X5_brokenAt  σ post) : mWi l nM_X5_brokenAt nC_X5_brokenAt 1 (some .int) ({ frames := 0, cells := 0, slots := 0, locals := 0 } : Room) D (ztX tc) [.ref (a 0)] (zX a tc σ) (zQi (zX a tc) post) := by
  intro sz
  refine mt_W (by decide) (Nat.le_of_ble_eq_true rfl) ?_
  intro p e s m below meth c ls hx hb hml hr hown hlocks hin hw hn hP hK hD hS hA hl hsz
  subst hsz
  have hl : lv_has ls 1 [(0, .ref (a 0))] := hl
  unfold j_X5_brokenAt at h
  refine lv_aload_n hx hb nD_X5_brokenAt_0 rfl (lv_at hl 0 rfl) ?_
  refine va_get (D := D) (ci := 4) (v := .int (σ.1 6)) (C := nR_X5) (T := nT_X5) (N := 10) hx hb hw wu_X5 hown hK hP 0 xc_0 rfl 9 (by decide) (hw _ wm_238) (fun _ h9 => h9) rfl nD_X5_brokenAt_1 ?_
  exact mw_i hx hb hr hlocks ⟨σ, rfl, h⟩ hP hK hD hS nD_X5_brokenAt_4
set_option maxHeartbeats 4000000 in
set_option maxRecDepth 100000 in
theorem c_X5_explanations (l : Launch) (D : va_G) (tc : Nat → ClassId) (a : Nat → Nat) (σ : zS) (post : Int64 → zS → Prop) (h : j_X5_explanations  σ post) : mWl l nM_X5_explanations nC_X5_explanations 1 ({ frames := 0, cells := 0, slots := 0, locals := 0 } : Room) D (ztX tc) [.ref (a 0)] (zX a tc σ) (zQl (zX a tc) post) := by
  intro sz
  refine mt_W (by decide) (Nat.le_of_ble_eq_true rfl) ?_
  intro p e s m below meth c ls hx hb hml hr hown hlocks hin hw hn hP hK hD hS hA hl hsz
  subst hsz
  have hl : lv_has ls 1 [(0, .ref (a 0))] := hl
  unfold j_X5_explanations at h
  refine lv_aload_n hx hb nD_X5_explanations_0 rfl (lv_at hl 0 rfl) ?_
  refine va_get (D := D) (ci := 4) (v := .ref (a 5)) (C := nR_X5) (T := nT_X5) (N := 10) hx hb hw wu_X5 hown hK hP 0 xc_0 rfl 4 (by decide) (hw _ wm_233) (fun _ h9 => h9) rfl nD_X5_explanations_1 ?_
  refine va_getN (D := D) (ci := 1) (v := .int (σ.1 7)) (C := nR_X1) (T := nT_X1) (N := 4) hx hb hw wu_X1 hown hK hP 5 xc_5 rfl 3 (by decide) (hn.use wn_90) (fun _ h9 => h9) rfl nD_X5_explanations_4 ?_
  refine lv_i2l (v := (σ.1 7).toInt64) hx hb nD_X5_explanations_7 rfl ?_
  exact mw_l hx hb hr hlocks ⟨σ, rfl, h⟩ hP hK hD hS nD_X5_explanations_8
set_option maxHeartbeats 4000000 in
set_option maxRecDepth 100000 in
theorem c_X5_outcomes (l : Launch) (D : va_G) (tc : Nat → ClassId) (a : Nat → Nat) (σ : zS) (post : Int32 → zS → Prop) (h : j_X5_outcomes  σ post) : mWi l nM_X5_outcomes nC_X5_outcomes 1 (some .int) ({ frames := 0, cells := 0, slots := 0, locals := 0 } : Room) D (ztX tc) [.ref (a 0)] (zX a tc σ) (zQi (zX a tc) post) := by
  intro sz
  refine mt_W (by decide) (Nat.le_of_ble_eq_true rfl) ?_
  intro p e s m below meth c ls hx hb hml hr hown hlocks hin hw hn hP hK hD hS hA hl hsz
  subst hsz
  have hl : lv_has ls 1 [(0, .ref (a 0))] := hl
  unfold j_X5_outcomes at h
  refine lv_aload_n hx hb nD_X5_outcomes_0 rfl (lv_at hl 0 rfl) ?_
  refine va_get (D := D) (ci := 4) (v := .ref (a 5)) (C := nR_X5) (T := nT_X5) (N := 10) hx hb hw wu_X5 hown hK hP 0 xc_0 rfl 4 (by decide) (hw _ wm_233) (fun _ h9 => h9) rfl nD_X5_outcomes_1 ?_
  refine va_getN (D := D) (ci := 1) (v := .ref (a 6)) (C := nR_X1) (T := nT_X1) (N := 4) hx hb hw wu_X1 hown hK hP 5 xc_5 rfl 0 (by decide) (hn.use wn_84) (fun _ h9 => h9) rfl nD_X5_outcomes_4 ?_
  refine va_getN (D := D) (ci := 2) (v := .int (σ.1 8)) (C := nR_X3) (T := nT_X3) (N := 3) hx hb hw wu_X3 hown hK hP 6 xc_6 rfl 2 (by decide) (hn.use wn_73) (fun _ h9 => h9) rfl nD_X5_outcomes_7 ?_
  exact mw_i hx hb hr hlocks ⟨σ, rfl, h⟩ hP hK hD hS nD_X5_outcomes_10
set_option maxHeartbeats 4000000 in
set_option maxRecDepth 100000 in
theorem c_X5_fewest (l : Launch) (D : va_G) (tc : Nat → ClassId) (a : Nat → Nat) (σ : zS) (post : Int32 → zS → Prop) (h : j_X5_fewest  σ post) : mWi l nM_X5_fewest nC_X5_fewest 1 (some .int) ({ frames := 2, cells := 0, slots := 0, locals := 44 } : Room) D (ztX tc) [.ref (a 0)] (zX a tc σ) (zQi (zX a tc) post) := by
  intro sz
  refine mt_W (by decide) (Nat.le_of_ble_eq_true rfl) ?_
  intro p e s m below meth c ls hx hb hml hr hown hlocks hin hw hn hP hK hD hS hA hl hsz
  subst hsz
  have hl : lv_has ls 1 [(0, .ref (a 0))] := hl
  unfold j_X5_fewest at h
  refine lv_aload_n hx hb nD_X5_fewest_0 rfl (lv_at hl 0 rfl) ?_
  refine va_get (D := D) (ci := 4) (v := .ref (a 5)) (C := nR_X5) (T := nT_X5) (N := 10) hx hb hw wu_X5 hown hK hP 0 xc_0 rfl 4 (by decide) (hw _ wm_233) (fun _ h9 => h9) rfl nD_X5_fewest_1 ?_
  refine va_getN (D := D) (ci := 1) (v := .ref (a 6)) (C := nR_X1) (T := nT_X1) (N := 4) hx hb hw wu_X1 hown hK hP 5 xc_5 rfl 0 (by decide) (hn.use wn_84) (fun _ h9 => h9) rfl nD_X5_fewest_4 ?_
  refine zC_i (va_runV (As := []) (rest := []) ⟨hx, hb, hml, hown, hw⟩ (c_X3_shortest l D tc a σ _ h _) (mcV 0 hw wm_350 wm_347 wm_348 wm_349 wm_28 rfl rfl nh_X3_shortest ⟨Nat.le_of_ble_eq_true rfl, Nat.le_of_ble_eq_true rfl⟩) (zp_V (ci := 2) hP hD hK hn rfl xc_6) rfl rfl hl.1 rfl (lv_room (Nat.le_of_ble_eq_true rfl)) nD_X5_fewest_7 ⟨Nat.zero_le _, Nat.zero_le _⟩) hD hS hA (fun r2 σ1 H locs h hP hD hS => ?_)
  exact mw_i hx hb hr hlocks ⟨σ1, rfl, h⟩ hP hK hD hS nD_X5_fewest_10
set_option maxHeartbeats 4000000 in
set_option maxRecDepth 100000 in
theorem c_X5_most (l : Launch) (D : va_G) (tc : Nat → ClassId) (a : Nat → Nat) (σ : zS) (post : Int32 → zS → Prop) (h : j_X5_most  σ post) : mWi l nM_X5_most nC_X5_most 1 (some .int) ({ frames := 2, cells := 0, slots := 0, locals := 43 } : Room) D (ztX tc) [.ref (a 0)] (zX a tc σ) (zQi (zX a tc) post) := by
  intro sz
  refine mt_W (by decide) (Nat.le_of_ble_eq_true rfl) ?_
  intro p e s m below meth c ls hx hb hml hr hown hlocks hin hw hn hP hK hD hS hA hl hsz
  subst hsz
  have hl : lv_has ls 1 [(0, .ref (a 0))] := hl
  unfold j_X5_most at h
  refine lv_aload_n hx hb nD_X5_most_0 rfl (lv_at hl 0 rfl) ?_
  refine va_get (D := D) (ci := 4) (v := .ref (a 5)) (C := nR_X5) (T := nT_X5) (N := 10) hx hb hw wu_X5 hown hK hP 0 xc_0 rfl 4 (by decide) (hw _ wm_233) (fun _ h9 => h9) rfl nD_X5_most_1 ?_
  refine va_getN (D := D) (ci := 1) (v := .ref (a 6)) (C := nR_X1) (T := nT_X1) (N := 4) hx hb hw wu_X1 hown hK hP 5 xc_5 rfl 0 (by decide) (hn.use wn_84) (fun _ h9 => h9) rfl nD_X5_most_4 ?_
  refine zC_i (va_runV (As := []) (rest := []) ⟨hx, hb, hml, hown, hw⟩ (c_X3_longest l D tc a σ _ h _) (mcV 0 hw wm_360 wm_357 wm_358 wm_359 wm_28 rfl rfl nh_X3_longest ⟨Nat.le_of_ble_eq_true rfl, Nat.le_of_ble_eq_true rfl⟩) (zp_V (ci := 2) hP hD hK hn rfl xc_6) rfl rfl hl.1 rfl (lv_room (Nat.le_of_ble_eq_true rfl)) nD_X5_most_7 ⟨Nat.zero_le _, Nat.zero_le _⟩) hD hS hA (fun r2 σ1 H locs h hP hD hS => ?_)
  exact mw_i hx hb hr hlocks ⟨σ1, rfl, h⟩ hP hK hD hS nD_X5_most_10
set_option maxHeartbeats 4000000 in
set_option maxRecDepth 100000 in
theorem c_X5_mayHold (l : Launch) (D : va_G) (tc : Nat → ClassId) (a : Nat → Nat) (x1 : Int32) (x2 : Int32) (σ : zS) (post : Int32 → zS → Prop) (h : j_X5_mayHold x1 x2 σ post) : mWi l nM_X5_mayHold nC_X5_mayHold 3 (some .boolean) ({ frames := 2, cells := 0, slots := 0, locals := 45 } : Room) D (ztX tc) [.ref (a 0), .int x1, .int x2] (zX a tc σ) (zQi (zX a tc) post) := by
  intro sz
  refine mt_W (by decide) (Nat.le_of_ble_eq_true rfl) ?_
  intro p e s m below meth c ls hx hb hml hr hown hlocks hin hw hn hP hK hD hS hA hl hsz
  subst hsz
  have hl : lv_has ls 3 [(0, .ref (a 0)), (1, .int x1), (2, .int x2)] := hl
  unfold j_X5_mayHold at h
  refine lv_aload_n hx hb nD_X5_mayHold_0 rfl (lv_at hl 0 rfl) ?_
  refine va_get (D := D) (ci := 4) (v := .ref (a 5)) (C := nR_X5) (T := nT_X5) (N := 10) hx hb hw wu_X5 hown hK hP 0 xc_0 rfl 4 (by decide) (hw _ wm_233) (fun _ h9 => h9) rfl nD_X5_mayHold_1 ?_
  refine va_getN (D := D) (ci := 1) (v := .ref (a 6)) (C := nR_X1) (T := nT_X1) (N := 4) hx hb hw wu_X1 hown hK hP 5 xc_5 rfl 0 (by decide) (hn.use wn_84) (fun _ h9 => h9) rfl nD_X5_mayHold_4 ?_
  refine lv_iload_n hx hb nD_X5_mayHold_7 rfl (lv_at hl 1 rfl) ?_
  refine lv_iload_n hx hb nD_X5_mayHold_8 rfl (lv_at hl 2 rfl) ?_
  refine zC_i (va_runV (As := [.int x1, .int x2]) (rest := []) ⟨hx, hb, hml, hown, hw⟩ (c_X3_anyHas l D tc a x1 x2 σ _ h _) (mcV 2 hw wm_369 wm_366 wm_367 wm_368 wm_28 rfl rfl nh_X3_anyHas ⟨Nat.le_of_ble_eq_true rfl, Nat.le_of_ble_eq_true rfl⟩) (zp_V (ci := 2) hP hD hK hn rfl xc_6) rfl rfl hl.1 rfl (lv_room (Nat.le_of_ble_eq_true rfl)) nD_X5_mayHold_9 ⟨Nat.zero_le _, Nat.zero_le _⟩) hD hS hA (fun r2 σ1 H locs h hP hD hS => ?_)
  exact mw_z hx hb hr hlocks h.1 ⟨σ1, rfl, h.2⟩ hP hK hD hS nD_X5_mayHold_12
set_option maxHeartbeats 4000000 in
set_option maxRecDepth 100000 in
theorem c_X5_certain (l : Launch) (D : va_G) (tc : Nat → ClassId) (a : Nat → Nat) (x1 : Int32) (σ : zS) (post : Int32 → zS → Prop) (h : j_X5_certain x1 σ post) : mWi l nM_X5_certain nC_X5_certain 2 (some .boolean) ({ frames := 2, cells := 0, slots := 0, locals := 41 } : Room) D (ztX tc) [.ref (a 0), .int x1] (zX a tc σ) (zQi (zX a tc) post) := by
  intro sz
  refine mt_W (by decide) (Nat.le_of_ble_eq_true rfl) ?_
  intro p e s m below meth c ls hx hb hml hr hown hlocks hin hw hn hP hK hD hS hA hl hsz
  subst hsz
  have hl : lv_has ls 2 [(0, .ref (a 0)), (1, .int x1)] := hl
  unfold j_X5_certain at h
  refine lv_aload_n hx hb nD_X5_certain_0 rfl (lv_at hl 0 rfl) ?_
  refine zC_i (va_runV (As := []) (rest := []) ⟨hx, hb, hml, hown, hw⟩ (c_X5_fits l D tc a σ _ h _) (mcV 0 hw wm_228 wm_225 wm_226 wm_227 wm_25 rfl rfl nh_X5_fits ⟨Nat.le_of_ble_eq_true rfl, Nat.le_of_ble_eq_true rfl⟩) (zp_V (ci := 4) hP hD hK hn rfl xc_0) rfl rfl hl.1 rfl (lv_room (Nat.le_of_ble_eq_true rfl)) nD_X5_certain_1 ⟨Nat.zero_le _, Nat.zero_le _⟩) hD hS hA (fun r2 σ1 H locs h hP hD hS => ?_)
  refine lv_if_eq (tgt := 38) hx hb nD_X5_certain_4 (by decide) (fun hc => ?_) (fun hc => ?_)
  · have h := h.1 hc
    refine lv_iconst (v := (0 : Int32)) hx hb nD_X5_certain_38 (by decide) ?_
    exact mw_z hx hb hr hlocks rfl ⟨σ1, rfl, h⟩ hP hK hD hS nD_X5_certain_39
  · have h := h.2 hc
    refine lv_aload_n hx hb nD_X5_certain_7 rfl (lv_at hl 0 rfl) ?_
    refine lv_iload_n hx hb nD_X5_certain_8 rfl (lv_at hl 1 rfl) ?_
    refine zC_i (va_runV (As := [.int x1]) (rest := []) ⟨hx, hb, hml, hown, hw⟩ (c_X5_hasOpenCall l D tc a x1 σ1 _ h _) (mcV 1 hw wm_305 wm_302 wm_304 wm_10 wm_25 rfl rfl nh_X5_hasOpenCall ⟨Nat.le_of_ble_eq_true rfl, Nat.le_of_ble_eq_true rfl⟩) (zp_V (ci := 4) hP hD hK hn rfl xc_0) rfl rfl hl.1 rfl (lv_room (Nat.le_of_ble_eq_true rfl)) nD_X5_certain_9 ⟨Nat.zero_le _, Nat.zero_le _⟩) hD hS hA (fun r4 σ3 H locs h hP hD hS => ?_)
    refine lv_if_eq (tgt := 38) hx hb nD_X5_certain_12 (by decide) (fun hc => ?_) (fun hc => ?_)
    · have h := h.1 hc
      refine lv_iconst (v := (0 : Int32)) hx hb nD_X5_certain_38 (by decide) ?_
      exact mw_z hx hb hr hlocks rfl ⟨σ3, rfl, h⟩ hP hK hD hS nD_X5_certain_39
    · have h := h.2 hc
      refine lv_aload_n hx hb nD_X5_certain_15 rfl (lv_at hl 0 rfl) ?_
      refine va_get (D := D) (ci := 4) (v := .ref (a 5)) (C := nR_X5) (T := nT_X5) (N := 10) hx hb hw wu_X5 hown hK hP 0 xc_0 rfl 4 (by decide) (hw _ wm_233) (fun _ h9 => h9) rfl nD_X5_certain_16 ?_
      refine va_getN (D := D) (ci := 1) (v := .ref (a 9)) (C := nR_X1) (T := nT_X1) (N := 4) hx hb hw wu_X1 hown hK hP 5 xc_5 rfl 1 (by decide) (hn.use wn_86) (fun _ h9 => h9) rfl nD_X5_certain_19 ?_
      refine lv_iload_n hx hb nD_X5_certain_22 rfl (lv_at hl 1 rfl) ?_
      obtain ⟨hi5, h⟩ := h
      refine va_iald (D := D) hx hb hK hP 9 5 xc_9 rfl hi5 nD_X5_certain_23 ?_
      refine lv_aload_n hx hb nD_X5_certain_24 rfl (lv_at hl 0 rfl) ?_
      refine va_get (D := D) (ci := 4) (v := .ref (a 5)) (C := nR_X5) (T := nT_X5) (N := 10) hx hb hw wu_X5 hown hK hP 0 xc_0 rfl 4 (by decide) (hw _ wm_233) (fun _ h9 => h9) rfl nD_X5_certain_25 ?_
      refine va_getN (D := D) (ci := 1) (v := .int (σ3.1 7)) (C := nR_X1) (T := nT_X1) (N := 4) hx hb hw wu_X1 hown hK hP 5 xc_5 rfl 3 (by decide) (hn.use wn_90) (fun _ h9 => h9) rfl nD_X5_certain_28 ?_
      refine lv_icmp_ne (tgt := 38) hx hb nD_X5_certain_31 (by decide) (fun hc => ?_) (fun hc => ?_)
      · have h := h.2 hc
        refine lv_iconst (v := (0 : Int32)) hx hb nD_X5_certain_38 (by decide) ?_
        exact mw_z hx hb hr hlocks rfl ⟨σ3, rfl, h⟩ hP hK hD hS nD_X5_certain_39
      · have h := h.1 hc
        refine lv_iconst (v := (1 : Int32)) hx hb nD_X5_certain_34 (by decide) ?_
        refine lv_goto (tgt := 39) hx hb nD_X5_certain_35 (by decide) ?_
        exact mw_z hx hb hr hlocks rfl ⟨σ3, rfl, h⟩ hP hK hD hS nD_X5_certain_39
set_option maxHeartbeats 4000000 in
set_option maxRecDepth 100000 in
theorem c_X5_answers (l : Launch) (D : va_G) (tc : Nat → ClassId) (a : Nat → Nat) (x1 : Int32) (σ : zS) (post : Int32 → zS → Prop) (h : j_X5_answers x1 σ post) : mWi l nM_X5_answers nC_X5_answers 2 (some .int) ({ frames := 2, cells := 0, slots := 0, locals := 41 } : Room) D (ztX tc) [.ref (a 0), .int x1] (zX a tc σ) (zQi (zX a tc) post) := by
  intro sz
  refine mt_W (by decide) (Nat.le_of_ble_eq_true rfl) ?_
  intro p e s m below meth c ls hx hb hml hr hown hlocks hin hw hn hP hK hD hS hA hl hsz
  subst hsz
  have hl : lv_has ls 2 [(0, .ref (a 0)), (1, .int x1)] := hl
  unfold j_X5_answers at h
  refine lv_aload_n hx hb nD_X5_answers_0 rfl (lv_at hl 0 rfl) ?_
  refine lv_iload_n hx hb nD_X5_answers_1 rfl (lv_at hl 1 rfl) ?_
  refine zC_i (va_runV (As := [.int x1]) (rest := []) ⟨hx, hb, hml, hown, hw⟩ (c_X5_hasOpenCall l D tc a x1 σ _ h _) (mcV 1 hw wm_305 wm_302 wm_304 wm_10 wm_25 rfl rfl nh_X5_hasOpenCall ⟨Nat.le_of_ble_eq_true rfl, Nat.le_of_ble_eq_true rfl⟩) (zp_V (ci := 4) hP hD hK hn rfl xc_0) rfl rfl hl.1 rfl (lv_room (Nat.le_of_ble_eq_true rfl)) nD_X5_answers_2 ⟨Nat.zero_le _, Nat.zero_le _⟩) hD hS hA (fun r2 σ1 H locs h hP hD hS => ?_)
  refine lv_if_eq (tgt := 23) hx hb nD_X5_answers_5 (by decide) (fun hc => ?_) (fun hc => ?_)
  · have h := h.1 hc
    refine lv_iconst (v := (0 : Int32)) hx hb nD_X5_answers_23 (by decide) ?_
    exact mw_i hx hb hr hlocks ⟨σ1, rfl, h⟩ hP hK hD hS nD_X5_answers_24
  · have h := h.2 hc
    refine lv_aload_n hx hb nD_X5_answers_8 rfl (lv_at hl 0 rfl) ?_
    refine va_get (D := D) (ci := 4) (v := .ref (a 5)) (C := nR_X5) (T := nT_X5) (N := 10) hx hb hw wu_X5 hown hK hP 0 xc_0 rfl 4 (by decide) (hw _ wm_233) (fun _ h9 => h9) rfl nD_X5_answers_9 ?_
    refine va_getN (D := D) (ci := 1) (v := .ref (a 10)) (C := nR_X1) (T := nT_X1) (N := 4) hx hb hw wu_X1 hown hK hP 5 xc_5 rfl 2 (by decide) (hn.use wn_88) (fun _ h9 => h9) rfl nD_X5_answers_12 ?_
    refine lv_iload_n hx hb nD_X5_answers_15 rfl (lv_at hl 1 rfl) ?_
    obtain ⟨hi3, h⟩ := h
    refine va_iald (D := D) hx hb hK hP 10 6 xc_10 rfl hi3 nD_X5_answers_16 ?_
    refine vp_callSi (W.runS (As := [.int (σ1.2.1 3 x1.toNatClampNeg)]) (rest := []) ⟨hx, hb, hml, hown, hw⟩ (c_JI_bitCount l (σ1.2.1 3 x1.toNatClampNeg) _ h) (mcS 1 hw wm_381 wm_379 wm_380 wm_34 rfl rfl nh_JI_bitCount ⟨Nat.le_of_ble_eq_true rfl, Nat.le_of_ble_eq_true rfl⟩) mp_S rfl rfl hl.1 rfl (lv_room (Nat.le_of_ble_eq_true rfl)) nD_X5_answers_17 ⟨Nat.zero_le _, Nat.zero_le _⟩) (fun r4 h => ?_)
    refine lv_goto (tgt := 24) hx hb nD_X5_answers_20 (by decide) ?_
    exact mw_i hx hb hr hlocks ⟨σ1, rfl, h⟩ hP hK hD hS nD_X5_answers_24
set_option maxHeartbeats 4000000 in
set_option maxRecDepth 100000 in
theorem c_X5_mayStandNext (l : Launch) (D : va_G) (tc : Nat → ClassId) (a : Nat → Nat) (x1 : Int32) (x2 : Int32) (σ : zS) (post : Int32 → zS → Prop) (h : j_X5_mayStandNext x1 x2 σ post) : mWi l nM_X5_mayStandNext nC_X5_mayStandNext 3 (some .boolean) ({ frames := 1, cells := 0, slots := 0, locals := 21 } : Room) D (ztX tc) [.ref (a 0), .int x1, .int x2] (zX a tc σ) (zQi (zX a tc) post) := by
  intro sz
  refine mt_W (by decide) (Nat.le_of_ble_eq_true rfl) ?_
  intro p e s m below meth c ls hx hb hml hr hown hlocks hin hw hn hP hK hD hS hA hl hsz
  subst hsz
  have hl : lv_has ls 3 [(0, .ref (a 0)), (1, .int x1), (2, .int x2)] := hl
  unfold j_X5_mayStandNext at h
  refine lv_iload_n hx hb nD_X5_mayStandNext_0 rfl (lv_at hl 2 rfl) ?_
  refine lv_aload_n hx hb nD_X5_mayStandNext_1 rfl (lv_at hl 0 rfl) ?_
  refine va_get (D := D) (ci := 4) (v := .int (σ.1 4)) (C := nR_X5) (T := nT_X5) (N := 10) hx hb hw wu_X5 hown hK hP 0 xc_0 rfl 7 (by decide) (hw _ wm_236) (fun _ h9 => h9) rfl nD_X5_mayStandNext_2 ?_
  refine lv_ior hx hb nD_X5_mayStandNext_5 ?_
  refine lv_iload_n hx hb nD_X5_mayStandNext_6 rfl (lv_at hl 1 rfl) ?_
  refine vp_callSi (W.runS (As := [.int (x2 ||| (σ.1 4)), .int x1]) (rest := []) ⟨hx, hb, hml, hown, hw⟩ (c_X5_isIn l (x2 ||| (σ.1 4)) x1 _ h) (mcS 2 hw wm_176 wm_174 wm_175 wm_25 rfl rfl nh_X5_isIn ⟨Nat.le_of_ble_eq_true rfl, Nat.le_of_ble_eq_true rfl⟩) mp_S rfl rfl hl.1 rfl (lv_room (Nat.le_of_ble_eq_true rfl)) nD_X5_mayStandNext_7 ⟨Nat.zero_le _, Nat.zero_le _⟩) (fun r1 h => ?_)
  refine lv_if_ne (tgt := 33) hx hb nD_X5_mayStandNext_10 (by decide) (fun hc => ?_) (fun hc => ?_)
  · have h := h.2 hc
    refine lv_iconst (v := (0 : Int32)) hx hb nD_X5_mayStandNext_33 (by decide) ?_
    exact mw_z hx hb hr hlocks rfl ⟨σ, rfl, h⟩ hP hK hD hS nD_X5_mayStandNext_34
  · have h := h.1 hc
    refine lv_aload_n hx hb nD_X5_mayStandNext_13 rfl (lv_at hl 0 rfl) ?_
    refine va_get (D := D) (ci := 4) (v := .ref (a 2)) (C := nR_X5) (T := nT_X5) (N := 10) hx hb hw wu_X5 hown hK hP 0 xc_0 rfl 1 (by decide) (hw _ wm_230) (fun _ h9 => h9) rfl nD_X5_mayStandNext_14 ?_
    refine lv_iload_n hx hb nD_X5_mayStandNext_17 rfl (lv_at hl 1 rfl) ?_
    obtain ⟨hi2, h⟩ := h
    refine va_aldq (D := D) hx hb hK hP 2 0 xc_2 rfl hi2 nD_X5_mayStandNext_18 ?_
    refine W.eq (g2 := F0 m 19 ls [.ref (a (11 + x1.toNatClampNeg))]) rfl ?_
    refine va_getN (D := D) (ci := 0) (v := .int (σ.2.1 8 x1.toNatClampNeg)) (C := nR_X0) (T := nT_X0) (N := 5) hx hb hw wu_X0 hown hK hP (11 + x1.toNatClampNeg) (xcC (zin hi2)) rfl 3 (by decide) (hn.use wn_113) (fun _ h9 => h9) rfl nD_X5_mayStandNext_19 ?_
    refine lv_iload_n hx hb nD_X5_mayStandNext_22 rfl (lv_at hl 2 rfl) ?_
    refine lv_iconst (v := (-1 : Int32)) hx hb nD_X5_mayStandNext_23 (by decide) ?_
    refine lv_ixor hx hb nD_X5_mayStandNext_24 ?_
    refine lv_iand hx hb nD_X5_mayStandNext_25 ?_
    refine lv_if_ne (tgt := 33) hx hb nD_X5_mayStandNext_26 (by decide) (fun hc => ?_) (fun hc => ?_)
    · have h := h.2 hc
      refine lv_iconst (v := (0 : Int32)) hx hb nD_X5_mayStandNext_33 (by decide) ?_
      exact mw_z hx hb hr hlocks rfl ⟨σ, rfl, h⟩ hP hK hD hS nD_X5_mayStandNext_34
    · have h := h.1 hc
      refine lv_iconst (v := (1 : Int32)) hx hb nD_X5_mayStandNext_29 (by decide) ?_
      refine lv_goto (tgt := 34) hx hb nD_X5_mayStandNext_30 (by decide) ?_
      exact mw_z hx hb hr hlocks rfl ⟨σ, rfl, h⟩ hP hK hD hS nD_X5_mayStandNext_34
set_option maxHeartbeats 4000000 in
set_option maxRecDepth 100000 in
theorem wl_X5_noteExplanation_11 {l : Launch} {p : Program} {e : Env} {s : State} {m : MethodId} {args : Array Value} {below : List Frame} {meth : Method} {c : Code} {D : va_G} {tc : Nat → ClassId} {a : Nat → Nat} {w0 : va_W} (x1 : Int32) (post : zS → Prop) (K : Int32 → zS → Prop) (hx : p.tables.exec = Jvm.exec) (hb : c.code = nC_X5_noteExplanation) (hml : c.maxLocals = 6) (hr : meth.sig.returnType = none) (hown : s.vm.findClass nM_X5_noteExplanation.cls = some m.cls) (hlocks : meth.locks = false) (hw : ∀ w ∈ wA, w.before args s = true) (hn : mN s) (hK : va_K D nCl (ztX tc) s) (hA : ∀ q, s.heap.size ≤ q → va_A w0 s.heap.size q)
    (hk : ∀ (y4 : Int32) (σ : zS) (H : Heap) (locs : List Loc) (ls : Array Slot), K y4 σ → va_P D nCl (zX a tc σ) H → va_D (va_A w0 s.heap.size) (zX a tc σ) → va_S (va_A w0 s.heap.size) s.heap H locs → lv_has ls 6 [(0, .ref (a 0)), (1, .int x1), (4, .int y4)] → W p l e ({ frames := 2, cells := 0, slots := 0, locals := 47 } : Room) s m args below meth c H locs 0 0 (MQ below (va_Qv (zQv (zX a tc) post) (mQW D (ztX tc) w0 s.heap.size) (va_A w0 s.heap.size)) args s 0 0 (va_A w0 s.heap.size)) (F0 m 63 ls [])) : ∀ q : Int32 × zS, zLP (b_X5_noteExplanation_11 x1 post K) q → ∀ (H : Heap) (locs : List Loc) (ls : Array Slot), va_P D nCl (zX a tc q.2) H → va_D (va_A w0 s.heap.size) (zX a tc q.2) → va_S (va_A w0 s.heap.size) s.heap H locs → lv_has ls 6 [(0, .ref (a 0)), (1, .int x1), (4, .int q.1)] → W p l e ({ frames := 2, cells := 0, slots := 0, locals := 47 } : Room) s m args below meth c H locs 0 0 (MQ below (va_Qv (zQv (zX a tc) post) (mQW D (ztX tc) w0 s.heap.size) (va_A w0 s.heap.size)) args s 0 0 (va_A w0 s.heap.size)) (F0 m 11 ls []) := by
  refine zLP_walk ?_
  rintro R ⟨y4, σ⟩ hR h H locs ls hP hD hS hl
  dsimp only at hP hD hl
  dsimp only [b_X5_noteExplanation_11] at h
  refine lv_iload hx hb nD_X5_noteExplanation_11 (lv_at hl 2 rfl) ?_
  refine lv_iconst (v := (3 : Int32)) hx hb nD_X5_noteExplanation_13 (by decide) ?_
  refine lv_icmp_ge (tgt := 63) hx hb nD_X5_noteExplanation_14 (by decide) (fun hc => ?_) (fun hc => ?_)
  · have h := h.1 hc
    exact hk y4 σ _ _ ls h hP hD hS hl
  · have h := h.2 hc
    refine lv_aload_n hx hb nD_X5_noteExplanation_17 rfl (lv_at hl 0 rfl) ?_
    refine va_get (D := D) (ci := 4) (v := .ref (a 3)) (C := nR_X5) (T := nT_X5) (N := 10) hx hb hw wu_X5 hown hK hP 0 xc_0 rfl 2 (by decide) (hw _ wm_231) (fun _ h9 => h9) rfl nD_X5_noteExplanation_18 ?_
    refine lv_iload hx hb nD_X5_noteExplanation_21 (lv_at hl 2 rfl) ?_
    obtain ⟨hi2, h⟩ := h
    refine va_iald (D := D) hx hb hK hP 3 1 xc_3 rfl hi2 nD_X5_noteExplanation_23 ?_
    refine lv_topi (fun v3 e_v3 => ?_)
    have h := h v3 e_v3
    clear e_v3
    refine lv_istore hx hb nD_X5_noteExplanation_24 hl (by decide) rfl (fun ls hl => ?_)
    have hl : lv_has ls 6 [(5, .int v3), (0, .ref (a 0)), (1, .int x1), (4, .int y4)] := hl
    refine lv_iload hx hb nD_X5_noteExplanation_26 (lv_at hl 0 rfl) ?_
    refine lv_iconst (v := (-1 : Int32)) hx hb nD_X5_noteExplanation_28 (by decide) ?_
    refine lv_icmp_eq (tgt := 57) hx hb nD_X5_noteExplanation_29 (by decide) (fun hc => ?_) (fun hc => ?_)
    · have h := h.1 hc
      refine lv_iinc (k := 3) (v := y4 + 1) hx hb nD_X5_noteExplanation_57 hl rfl rfl (by decide) rfl (fun ls hl => ?_)
      have hl : lv_has ls 6 [(4, .int (y4 + 1)), (5, .int v3), (0, .ref (a 0)), (1, .int x1)] := hl
      refine lv_goto (tgt := 11) hx hb nD_X5_noteExplanation_60 (by decide) ?_
      have hl := lv_sub (l' := [(0, .ref (a 0)), (1, .int x1), (4, .int (y4 + 1))]) hl [2, 3, 0] rfl
      exact hR _ h _ _ ls hP hD hS hl
    · have h := h.2 hc
      refine lv_iload_n hx hb nD_X5_noteExplanation_32 rfl (lv_at hl 2 rfl) ?_
      refine lv_iload hx hb nD_X5_noteExplanation_33 (lv_at hl 0 rfl) ?_
      refine vp_callSi (W.runS (As := [.int x1, .int v3]) (rest := []) ⟨hx, hb, hml, hown, hw⟩ (c_X5_isIn l x1 v3 _ h) (mcS 2 hw wm_176 wm_174 wm_175 wm_25 rfl rfl nh_X5_isIn ⟨Nat.le_of_ble_eq_true rfl, Nat.le_of_ble_eq_true rfl⟩) mp_S rfl rfl hl.1 rfl (lv_room (Nat.le_of_ble_eq_true rfl)) nD_X5_noteExplanation_35 ⟨Nat.zero_le _, Nat.zero_le _⟩) (fun r4 h => ?_)
      refine lv_if_eq (tgt := 57) hx hb nD_X5_noteExplanation_38 (by decide) (fun hc => ?_) (fun hc => ?_)
      · have h := h.1 hc
        refine lv_iinc (k := 3) (v := y4 + 1) hx hb nD_X5_noteExplanation_57 hl rfl rfl (by decide) rfl (fun ls hl => ?_)
        have hl : lv_has ls 6 [(4, .int (y4 + 1)), (5, .int v3), (0, .ref (a 0)), (1, .int x1)] := hl
        refine lv_goto (tgt := 11) hx hb nD_X5_noteExplanation_60 (by decide) ?_
        have hl := lv_sub (l' := [(0, .ref (a 0)), (1, .int x1), (4, .int (y4 + 1))]) hl [2, 3, 0] rfl
        exact hR _ h _ _ ls hP hD hS hl
      · have h := h.2 hc
        refine lv_aload_n hx hb nD_X5_noteExplanation_41 rfl (lv_at hl 1 rfl) ?_
        refine va_get (D := D) (ci := 4) (v := .ref (a 5)) (C := nR_X5) (T := nT_X5) (N := 10) hx hb hw wu_X5 hown hK hP 0 xc_0 rfl 4 (by decide) (hw _ wm_233) (fun _ h9 => h9) rfl nD_X5_noteExplanation_42 ?_
        refine lv_iload hx hb nD_X5_noteExplanation_45 (lv_at hl 3 rfl) ?_
        refine lv_aload_n hx hb nD_X5_noteExplanation_47 rfl (lv_at hl 1 rfl) ?_
        refine va_get (D := D) (ci := 4) (v := .ref (a 4)) (C := nR_X5) (T := nT_X5) (N := 10) hx hb hw wu_X5 hown hK hP 0 xc_0 rfl 3 (by decide) (hw _ wm_232) (fun _ h9 => h9) rfl nD_X5_noteExplanation_48 ?_
        refine lv_iload hx hb nD_X5_noteExplanation_51 (lv_at hl 0 rfl) ?_
        obtain ⟨hi5, h⟩ := h
        refine va_iald (D := D) hx hb hK hP 4 2 xc_4 rfl hi5 nD_X5_noteExplanation_53 ?_
        refine zC_v (va_runV (As := [.int y4, .int (σ.2.1 1 v3.toNatClampNeg)]) (rest := []) ⟨hx, hb, hml, hown, hw⟩ (c_X1_addReply l D tc a y4 (σ.2.1 1 v3.toNatClampNeg) σ _ h _) (mcV 2 hw wm_180 wm_177 wm_178 wm_179 wm_27 rfl rfl nh_X1_addReply ⟨Nat.le_of_ble_eq_true rfl, Nat.le_of_ble_eq_true rfl⟩) (zp_V (ci := 1) hP hD hK hn rfl xc_5) rfl rfl hl.1 rfl (lv_room (Nat.le_of_ble_eq_true rfl)) nD_X5_noteExplanation_54 ⟨Nat.zero_le _, Nat.zero_le _⟩) hD hS hA (fun σ6 H locs h hP hD hS => ?_)
        refine lv_iinc (k := 3) (v := y4 + 1) hx hb nD_X5_noteExplanation_57 hl rfl rfl (by decide) rfl (fun ls hl => ?_)
        have hl : lv_has ls 6 [(4, .int (y4 + 1)), (5, .int v3), (0, .ref (a 0)), (1, .int x1)] := hl
        refine lv_goto (tgt := 11) hx hb nD_X5_noteExplanation_60 (by decide) ?_
        have hl := lv_sub (l' := [(0, .ref (a 0)), (1, .int x1), (4, .int (y4 + 1))]) hl [2, 3, 0] rfl
        exact hR _ h _ _ ls hP hD hS hl
set_option maxHeartbeats 4000000 in
set_option maxRecDepth 100000 in
theorem c_X5_noteExplanation (l : Launch) (D : va_G) (tc : Nat → ClassId) (a : Nat → Nat) (x1 : Int32) (x2 : Int64) (σ : zS) (post : zS → Prop) (h : j_X5_noteExplanation x1 x2 σ post) : mWv l nM_X5_noteExplanation nC_X5_noteExplanation 6 ({ frames := 2, cells := 0, slots := 0, locals := 47 } : Room) D (ztX tc) [.ref (a 0), .int x1, .long x2] (zX a tc σ) (zQv (zX a tc) post) := by
  intro sz
  refine mt_W (by decide) (Nat.le_of_ble_eq_true rfl) ?_
  intro p e s m below meth c ls hx hb hml hr hown hlocks hin hw hn hP hK hD hS hA hl hsz
  subst hsz
  have hl : lv_has ls 6 [(0, .ref (a 0)), (1, .int x1), (2, .long x2)] := hl
  unfold j_X5_noteExplanation at h
  refine lv_aload_n hx hb nD_X5_noteExplanation_0 rfl (lv_at hl 0 rfl) ?_
  refine va_get (D := D) (ci := 4) (v := .ref (a 5)) (C := nR_X5) (T := nT_X5) (N := 10) hx hb hw wu_X5 hown hK hP 0 xc_0 rfl 4 (by decide) (hw _ wm_233) (fun _ h9 => h9) rfl nD_X5_noteExplanation_1 ?_
  refine lv_lload_n hx hb nD_X5_noteExplanation_4 rfl (lv_at hl 2 rfl) ?_
  refine zC_v (va_runV (As := [.long x2]) (rest := []) ⟨hx, hb, hml, hown, hw⟩ (c_X1_addExplanation l D tc a x2 σ _ h _) (mcV 1 hw wm_168 wm_165 wm_166 wm_167 wm_27 rfl rfl nh_X1_addExplanation ⟨Nat.le_of_ble_eq_true rfl, Nat.le_of_ble_eq_true rfl⟩) (zp_V (ci := 1) hP hD hK hn rfl xc_5) rfl rfl hl.1 rfl (lv_room (Nat.le_of_ble_eq_true rfl)) nD_X5_noteExplanation_5 ⟨Nat.zero_le _, Nat.zero_le _⟩) hD hS hA (fun σ1 H locs h hP hD hS => ?_)
  refine lv_iconst (v := (0 : Int32)) hx hb nD_X5_noteExplanation_8 (by decide) ?_
  refine lv_istore hx hb nD_X5_noteExplanation_9 hl (by decide) rfl (fun ls hl => ?_)
  have hl : lv_has ls 6 [(4, .int (0 : Int32)), (0, .ref (a 0)), (1, .int x1), (2, .long x2)] := hl
  have hl := lv_sub (l' := [(0, .ref (a 0)), (1, .int x1), (4, .int (0 : Int32))]) hl [1, 2, 0] rfl
  refine wl_X5_noteExplanation_11 (l := l) x1 post _ hx hb hml hr hown hlocks hw hn hK hA (fun v7 σ8 H locs ls h hP hD hS hl => ?_) ((0 : Int32), σ1) h _ _ ls hP hD hS hl
  exact mw_v hx hb hr hlocks ⟨σ8, rfl, h⟩ hP hK hD hS nD_X5_noteExplanation_63
