set_option maxHeartbeats 4000000 in
set_option maxRecDepth 100000 in
theorem c_X2_length (l : Launch) (x0 : Int64) (post : Int32 → Prop) (h : j_X2_length x0 post) : mSi l nM_X2_length nC_X2_length 2 (some .int) ({ frames := 0, cells := 0, slots := 0, locals := 0 } : Room) [.long x0] post := by
  refine mt_S (by decide) (Nat.le_of_ble_eq_true rfl) ?_
  intro p e s m below meth c ls hx hb hml hr hown hlocks hw hl
  have hl : lv_has ls 2 [(0, .long x0)] := hl
  unfold j_X2_length at h
  refine lv_lload_n hx hb nD_X2_length_0 rfl (lv_at hl 0 rfl) ?_
  refine lv_bipush (v := (32 : Int32)) hx hb nD_X2_length_1 (by decide) ?_
  refine lv_lushr (v := (x0.toUInt64 >>> ((32 : Int32).toInt64.toUInt64 &&& Int64.toUInt64 63)).toInt64) hx hb nD_X2_length_3 rfl ?_
  refine lv_l2i (v := ((x0.toUInt64 >>> ((32 : Int32).toInt64.toUInt64 &&& Int64.toUInt64 63)).toInt64).toInt32) hx hb nD_X2_length_4 rfl ?_
  exact mr_i hx hb hr hlocks h nD_X2_length_5
set_option maxHeartbeats 4000000 in
set_option maxRecDepth 100000 in
theorem c_X2_valueAt (l : Launch) (x0 : Int64) (x2 : Int32) (post : Int32 → Prop) (h : j_X2_valueAt x0 x2 post) : mSi l nM_X2_valueAt nC_X2_valueAt 3 (some .int) ({ frames := 0, cells := 0, slots := 0, locals := 0 } : Room) [.long x0, .int x2] post := by
  refine mt_S (by decide) (Nat.le_of_ble_eq_true rfl) ?_
  intro p e s m below meth c ls hx hb hml hr hown hlocks hw hl
  have hl : lv_has ls 3 [(0, .long x0), (2, .int x2)] := hl
  unfold j_X2_valueAt at h
  refine lv_lload_n hx hb nD_X2_valueAt_0 rfl (lv_at hl 0 rfl) ?_
  refine lv_iconst (v := (4 : Int32)) hx hb nD_X2_valueAt_1 (by decide) ?_
  refine lv_iload_n hx hb nD_X2_valueAt_2 rfl (lv_at hl 1 rfl) ?_
  refine lv_imul hx hb nD_X2_valueAt_3 ?_
  refine lv_lushr (v := (x0.toUInt64 >>> (((4 : Int32) * x2).toInt64.toUInt64 &&& Int64.toUInt64 63)).toInt64) hx hb nD_X2_valueAt_4 rfl ?_
  refine lv_l2i (v := ((x0.toUInt64 >>> (((4 : Int32) * x2).toInt64.toUInt64 &&& Int64.toUInt64 63)).toInt64).toInt32) hx hb nD_X2_valueAt_5 rfl ?_
  refine lv_bipush (v := (15 : Int32)) hx hb nD_X2_valueAt_6 (by decide) ?_
  refine lv_iand hx hb nD_X2_valueAt_8 ?_
  exact mr_i hx hb hr hlocks h nD_X2_valueAt_9
set_option maxHeartbeats 4000000 in
set_option maxRecDepth 100000 in
theorem c_X2_withBack (l : Launch) (x0 : Int64) (x2 : Int32) (post : Int64 → Prop) (h : j_X2_withBack x0 x2 post) : mSl l nM_X2_withBack nC_X2_withBack 3 ({ frames := 1, cells := 0, slots := 0, locals := 21 } : Room) [.long x0, .int x2] post := by
  refine mt_S (by decide) (Nat.le_of_ble_eq_true rfl) ?_
  intro p e s m below meth c ls hx hb hml hr hown hlocks hw hl
  have hl : lv_has ls 3 [(0, .long x0), (2, .int x2)] := hl
  unfold j_X2_withBack at h
  refine lv_lload_n hx hb nD_X2_withBack_0 rfl (lv_at hl 0 rfl) ?_
  refine lv_iload_n hx hb nD_X2_withBack_1 rfl (lv_at hl 1 rfl) ?_
  refine lv_i2l (v := x2.toInt64) hx hb nD_X2_withBack_2 rfl ?_
  refine lv_iconst (v := (4 : Int32)) hx hb nD_X2_withBack_3 (by decide) ?_
  refine lv_lload_n hx hb nD_X2_withBack_4 rfl (lv_at hl 0 rfl) ?_
  refine vp_callSi (W.runS (As := [.long x0]) (rest := [.int (4 : Int32), .long x2.toInt64, .long x0]) ⟨hx, hb, hml, hown, hw⟩ (c_X2_length l x0 _ h) (mcS 1 hw wm_199 wm_214 wm_198 wm_32 rfl rfl nh_X2_length ⟨Nat.le_of_ble_eq_true rfl, Nat.le_of_ble_eq_true rfl⟩) mp_S rfl rfl hl.1 rfl (lv_room (Nat.le_of_ble_eq_true rfl)) nD_X2_withBack_5 ⟨Nat.zero_le _, Nat.zero_le _⟩) (fun r1 h => ?_)
  refine lv_imul hx hb nD_X2_withBack_8 ?_
  refine lv_lshl (v := x2.toInt64 <<< (((4 : Int32) * r1).toInt64 &&& 63)) hx hb nD_X2_withBack_9 rfl ?_
  refine lv_lor hx hb nD_X2_withBack_10 ?_
  refine lv_ldc2 (v := (4294967296 : Int64)) hx hb hown (hw _ wm_215) nD_X2_withBack_11 ?_
  refine lv_ladd hx hb nD_X2_withBack_14 ?_
  exact mr_l hx hb hr hlocks h nD_X2_withBack_15
set_option maxHeartbeats 4000000 in
set_option maxRecDepth 100000 in
theorem c_X2_withoutBack (l : Launch) (x0 : Int64) (post : Int64 → Prop) (h : j_X2_withoutBack x0 post) : mSl l nM_X2_withoutBack nC_X2_withoutBack 3 ({ frames := 1, cells := 0, slots := 0, locals := 21 } : Room) [.long x0] post := by
  refine mt_S (by decide) (Nat.le_of_ble_eq_true rfl) ?_
  intro p e s m below meth c ls hx hb hml hr hown hlocks hw hl
  have hl : lv_has ls 3 [(0, .long x0)] := hl
  unfold j_X2_withoutBack at h
  refine lv_lload_n hx hb nD_X2_withoutBack_0 rfl (lv_at hl 0 rfl) ?_
  refine vp_callSi (W.runS (As := [.long x0]) (rest := []) ⟨hx, hb, hml, hown, hw⟩ (c_X2_length l x0 _ h) (mcS 1 hw wm_199 wm_214 wm_198 wm_32 rfl rfl nh_X2_length ⟨Nat.le_of_ble_eq_true rfl, Nat.le_of_ble_eq_true rfl⟩) mp_S rfl rfl hl.1 rfl (lv_room (Nat.le_of_ble_eq_true rfl)) nD_X2_withoutBack_1 ⟨Nat.zero_le _, Nat.zero_le _⟩) (fun r1 h => ?_)
  refine lv_iconst (v := (1 : Int32)) hx hb nD_X2_withoutBack_4 (by decide) ?_
  refine lv_isub hx hb nD_X2_withoutBack_5 ?_
  refine lv_topi (fun v2 e_v2 => ?_)
  have h := h v2 e_v2
  clear e_v2
  refine lv_istore_n hx hb nD_X2_withoutBack_6 rfl hl (by decide) rfl (fun ls hl => ?_)
  have hl : lv_has ls 3 [(2, .int v2), (0, .long x0)] := hl
  refine lv_lload_n hx hb nD_X2_withoutBack_7 rfl (lv_at hl 1 rfl) ?_
  refine lv_ldc2 (v := (15 : Int64)) hx hb hown (hw _ wm_219) nD_X2_withoutBack_8 ?_
  refine lv_iconst (v := (4 : Int32)) hx hb nD_X2_withoutBack_11 (by decide) ?_
  refine lv_iload_n hx hb nD_X2_withoutBack_12 rfl (lv_at hl 0 rfl) ?_
  refine lv_imul hx hb nD_X2_withoutBack_13 ?_
  refine lv_lshl (v := (15 : Int64) <<< (((4 : Int32) * v2).toInt64 &&& 63)) hx hb nD_X2_withoutBack_14 rfl ?_
  refine lv_ldc2 (v := (-1 : Int64)) hx hb hown (hw _ wm_220) nD_X2_withoutBack_15 ?_
  refine lv_lxor hx hb nD_X2_withoutBack_18 ?_
  refine lv_land hx hb nD_X2_withoutBack_19 ?_
  refine lv_ldc2 (v := (4294967296 : Int64)) hx hb hown (hw _ wm_215) nD_X2_withoutBack_20 ?_
  refine lv_lsub hx hb nD_X2_withoutBack_23 ?_
  exact mr_l hx hb hr hlocks h nD_X2_withoutBack_24
set_option maxHeartbeats 4000000 in
set_option maxRecDepth 100000 in
theorem c_X2_withoutFront (l : Launch) (x0 : Int64) (post : Int64 → Prop) (h : j_X2_withoutFront x0 post) : mSl l nM_X2_withoutFront nC_X2_withoutFront 4 ({ frames := 1, cells := 0, slots := 0, locals := 21 } : Room) [.long x0] post := by
  refine mt_S (by decide) (Nat.le_of_ble_eq_true rfl) ?_
  intro p e s m below meth c ls hx hb hml hr hown hlocks hw hl
  have hl : lv_has ls 4 [(0, .long x0)] := hl
  unfold j_X2_withoutFront at h
  refine lv_lload_n hx hb nD_X2_withoutFront_0 rfl (lv_at hl 0 rfl) ?_
  refine lv_ldc2 (v := (4294967295 : Int64)) hx hb hown (hw _ wm_224) nD_X2_withoutFront_1 ?_
  refine lv_land hx hb nD_X2_withoutFront_4 ?_
  refine lv_iconst (v := (4 : Int32)) hx hb nD_X2_withoutFront_5 (by decide) ?_
  refine lv_lushr (v := ((x0 &&& (4294967295 : Int64)).toUInt64 >>> ((4 : Int32).toInt64.toUInt64 &&& Int64.toUInt64 63)).toInt64) hx hb nD_X2_withoutFront_6 rfl ?_
  refine lv_topl (fun v1 e_v1 => ?_)
  have h := h v1 e_v1
  clear e_v1
  refine lv_lstore_n hx hb nD_X2_withoutFront_7 rfl hl (by decide) rfl (fun ls hl => ?_)
  have hl : lv_has ls 4 [(2, .long v1), (0, .long x0)] := hl
  refine lv_lload_n hx hb nD_X2_withoutFront_8 rfl (lv_at hl 0 rfl) ?_
  refine lv_lload_n hx hb nD_X2_withoutFront_9 rfl (lv_at hl 1 rfl) ?_
  refine vp_callSi (W.runS (As := [.long x0]) (rest := [.long v1]) ⟨hx, hb, hml, hown, hw⟩ (c_X2_length l x0 _ h) (mcS 1 hw wm_199 wm_214 wm_198 wm_32 rfl rfl nh_X2_length ⟨Nat.le_of_ble_eq_true rfl, Nat.le_of_ble_eq_true rfl⟩) mp_S rfl rfl hl.1 rfl (lv_room (Nat.le_of_ble_eq_true rfl)) nD_X2_withoutFront_10 ⟨Nat.zero_le _, Nat.zero_le _⟩) (fun r2 h => ?_)
  refine lv_iconst (v := (1 : Int32)) hx hb nD_X2_withoutFront_13 (by decide) ?_
  refine lv_isub hx hb nD_X2_withoutFront_14 ?_
  refine lv_i2l (v := (r2 - (1 : Int32)).toInt64) hx hb nD_X2_withoutFront_15 rfl ?_
  refine lv_bipush (v := (32 : Int32)) hx hb nD_X2_withoutFront_16 (by decide) ?_
  refine lv_lshl (v := ((r2 - (1 : Int32)).toInt64) <<< ((32 : Int32).toInt64 &&& 63)) hx hb nD_X2_withoutFront_18 rfl ?_
  refine lv_lor hx hb nD_X2_withoutFront_19 ?_
  exact mr_l hx hb hr hlocks h nD_X2_withoutFront_20
set_option maxHeartbeats 4000000 in
set_option maxRecDepth 100000 in
theorem c_X5_isWorker (l : Launch) (x0 : Int32) (post : Int32 → Prop) (h : j_X5_isWorker x0 post) : mSi l nM_X5_isWorker nC_X5_isWorker 1 (some .boolean) ({ frames := 0, cells := 0, slots := 0, locals := 0 } : Room) [.int x0] post := by
  refine mt_S (by decide) (Nat.le_of_ble_eq_true rfl) ?_
  intro p e s m below meth c ls hx hb hml hr hown hlocks hw hl
  have hl : lv_has ls 1 [(0, .int x0)] := hl
  unfold j_X5_isWorker at h
  refine lv_iload_n hx hb nD_X5_isWorker_0 rfl (lv_at hl 0 rfl) ?_
  refine lv_if_lt (tgt := 13) hx hb nD_X5_isWorker_1 (by decide) (fun hc => ?_) (fun hc => ?_)
  · have h := h.1 hc
    refine lv_iconst (v := (0 : Int32)) hx hb nD_X5_isWorker_13 (by decide) ?_
    exact mr_z hx hb hr hlocks rfl h nD_X5_isWorker_14
  · have h := h.2 hc
    refine lv_iload_n hx hb nD_X5_isWorker_4 rfl (lv_at hl 0 rfl) ?_
    refine lv_iconst (v := (3 : Int32)) hx hb nD_X5_isWorker_5 (by decide) ?_
    refine lv_icmp_ge (tgt := 13) hx hb nD_X5_isWorker_6 (by decide) (fun hc => ?_) (fun hc => ?_)
    · have h := h.1 hc
      refine lv_iconst (v := (0 : Int32)) hx hb nD_X5_isWorker_13 (by decide) ?_
      exact mr_z hx hb hr hlocks rfl h nD_X5_isWorker_14
    · have h := h.2 hc
      refine lv_iconst (v := (1 : Int32)) hx hb nD_X5_isWorker_9 (by decide) ?_
      refine lv_goto (tgt := 14) hx hb nD_X5_isWorker_10 (by decide) ?_
      exact mr_z hx hb hr hlocks rfl h nD_X5_isWorker_14
set_option maxHeartbeats 4000000 in
set_option maxRecDepth 100000 in
theorem c_X5_isValue (l : Launch) (x0 : Int32) (post : Int32 → Prop) (h : j_X5_isValue x0 post) : mSi l nM_X5_isValue nC_X5_isValue 1 (some .boolean) ({ frames := 0, cells := 0, slots := 0, locals := 0 } : Room) [.int x0] post := by
  refine mt_S (by decide) (Nat.le_of_ble_eq_true rfl) ?_
  intro p e s m below meth c ls hx hb hml hr hown hlocks hw hl
  have hl : lv_has ls 1 [(0, .int x0)] := hl
  unfold j_X5_isValue at h
  refine lv_iload_n hx hb nD_X5_isValue_0 rfl (lv_at hl 0 rfl) ?_
  refine lv_if_lt (tgt := 14) hx hb nD_X5_isValue_1 (by decide) (fun hc => ?_) (fun hc => ?_)
  · have h := h.1 hc
    refine lv_iconst (v := (0 : Int32)) hx hb nD_X5_isValue_14 (by decide) ?_
    exact mr_z hx hb hr hlocks rfl h nD_X5_isValue_15
  · have h := h.2 hc
    refine lv_iload_n hx hb nD_X5_isValue_4 rfl (lv_at hl 0 rfl) ?_
    refine lv_bipush (v := (16 : Int32)) hx hb nD_X5_isValue_5 (by decide) ?_
    refine lv_icmp_ge (tgt := 14) hx hb nD_X5_isValue_7 (by decide) (fun hc => ?_) (fun hc => ?_)
    · have h := h.1 hc
      refine lv_iconst (v := (0 : Int32)) hx hb nD_X5_isValue_14 (by decide) ?_
      exact mr_z hx hb hr hlocks rfl h nD_X5_isValue_15
    · have h := h.2 hc
      refine lv_iconst (v := (1 : Int32)) hx hb nD_X5_isValue_10 (by decide) ?_
      refine lv_goto (tgt := 15) hx hb nD_X5_isValue_11 (by decide) ?_
      exact mr_z hx hb hr hlocks rfl h nD_X5_isValue_15
set_option maxHeartbeats 4000000 in
set_option maxRecDepth 100000 in
theorem c_X5_isIn (l : Launch) (x0 : Int32) (x1 : Int32) (post : Int32 → Prop) (h : j_X5_isIn x0 x1 post) : mSi l nM_X5_isIn nC_X5_isIn 2 (some .boolean) ({ frames := 0, cells := 0, slots := 0, locals := 0 } : Room) [.int x0, .int x1] post := by
  refine mt_S (by decide) (Nat.le_of_ble_eq_true rfl) ?_
  intro p e s m below meth c ls hx hb hml hr hown hlocks hw hl
  have hl : lv_has ls 2 [(0, .int x0), (1, .int x1)] := hl
  unfold j_X5_isIn at h
  refine lv_iload_n hx hb nD_X5_isIn_0 rfl (lv_at hl 0 rfl) ?_
  refine lv_iload_n hx hb nD_X5_isIn_1 rfl (lv_at hl 1 rfl) ?_
  refine lv_ishr hx hb nD_X5_isIn_2 ?_
  refine lv_iconst (v := (1 : Int32)) hx hb nD_X5_isIn_3 (by decide) ?_
  refine lv_iand hx hb nD_X5_isIn_4 ?_
  refine lv_if_eq (tgt := 12) hx hb nD_X5_isIn_5 (by decide) (fun hc => ?_) (fun hc => ?_)
  · have h := h.1 hc
    refine lv_iconst (v := (0 : Int32)) hx hb nD_X5_isIn_12 (by decide) ?_
    exact mr_z hx hb hr hlocks rfl h nD_X5_isIn_13
  · have h := h.2 hc
    refine lv_iconst (v := (1 : Int32)) hx hb nD_X5_isIn_8 (by decide) ?_
    refine lv_goto (tgt := 13) hx hb nD_X5_isIn_9 (by decide) ?_
    exact mr_z hx hb hr hlocks rfl h nD_X5_isIn_13
set_option maxHeartbeats 4000000 in
set_option maxRecDepth 100000 in
theorem c_JI_bitCount (l : Launch) (x0 : Int32) (post : Int32 → Prop) (h : j_JI_bitCount x0 post) : mSi l nM_JI_bitCount nC_JI_bitCount 1 (some .int) ({ frames := 0, cells := 0, slots := 0, locals := 0 } : Room) [.int x0] post := by
  refine mt_S (by decide) (Nat.le_of_ble_eq_true rfl) ?_
  intro p e s m below meth c ls hx hb hml hr hown hlocks hw hl
  have hl : lv_has ls 1 [(0, .int x0)] := hl
  unfold j_JI_bitCount at h
  refine lv_iload_n hx hb nD_JI_bitCount_0 rfl (lv_at hl 0 rfl) ?_
  refine lv_iload_n hx hb nD_JI_bitCount_1 rfl (lv_at hl 0 rfl) ?_
  refine lv_iconst (v := (1 : Int32)) hx hb nD_JI_bitCount_2 (by decide) ?_
  refine lv_iushr (v := (x0.toUInt32 >>> ((1 : Int32).toUInt32 &&& Int32.toUInt32 31)).toInt32) hx hb nD_JI_bitCount_3 rfl ?_
  refine lv_ldcw (v := (1431655765 : Int32)) hx hb hown (hw _ wm_382) nD_JI_bitCount_4 ?_
  refine lv_iand hx hb nD_JI_bitCount_7 ?_
  refine lv_isub hx hb nD_JI_bitCount_8 ?_
  refine lv_topi (fun v1 e_v1 => ?_)
  have h := h v1 e_v1
  clear e_v1
  refine lv_istore_n hx hb nD_JI_bitCount_9 rfl hl (by decide) rfl (fun ls hl => ?_)
  have hl : lv_has ls 1 [(0, .int v1)] := hl
  refine lv_iload_n hx hb nD_JI_bitCount_10 rfl (lv_at hl 0 rfl) ?_
  refine lv_ldcw (v := (858993459 : Int32)) hx hb hown (hw _ wm_383) nD_JI_bitCount_11 ?_
  refine lv_iand hx hb nD_JI_bitCount_14 ?_
  refine lv_iload_n hx hb nD_JI_bitCount_15 rfl (lv_at hl 0 rfl) ?_
  refine lv_iconst (v := (2 : Int32)) hx hb nD_JI_bitCount_16 (by decide) ?_
  refine lv_iushr (v := (v1.toUInt32 >>> ((2 : Int32).toUInt32 &&& Int32.toUInt32 31)).toInt32) hx hb nD_JI_bitCount_17 rfl ?_
  refine lv_ldcw (v := (858993459 : Int32)) hx hb hown (hw _ wm_383) nD_JI_bitCount_18 ?_
  refine lv_iand hx hb nD_JI_bitCount_21 ?_
  refine lv_iadd hx hb nD_JI_bitCount_22 ?_
  refine lv_topi (fun v2 e_v2 => ?_)
  have h := h v2 e_v2
  clear e_v2
  refine lv_istore_n hx hb nD_JI_bitCount_23 rfl hl (by decide) rfl (fun ls hl => ?_)
  have hl : lv_has ls 1 [(0, .int v2)] := hl
  refine lv_iload_n hx hb nD_JI_bitCount_24 rfl (lv_at hl 0 rfl) ?_
  refine lv_iload_n hx hb nD_JI_bitCount_25 rfl (lv_at hl 0 rfl) ?_
  refine lv_iconst (v := (4 : Int32)) hx hb nD_JI_bitCount_26 (by decide) ?_
  refine lv_iushr (v := (v2.toUInt32 >>> ((4 : Int32).toUInt32 &&& Int32.toUInt32 31)).toInt32) hx hb nD_JI_bitCount_27 rfl ?_
  refine lv_iadd hx hb nD_JI_bitCount_28 ?_
  refine lv_ldcw (v := (252645135 : Int32)) hx hb hown (hw _ wm_384) nD_JI_bitCount_29 ?_
  refine lv_iand hx hb nD_JI_bitCount_32 ?_
  refine lv_topi (fun v3 e_v3 => ?_)
  have h := h v3 e_v3
  clear e_v3
  refine lv_istore_n hx hb nD_JI_bitCount_33 rfl hl (by decide) rfl (fun ls hl => ?_)
  have hl : lv_has ls 1 [(0, .int v3)] := hl
  refine lv_iload_n hx hb nD_JI_bitCount_34 rfl (lv_at hl 0 rfl) ?_
  refine lv_iload_n hx hb nD_JI_bitCount_35 rfl (lv_at hl 0 rfl) ?_
  refine lv_bipush (v := (8 : Int32)) hx hb nD_JI_bitCount_36 (by decide) ?_
  refine lv_iushr (v := (v3.toUInt32 >>> ((8 : Int32).toUInt32 &&& Int32.toUInt32 31)).toInt32) hx hb nD_JI_bitCount_38 rfl ?_
  refine lv_iadd hx hb nD_JI_bitCount_39 ?_
  refine lv_topi (fun v4 e_v4 => ?_)
  have h := h v4 e_v4
  clear e_v4
  refine lv_istore_n hx hb nD_JI_bitCount_40 rfl hl (by decide) rfl (fun ls hl => ?_)
  have hl : lv_has ls 1 [(0, .int v4)] := hl
  refine lv_iload_n hx hb nD_JI_bitCount_41 rfl (lv_at hl 0 rfl) ?_
  refine lv_iload_n hx hb nD_JI_bitCount_42 rfl (lv_at hl 0 rfl) ?_
  refine lv_bipush (v := (16 : Int32)) hx hb nD_JI_bitCount_43 (by decide) ?_
  refine lv_iushr (v := (v4.toUInt32 >>> ((16 : Int32).toUInt32 &&& Int32.toUInt32 31)).toInt32) hx hb nD_JI_bitCount_45 rfl ?_
  refine lv_iadd hx hb nD_JI_bitCount_46 ?_
  refine lv_topi (fun v5 e_v5 => ?_)
  have h := h v5 e_v5
  clear e_v5
  refine lv_istore_n hx hb nD_JI_bitCount_47 rfl hl (by decide) rfl (fun ls hl => ?_)
  have hl : lv_has ls 1 [(0, .int v5)] := hl
  refine lv_iload_n hx hb nD_JI_bitCount_48 rfl (lv_at hl 0 rfl) ?_
  refine lv_bipush (v := (63 : Int32)) hx hb nD_JI_bitCount_49 (by decide) ?_
  refine lv_iand hx hb nD_JI_bitCount_51 ?_
  exact mr_i hx hb hr hlocks h nD_JI_bitCount_52
