set_option maxHeartbeats 4000000 in
set_option maxRecDepth 100000 in
theorem cF_X5_carryOut (l : Launch) {rf rl : Nat} (D : va_G) (tc : Nat → ClassId) (a : Nat → Nat) (FL : Int32 → Int64 → Int32 → zS → (zS → Prop) → Prop) {ff fl : Nat} (hFL : ∀ (x0 : Int32) (x1 : Int64) (x2 : Int32) (σ : zS) (post : zS → Prop), FL x0 x1 x2 σ post → mWv l nM_X5_lengthenList nC_X5_lengthenList 6 ({ frames := ff, cells := 0, slots := 0, locals := fl } : Room) D (ztX tc) [.ref (a 0), .int x0, .long x1, .int x2] (zX a tc σ) (zQv (zX a tc) post)) (hRFL : ff + 1 ≤ rf ∧ 8 + (6 + 11) + fl ≤ rl) (hRF : 3 ≤ rf) (hRL : 67 ≤ rl) (x1 : Int32) (x2 : Int32) (x3 : Int64) (x5 : Int32) (σ : zS) (post : zS → Prop) (h : jF_X5_carryOut FL x1 x2 x3 x5 σ post) : mWv l nM_X5_carryOut nC_X5_carryOut 7 ({ frames := rf, cells := 0, slots := 0, locals := rl } : Room) D (ztX tc) [.ref (a 0), .int x1, .int x2, .long x3, .int x5] (zX a tc σ) (zQv (zX a tc) post) := by
  intro sz
  refine mt_W (by decide) (Nat.le_of_ble_eq_true rfl) ?_
  intro p e s m below meth c ls hx hb hml hr hown hlocks hin hw hn hP hK hD hS hA hl hsz
  subst hsz
  have hl : lv_has ls 7 [(0, .ref (a 0)), (1, .int x1), (2, .int x2), (3, .long x3), (5, .int x5)] := hl
  unfold jF_X5_carryOut at h
  refine lv_aload_n hx hb nD_X5_carryOut_0 rfl (lv_at hl 0 rfl) ?_
  refine va_get (D := D) (ci := 4) (v := .ref (a 1)) (C := nR_X5) (T := nT_X5) (N := 10) hx hb hw wu_X5 hown hK hP 0 xc_0 rfl 0 (by decide) (hw _ wm_229) (fun _ h9 => h9) rfl nD_X5_carryOut_1 ?_
  refine lv_aload_n hx hb nD_X5_carryOut_4 rfl (lv_at hl 0 rfl) ?_
  refine va_get (D := D) (ci := 4) (v := .ref (a 2)) (C := nR_X5) (T := nT_X5) (N := 10) hx hb hw wu_X5 hown hK hP 0 xc_0 rfl 1 (by decide) (hw _ wm_230) (fun _ h9 => h9) rfl nD_X5_carryOut_5 ?_
  refine lv_iload_n hx hb nD_X5_carryOut_8 rfl (lv_at hl 1 rfl) ?_
  obtain ⟨hi1, h⟩ := h
  refine va_aldq (D := D) hx hb hK hP 2 0 xc_2 rfl hi1 nD_X5_carryOut_9 ?_
  refine W.eq (g2 := F0 m 10 ls [.ref (a (11 + x1.toNatClampNeg)), .ref (a 1)]) rfl ?_
  refine lv_lload_n hx hb nD_X5_carryOut_10 rfl (lv_at hl 3 rfl) ?_
  refine zC_i (va_runV (As := [.ref (a (11 + x1.toNatClampNeg)), .long x3]) (rest := []) ⟨hx, hb, hml, hown, hw⟩ (c_X4_replyTo l D tc a x1.toNatClampNeg x3 (zin hi1) σ _ h _) (mcV 2 hw wm_192 wm_189 wm_190 wm_191 wm_26 rfl rfl nh_X4_replyTo ⟨Nat.le_trans (Nat.le_of_ble_eq_true rfl) hRF, Nat.le_trans (Nat.le_of_ble_eq_true rfl) hRL⟩) (zp_V (ci := 3) hP hD hK hn rfl xc_1) rfl rfl hl.1 rfl (lv_room (Nat.le_of_ble_eq_true rfl)) nD_X5_carryOut_11 ⟨Nat.zero_le _, Nat.zero_le _⟩) hD hS hA (fun r3 σ2 H locs h hP hD hS => ?_)
  refine lv_istore hx hb nD_X5_carryOut_14 hl (by decide) rfl (fun ls hl => ?_)
  have hl : lv_has ls 7 [(6, .int r3), (0, .ref (a 0)), (1, .int x1), (2, .int x2), (3, .long x3), (5, .int x5)] := hl
  refine lv_aload_n hx hb nD_X5_carryOut_16 rfl (lv_at hl 1 rfl) ?_
  refine va_get (D := D) (ci := 4) (v := .int (σ2.1 3)) (C := nR_X5) (T := nT_X5) (N := 10) hx hb hw wu_X5 hown hK hP 0 xc_0 rfl 6 (by decide) (hw _ wm_235) (fun _ h9 => h9) rfl nD_X5_carryOut_17 ?_
  refine lv_iload_n hx hb nD_X5_carryOut_20 rfl (lv_at hl 2 rfl) ?_
  refine vp_callSi (W.runS (As := [.int (σ2.1 3), .int x1]) (rest := []) ⟨hx, hb, hml, hown, hw⟩ (c_X5_isIn l (σ2.1 3) x1 _ h) (mcS 2 hw wm_176 wm_174 wm_175 wm_25 rfl rfl nh_X5_isIn ⟨Nat.le_trans (Nat.le_of_ble_eq_true rfl) hRF, Nat.le_trans (Nat.le_of_ble_eq_true rfl) hRL⟩) mp_S rfl rfl hl.1 rfl (lv_room (Nat.le_of_ble_eq_true rfl)) nD_X5_carryOut_21 ⟨Nat.zero_le _, Nat.zero_le _⟩) (fun r4 h => ?_)
  refine lv_if_eq (tgt := 42) hx hb nD_X5_carryOut_24 (by decide) (fun hc => ?_) (fun hc => ?_)
  · have h := h.1 hc
    refine lv_aload_n hx hb nD_X5_carryOut_42 rfl (lv_at hl 1 rfl) ?_
    refine va_get (D := D) (ci := 4) (v := .ref (a 4)) (C := nR_X5) (T := nT_X5) (N := 10) hx hb hw wu_X5 hown hK hP 0 xc_0 rfl 3 (by decide) (hw _ wm_232) (fun _ h9 => h9) rfl nD_X5_carryOut_43 ?_
    refine lv_iload_n hx hb nD_X5_carryOut_46 rfl (lv_at hl 2 rfl) ?_
    refine lv_iload hx hb nD_X5_carryOut_47 (lv_at hl 0 rfl) ?_
    obtain ⟨hi5, h⟩ := h
    refine va_iast (D := D) hx hb hK hP hD hS 4 2 xc_4 rfl hi5 nD_X5_carryOut_49 (fun H locs hP hD hS => ?_)
    obtain ⟨σ6, e_σ6⟩ : ∃ z : zS, z = zA σ2 1 x1.toNatClampNeg r3 := ⟨_, rfl⟩
    obtain ⟨hP, hD⟩ := znew (w := zX a tc) e_σ6 (xa_4) hP hD
    have h := h σ6 e_σ6
    clear e_σ6
    refine lv_aload_n hx hb nD_X5_carryOut_50 rfl (lv_at hl 1 rfl) ?_
    refine lv_iload_n hx hb nD_X5_carryOut_51 rfl (lv_at hl 3 rfl) ?_
    refine lv_iconst (v := (1 : Int32)) hx hb nD_X5_carryOut_52 (by decide) ?_
    refine lv_iload_n hx hb nD_X5_carryOut_53 rfl (lv_at hl 2 rfl) ?_
    refine lv_ishl hx hb nD_X5_carryOut_54 ?_
    refine lv_ior hx hb nD_X5_carryOut_55 ?_
    refine lv_aload_n hx hb nD_X5_carryOut_56 rfl (lv_at hl 1 rfl) ?_
    refine va_get (D := D) (ci := 4) (v := .ref (a 1)) (C := nR_X5) (T := nT_X5) (N := 10) hx hb hw wu_X5 hown hK hP 0 xc_0 rfl 0 (by decide) (hw _ wm_229) (fun _ h9 => h9) rfl nD_X5_carryOut_57 ?_
    refine lv_aload_n hx hb nD_X5_carryOut_60 rfl (lv_at hl 1 rfl) ?_
    refine va_get (D := D) (ci := 4) (v := .ref (a 2)) (C := nR_X5) (T := nT_X5) (N := 10) hx hb hw wu_X5 hown hK hP 0 xc_0 rfl 1 (by decide) (hw _ wm_230) (fun _ h9 => h9) rfl nD_X5_carryOut_61 ?_
    refine lv_iload_n hx hb nD_X5_carryOut_64 rfl (lv_at hl 2 rfl) ?_
    obtain ⟨hi7, h⟩ := h
    refine va_aldq (D := D) hx hb hK hP 2 0 xc_2 rfl hi7 nD_X5_carryOut_65 ?_
    refine W.eq (g2 := F0 m 66 ls [.ref (a (11 + x1.toNatClampNeg)), .ref (a 1), .int (x2 ||| ((1 : Int32) <<< (x1 &&& 31))), .ref (a 0)]) rfl ?_
    refine lv_lload_n hx hb nD_X5_carryOut_66 rfl (lv_at hl 4 rfl) ?_
    refine zC_l (va_runV (As := [.ref (a (11 + x1.toNatClampNeg)), .long x3]) (rest := [.int (x2 ||| ((1 : Int32) <<< (x1 &&& 31))), .ref (a 0)]) ⟨hx, hb, hml, hown, hw⟩ (c_X4_rowAfter l D tc a x1.toNatClampNeg x3 (zin hi7) σ6 _ h _) (mcV 2 hw wm_210 wm_207 wm_208 wm_209 wm_26 rfl rfl nh_X4_rowAfter ⟨Nat.le_trans (Nat.le_of_ble_eq_true rfl) hRF, Nat.le_trans (Nat.le_of_ble_eq_true rfl) hRL⟩) (zp_V (ci := 3) hP hD hK hn rfl xc_1) rfl rfl hl.1 rfl (lv_room (Nat.le_of_ble_eq_true rfl)) nD_X5_carryOut_67 ⟨Nat.zero_le _, Nat.zero_le _⟩) hD hS hA (fun r9 σ8 H locs h hP hD hS => ?_)
    refine lv_iload hx hb nD_X5_carryOut_70 (lv_at hl 5 rfl) ?_
    refine lv_iconst (v := (1 : Int32)) hx hb nD_X5_carryOut_72 (by decide) ?_
    refine lv_iadd hx hb nD_X5_carryOut_73 ?_
    refine zC_v (va_runV (As := [.int (x2 ||| ((1 : Int32) <<< (x1 &&& 31))), .long r9, .int (x5 + (1 : Int32))]) (rest := []) ⟨hx, hb, hml, hown, hw⟩ (hFL (x2 ||| ((1 : Int32) <<< (x1 &&& 31))) r9 (x5 + (1 : Int32)) σ8 _ h _) (mcV 3 hw wm_160 wm_157 wm_159 wm_2 wm_25 rfl rfl nh_X5_lengthenList hRFL) (zp_V (ci := 4) hP hD hK hn rfl xc_0) rfl rfl hl.1 rfl (lv_room (Nat.le_of_ble_eq_true rfl)) nD_X5_carryOut_74 ⟨Nat.zero_le _, Nat.zero_le _⟩) hD hS hA (fun σ10 H locs h hP hD hS => ?_)
    exact mw_v hx hb hr hlocks ⟨σ10, rfl, h⟩ hP hK hD hS nD_X5_carryOut_77
  · have h := h.2 hc
    refine lv_iload hx hb nD_X5_carryOut_27 (lv_at hl 0 rfl) ?_
    refine lv_aload_n hx hb nD_X5_carryOut_29 rfl (lv_at hl 1 rfl) ?_
    refine va_get (D := D) (ci := 4) (v := .ref (a 2)) (C := nR_X5) (T := nT_X5) (N := 10) hx hb hw wu_X5 hown hK hP 0 xc_0 rfl 1 (by decide) (hw _ wm_230) (fun _ h9 => h9) rfl nD_X5_carryOut_30 ?_
    refine lv_iload_n hx hb nD_X5_carryOut_33 rfl (lv_at hl 2 rfl) ?_
    obtain ⟨hi11, h⟩ := h
    refine va_aldq (D := D) hx hb hK hP 2 0 xc_2 rfl hi11 nD_X5_carryOut_34 ?_
    refine W.eq (g2 := F0 m 35 ls [.ref (a (11 + x1.toNatClampNeg)), .int r3]) rfl ?_
    refine va_getN (D := D) (ci := 0) (v := .int (σ2.2.1 9 x1.toNatClampNeg)) (C := nR_X0) (T := nT_X0) (N := 5) hx hb hw wu_X0 hown hK hP (11 + x1.toNatClampNeg) (xcC (zin hi11)) rfl 4 (by decide) (hn.use wn_114) (fun _ h9 => h9) rfl nD_X5_carryOut_35 ?_
    refine lv_icmp_eq (tgt := 42) hx hb nD_X5_carryOut_38 (by decide) (fun hc => ?_) (fun hc => ?_)
    · have h := h.1 hc
      refine lv_aload_n hx hb nD_X5_carryOut_42 rfl (lv_at hl 1 rfl) ?_
      refine va_get (D := D) (ci := 4) (v := .ref (a 4)) (C := nR_X5) (T := nT_X5) (N := 10) hx hb hw wu_X5 hown hK hP 0 xc_0 rfl 3 (by decide) (hw _ wm_232) (fun _ h9 => h9) rfl nD_X5_carryOut_43 ?_
      refine lv_iload_n hx hb nD_X5_carryOut_46 rfl (lv_at hl 2 rfl) ?_
      refine lv_iload hx hb nD_X5_carryOut_47 (lv_at hl 0 rfl) ?_
      obtain ⟨hi12, h⟩ := h
      refine va_iast (D := D) hx hb hK hP hD hS 4 2 xc_4 rfl hi12 nD_X5_carryOut_49 (fun H locs hP hD hS => ?_)
      obtain ⟨σ13, e_σ13⟩ : ∃ z : zS, z = zA σ2 1 x1.toNatClampNeg r3 := ⟨_, rfl⟩
      obtain ⟨hP, hD⟩ := znew (w := zX a tc) e_σ13 (xa_4) hP hD
      have h := h σ13 e_σ13
      clear e_σ13
      refine lv_aload_n hx hb nD_X5_carryOut_50 rfl (lv_at hl 1 rfl) ?_
      refine lv_iload_n hx hb nD_X5_carryOut_51 rfl (lv_at hl 3 rfl) ?_
      refine lv_iconst (v := (1 : Int32)) hx hb nD_X5_carryOut_52 (by decide) ?_
      refine lv_iload_n hx hb nD_X5_carryOut_53 rfl (lv_at hl 2 rfl) ?_
      refine lv_ishl hx hb nD_X5_carryOut_54 ?_
      refine lv_ior hx hb nD_X5_carryOut_55 ?_
      refine lv_aload_n hx hb nD_X5_carryOut_56 rfl (lv_at hl 1 rfl) ?_
      refine va_get (D := D) (ci := 4) (v := .ref (a 1)) (C := nR_X5) (T := nT_X5) (N := 10) hx hb hw wu_X5 hown hK hP 0 xc_0 rfl 0 (by decide) (hw _ wm_229) (fun _ h9 => h9) rfl nD_X5_carryOut_57 ?_
      refine lv_aload_n hx hb nD_X5_carryOut_60 rfl (lv_at hl 1 rfl) ?_
      refine va_get (D := D) (ci := 4) (v := .ref (a 2)) (C := nR_X5) (T := nT_X5) (N := 10) hx hb hw wu_X5 hown hK hP 0 xc_0 rfl 1 (by decide) (hw _ wm_230) (fun _ h9 => h9) rfl nD_X5_carryOut_61 ?_
      refine lv_iload_n hx hb nD_X5_carryOut_64 rfl (lv_at hl 2 rfl) ?_
      obtain ⟨hi14, h⟩ := h
      refine va_aldq (D := D) hx hb hK hP 2 0 xc_2 rfl hi14 nD_X5_carryOut_65 ?_
      refine W.eq (g2 := F0 m 66 ls [.ref (a (11 + x1.toNatClampNeg)), .ref (a 1), .int (x2 ||| ((1 : Int32) <<< (x1 &&& 31))), .ref (a 0)]) rfl ?_
      refine lv_lload_n hx hb nD_X5_carryOut_66 rfl (lv_at hl 4 rfl) ?_
      refine zC_l (va_runV (As := [.ref (a (11 + x1.toNatClampNeg)), .long x3]) (rest := [.int (x2 ||| ((1 : Int32) <<< (x1 &&& 31))), .ref (a 0)]) ⟨hx, hb, hml, hown, hw⟩ (c_X4_rowAfter l D tc a x1.toNatClampNeg x3 (zin hi14) σ13 _ h _) (mcV 2 hw wm_210 wm_207 wm_208 wm_209 wm_26 rfl rfl nh_X4_rowAfter ⟨Nat.le_trans (Nat.le_of_ble_eq_true rfl) hRF, Nat.le_trans (Nat.le_of_ble_eq_true rfl) hRL⟩) (zp_V (ci := 3) hP hD hK hn rfl xc_1) rfl rfl hl.1 rfl (lv_room (Nat.le_of_ble_eq_true rfl)) nD_X5_carryOut_67 ⟨Nat.zero_le _, Nat.zero_le _⟩) hD hS hA (fun r16 σ15 H locs h hP hD hS => ?_)
      refine lv_iload hx hb nD_X5_carryOut_70 (lv_at hl 5 rfl) ?_
      refine lv_iconst (v := (1 : Int32)) hx hb nD_X5_carryOut_72 (by decide) ?_
      refine lv_iadd hx hb nD_X5_carryOut_73 ?_
      refine zC_v (va_runV (As := [.int (x2 ||| ((1 : Int32) <<< (x1 &&& 31))), .long r16, .int (x5 + (1 : Int32))]) (rest := []) ⟨hx, hb, hml, hown, hw⟩ (hFL (x2 ||| ((1 : Int32) <<< (x1 &&& 31))) r16 (x5 + (1 : Int32)) σ15 _ h _) (mcV 3 hw wm_160 wm_157 wm_159 wm_2 wm_25 rfl rfl nh_X5_lengthenList hRFL) (zp_V (ci := 4) hP hD hK hn rfl xc_0) rfl rfl hl.1 rfl (lv_room (Nat.le_of_ble_eq_true rfl)) nD_X5_carryOut_74 ⟨Nat.zero_le _, Nat.zero_le _⟩) hD hS hA (fun σ17 H locs h hP hD hS => ?_)
      exact mw_v hx hb hr hlocks ⟨σ17, rfl, h⟩ hP hK hD hS nD_X5_carryOut_77
    · have h := h.2 hc
      exact mw_v hx hb hr hlocks ⟨σ2, rfl, h⟩ hP hK hD hS nD_X5_carryOut_41
set_option maxHeartbeats 4000000 in
set_option maxRecDepth 100000 in
theorem wl_X5_lengthenList_28 {l : Launch} {p : Program} {e : Env} {s : State} {m : MethodId} {args : Array Value} {below : List Frame} {meth : Method} {c : Code} {D : va_G} {tc : Nat → ClassId} {a : Nat → Nat} {w0 : va_W} {rf rl : Nat} (FC : Int32 → Int32 → Int64 → Int32 → zS → (zS → Prop) → Prop) {ff fl : Nat} (hFC : ∀ (x0 : Int32) (x1 : Int32) (x2 : Int64) (x3 : Int32) (σ : zS) (post : zS → Prop), FC x0 x1 x2 x3 σ post → mWv l nM_X5_carryOut nC_X5_carryOut 7 ({ frames := ff, cells := 0, slots := 0, locals := fl } : Room) D (ztX tc) [.ref (a 0), .int x0, .int x1, .long x2, .int x3] (zX a tc σ) (zQv (zX a tc) post)) (hRFC : ff + 1 ≤ rf ∧ 8 + (7 + 11) + fl ≤ rl) (hRF : 3 ≤ rf) (hRL : 72 ≤ rl) (x1 : Int32) (x2 : Int64) (x4 : Int32) (post : zS → Prop) (K : Int32 → zS → Prop) (hx : p.tables.exec = Jvm.exec) (hb : c.code = nC_X5_lengthenList) (hml : c.maxLocals = 6) (hr : meth.sig.returnType = none) (hown : s.vm.findClass nM_X5_lengthenList.cls = some m.cls) (hlocks : meth.locks = false) (hw : ∀ w ∈ wA, w.before args s = true) (hn : mN s) (hK : va_K D nCl (ztX tc) s) (hA : ∀ q, s.heap.size ≤ q → va_A w0 s.heap.size q)
    (hk : ∀ (y5 : Int32) (σ : zS) (H : Heap) (locs : List Loc) (ls : Array Slot), K y5 σ → va_P D nCl (zX a tc σ) H → va_D (va_A w0 s.heap.size) (zX a tc σ) → va_S (va_A w0 s.heap.size) s.heap H locs → lv_has ls 6 [(0, .ref (a 0)), (1, .int x1), (2, .long x2), (4, .int x4), (5, .int y5)] → W p l e ({ frames := rf, cells := 0, slots := 0, locals := rl } : Room) s m args below meth c H locs 0 0 (MQ below (va_Qv (zQv (zX a tc) post) (mQW D (ztX tc) w0 s.heap.size) (va_A w0 s.heap.size)) args s 0 0 (va_A w0 s.heap.size)) (F0 m 63 ls [])) : ∀ q : Int32 × zS, zLP (b_X5_lengthenList_28 FC x1 x2 x4 post K) q → ∀ (H : Heap) (locs : List Loc) (ls : Array Slot), va_P D nCl (zX a tc q.2) H → va_D (va_A w0 s.heap.size) (zX a tc q.2) → va_S (va_A w0 s.heap.size) s.heap H locs → lv_has ls 6 [(0, .ref (a 0)), (1, .int x1), (2, .long x2), (4, .int x4), (5, .int q.1)] → W p l e ({ frames := rf, cells := 0, slots := 0, locals := rl } : Room) s m args below meth c H locs 0 0 (MQ below (va_Qv (zQv (zX a tc) post) (mQW D (ztX tc) w0 s.heap.size) (va_A w0 s.heap.size)) args s 0 0 (va_A w0 s.heap.size)) (F0 m 28 ls []) := by
  refine zLP_walk ?_
  rintro R ⟨y5, σ⟩ hR h H locs ls hP hD hS hl
  dsimp only at hP hD hl
  dsimp only [b_X5_lengthenList_28] at h
  refine lv_iload hx hb nD_X5_lengthenList_28 (lv_at hl 4 rfl) ?_
  refine lv_aload_n hx hb nD_X5_lengthenList_30 rfl (lv_at hl 0 rfl) ?_
  refine va_get (D := D) (ci := 4) (v := .int (σ.1 2)) (C := nR_X5) (T := nT_X5) (N := 10) hx hb hw wu_X5 hown hK hP 0 xc_0 rfl 5 (by decide) (hw _ wm_234) (fun _ h9 => h9) rfl nD_X5_lengthenList_31 ?_
  refine lv_icmp_ge (tgt := 63) hx hb nD_X5_lengthenList_34 (by decide) (fun hc => ?_) (fun hc => ?_)
  · have h := h.1 hc
    exact hk y5 σ _ _ ls h hP hD hS hl
  · have h := h.2 hc
    refine lv_aload_n hx hb nD_X5_lengthenList_37 rfl (lv_at hl 0 rfl) ?_
    refine lv_iload hx hb nD_X5_lengthenList_38 (lv_at hl 4 rfl) ?_
    refine lv_iload_n hx hb nD_X5_lengthenList_40 rfl (lv_at hl 1 rfl) ?_
    refine zC_i (va_runV (As := [.int y5, .int x1]) (rest := []) ⟨hx, hb, hml, hown, hw⟩ (c_X5_mayStandNext l D tc a y5 x1 σ _ h _) (mcV 2 hw wm_184 wm_181 wm_183 wm_4 wm_25 rfl rfl nh_X5_mayStandNext ⟨Nat.le_trans (Nat.le_of_ble_eq_true rfl) hRF, Nat.le_trans (Nat.le_of_ble_eq_true rfl) hRL⟩) (zp_V (ci := 4) hP hD hK hn rfl xc_0) rfl rfl hl.1 rfl (lv_room (Nat.le_of_ble_eq_true rfl)) nD_X5_lengthenList_41 ⟨Nat.zero_le _, Nat.zero_le _⟩) hD hS hA (fun r2 σ1 H locs h hP hD hS => ?_)
    refine lv_if_eq (tgt := 57) hx hb nD_X5_lengthenList_44 (by decide) (fun hc => ?_) (fun hc => ?_)
    · have h := h.1 hc
      refine lv_iinc (k := 4) (v := y5 + 1) hx hb nD_X5_lengthenList_57 hl rfl rfl (by decide) rfl (fun ls hl => ?_)
      have hl : lv_has ls 6 [(5, .int (y5 + 1)), (0, .ref (a 0)), (1, .int x1), (2, .long x2), (4, .int x4)] := hl
      refine lv_goto (tgt := 28) hx hb nD_X5_lengthenList_60 (by decide) ?_
      have hl := lv_sub (l' := [(0, .ref (a 0)), (1, .int x1), (2, .long x2), (4, .int x4), (5, .int (y5 + 1))]) hl [1, 2, 3, 4, 0] rfl
      exact hR _ h _ _ ls hP hD hS hl
    · have h := h.2 hc
      refine lv_aload_n hx hb nD_X5_lengthenList_47 rfl (lv_at hl 0 rfl) ?_
      refine lv_iload hx hb nD_X5_lengthenList_48 (lv_at hl 4 rfl) ?_
      refine lv_iload_n hx hb nD_X5_lengthenList_50 rfl (lv_at hl 1 rfl) ?_
      refine lv_lload_n hx hb nD_X5_lengthenList_51 rfl (lv_at hl 2 rfl) ?_
      refine lv_iload hx hb nD_X5_lengthenList_52 (lv_at hl 3 rfl) ?_
      refine zC_v (va_runV (As := [.int y5, .int x1, .long x2, .int x4]) (rest := []) ⟨hx, hb, hml, hown, hw⟩ (hFC y5 x1 x2 x4 σ1 _ h _) (mcV 4 hw wm_188 wm_185 wm_187 wm_5 wm_25 rfl rfl nh_X5_carryOut hRFC) (zp_V (ci := 4) hP hD hK hn rfl xc_0) rfl rfl hl.1 rfl (lv_room (Nat.le_of_ble_eq_true rfl)) nD_X5_lengthenList_54 ⟨Nat.zero_le _, Nat.zero_le _⟩) hD hS hA (fun σ3 H locs h hP hD hS => ?_)
      refine lv_iinc (k := 4) (v := y5 + 1) hx hb nD_X5_lengthenList_57 hl rfl rfl (by decide) rfl (fun ls hl => ?_)
      have hl : lv_has ls 6 [(5, .int (y5 + 1)), (0, .ref (a 0)), (1, .int x1), (2, .long x2), (4, .int x4)] := hl
      refine lv_goto (tgt := 28) hx hb nD_X5_lengthenList_60 (by decide) ?_
      have hl := lv_sub (l' := [(0, .ref (a 0)), (1, .int x1), (2, .long x2), (4, .int x4), (5, .int (y5 + 1))]) hl [1, 2, 3, 4, 0] rfl
      exact hR _ h _ _ ls hP hD hS hl
set_option maxHeartbeats 4000000 in
set_option maxRecDepth 100000 in
theorem cF_X5_lengthenList (l : Launch) {rf rl : Nat} (D : va_G) (tc : Nat → ClassId) (a : Nat → Nat) (FC : Int32 → Int32 → Int64 → Int32 → zS → (zS → Prop) → Prop) {ff fl : Nat} (hFC : ∀ (x0 : Int32) (x1 : Int32) (x2 : Int64) (x3 : Int32) (σ : zS) (post : zS → Prop), FC x0 x1 x2 x3 σ post → mWv l nM_X5_carryOut nC_X5_carryOut 7 ({ frames := ff, cells := 0, slots := 0, locals := fl } : Room) D (ztX tc) [.ref (a 0), .int x0, .int x1, .long x2, .int x3] (zX a tc σ) (zQv (zX a tc) post)) (hRFC : ff + 1 ≤ rf ∧ 8 + (7 + 11) + fl ≤ rl) (hRF : 3 ≤ rf) (hRL : 72 ≤ rl) (x1 : Int32) (x2 : Int64) (x4 : Int32) (σ : zS) (post : zS → Prop) (h : jF_X5_lengthenList FC x1 x2 x4 σ post) : mWv l nM_X5_lengthenList nC_X5_lengthenList 6 ({ frames := rf, cells := 0, slots := 0, locals := rl } : Room) D (ztX tc) [.ref (a 0), .int x1, .long x2, .int x4] (zX a tc σ) (zQv (zX a tc) post) := by
  intro sz
  refine mt_W (by decide) (Nat.le_of_ble_eq_true rfl) ?_
  intro p e s m below meth c ls hx hb hml hr hown hlocks hin hw hn hP hK hD hS hA hl hsz
  subst hsz
  have hl : lv_has ls 6 [(0, .ref (a 0)), (1, .int x1), (2, .long x2), (4, .int x4)] := hl
  unfold jF_X5_lengthenList at h
  refine lv_aload_n hx hb nD_X5_lengthenList_0 rfl (lv_at hl 0 rfl) ?_
  refine va_get (D := D) (ci := 4) (v := .int (σ.1 3)) (C := nR_X5) (T := nT_X5) (N := 10) hx hb hw wu_X5 hown hK hP 0 xc_0 rfl 6 (by decide) (hw _ wm_235) (fun _ h9 => h9) rfl nD_X5_lengthenList_1 ?_
  refine lv_iload_n hx hb nD_X5_lengthenList_4 rfl (lv_at hl 1 rfl) ?_
  refine lv_iconst (v := (-1 : Int32)) hx hb nD_X5_lengthenList_5 (by decide) ?_
  refine lv_ixor hx hb nD_X5_lengthenList_6 ?_
  refine lv_iand hx hb nD_X5_lengthenList_7 ?_
  refine lv_if_ne (tgt := 17) hx hb nD_X5_lengthenList_8 (by decide) (fun hc => ?_) (fun hc => ?_)
  · have h := h.2 hc
    refine lv_iload hx hb nD_X5_lengthenList_17 (lv_at hl 3 rfl) ?_
    refine lv_bipush (v := (8 : Int32)) hx hb nD_X5_lengthenList_19 (by decide) ?_
    refine lv_icmp_lt (tgt := 25) hx hb nD_X5_lengthenList_21 (by decide) (fun hc => ?_) (fun hc => ?_)
    · have h := h.1 hc
      refine lv_iconst (v := (0 : Int32)) hx hb nD_X5_lengthenList_25 (by decide) ?_
      refine lv_istore hx hb nD_X5_lengthenList_26 hl (by decide) rfl (fun ls hl => ?_)
      have hl : lv_has ls 6 [(5, .int (0 : Int32)), (0, .ref (a 0)), (1, .int x1), (2, .long x2), (4, .int x4)] := hl
      have hl := lv_sub (l' := [(0, .ref (a 0)), (1, .int x1), (2, .long x2), (4, .int x4), (5, .int (0 : Int32))]) hl [1, 2, 3, 4, 0] rfl
      refine wl_X5_lengthenList_28 (l := l) FC hFC hRFC hRF hRL x1 x2 x4 post _ hx hb hml hr hown hlocks hw hn hK hA (fun v4 σ5 H locs ls h hP hD hS hl => ?_) ((0 : Int32), σ) h _ _ ls hP hD hS hl
      exact mw_v hx hb hr hlocks ⟨σ5, rfl, h⟩ hP hK hD hS nD_X5_lengthenList_63
    · have h := h.2 hc
      exact mw_v hx hb hr hlocks ⟨σ, rfl, h⟩ hP hK hD hS nD_X5_lengthenList_24
  · have h := h.1 hc
    refine lv_aload_n hx hb nD_X5_lengthenList_11 rfl (lv_at hl 0 rfl) ?_
    refine lv_iload_n hx hb nD_X5_lengthenList_12 rfl (lv_at hl 1 rfl) ?_
    refine lv_lload_n hx hb nD_X5_lengthenList_13 rfl (lv_at hl 2 rfl) ?_
    refine zC_v (va_runV (As := [.int x1, .long x2]) (rest := []) ⟨hx, hb, hml, hown, hw⟩ (c_X5_noteExplanation l D tc a x1 x2 σ _ h _) (mcV 2 hw wm_164 wm_161 wm_163 wm_3 wm_25 rfl rfl nh_X5_noteExplanation ⟨Nat.le_trans (Nat.le_of_ble_eq_true rfl) hRF, Nat.le_trans (Nat.le_of_ble_eq_true rfl) hRL⟩) (zp_V (ci := 4) hP hD hK hn rfl xc_0) rfl rfl hl.1 rfl (lv_room (Nat.le_of_ble_eq_true rfl)) nD_X5_lengthenList_14 ⟨Nat.zero_le _, Nat.zero_le _⟩) hD hS hA (fun σ6 H locs h hP hD hS => ?_)
    refine lv_iload hx hb nD_X5_lengthenList_17 (lv_at hl 3 rfl) ?_
    refine lv_bipush (v := (8 : Int32)) hx hb nD_X5_lengthenList_19 (by decide) ?_
    refine lv_icmp_lt (tgt := 25) hx hb nD_X5_lengthenList_21 (by decide) (fun hc => ?_) (fun hc => ?_)
    · have h := h.1 hc
      refine lv_iconst (v := (0 : Int32)) hx hb nD_X5_lengthenList_25 (by decide) ?_
      refine lv_istore hx hb nD_X5_lengthenList_26 hl (by decide) rfl (fun ls hl => ?_)
      have hl : lv_has ls 6 [(5, .int (0 : Int32)), (0, .ref (a 0)), (1, .int x1), (2, .long x2), (4, .int x4)] := hl
      have hl := lv_sub (l' := [(0, .ref (a 0)), (1, .int x1), (2, .long x2), (4, .int x4), (5, .int (0 : Int32))]) hl [1, 2, 3, 4, 0] rfl
      refine wl_X5_lengthenList_28 (l := l) FC hFC hRFC hRF hRL x1 x2 x4 post _ hx hb hml hr hown hlocks hw hn hK hA (fun v7 σ8 H locs ls h hP hD hS hl => ?_) ((0 : Int32), σ6) h _ _ ls hP hD hS hl
      exact mw_v hx hb hr hlocks ⟨σ8, rfl, h⟩ hP hK hD hS nD_X5_lengthenList_63
    · have h := h.2 hc
      exact mw_v hx hb hr hlocks ⟨σ6, rfl, h⟩ hP hK hD hS nD_X5_lengthenList_24
set_option maxRecDepth 100000 in
theorem cLL (l : Launch) (D : va_G) (tc : Nat → ClassId) (a : Nat → Nat) : ∀ (d : Nat) (x1 : Int32) (x2 : Int64) (x4 : Int32) (σ : zS) (post : zS → Prop), jLL d x1 x2 x4 σ post → mWv l nM_X5_lengthenList nC_X5_lengthenList 6 ({ frames := 3 + 2 * d, cells := 0, slots := 0, locals := 72 + 51 * d } : Room) D (ztX tc) [.ref (a 0), .int x1, .long x2, .int x4] (zX a tc σ) (zQv (zX a tc) post) := by
  intro d
  induction d with
  | zero => intro x1 x2 x4 σ post h; exact h.elim
  | succ d ih =>
    intro x1 x2 x4 σ post h
    exact cF_X5_lengthenList (rf := 3 + 2 * (d + 1)) (rl := 72 + 51 * (d + 1)) l D tc a _ (ff := 3 + 2 * d + 1) (fl := 72 + 51 * d + 25) (fun x1 x2 x3 x4 σ post h => cF_X5_carryOut (rf := 3 + 2 * d + 1) (rl := 72 + 51 * d + 25) l D tc a _ (ff := 3 + 2 * d) (fl := 72 + 51 * d) (fun x1 x2 x3 σ post h => ih x1 x2 x3 σ post h) ⟨by omega, by omega⟩ (by omega) (by omega) x1 x2 x3 x4 σ post h) ⟨by omega, by omega⟩ (by omega) (by omega) x1 x2 x4 σ post h
theorem c_X5_lengthenList (l : Launch) (D : va_G) (tc : Nat → ClassId) (a : Nat → Nat) (x1 : Int32) (x2 : Int64) (x4 : Int32) (σ : zS) (post : zS → Prop) (h : j_X5_lengthenList x1 x2 x4 σ post) : mWv l nM_X5_lengthenList nC_X5_lengthenList 6 ({ frames := 21, cells := 0, slots := 0, locals := 531 } : Room) D (ztX tc) [.ref (a 0), .int x1, .long x2, .int x4] (zX a tc σ) (zQv (zX a tc) post) := cLL l D tc a 9 x1 x2 x4 σ post h
